/-! THE CLASS: its rules are reckoned as the model reckons. -/
section CB
variable {m0 : xM} {F I : Nat → Nat → Int32} {L : Nat → Nat → Int64} {R : Nat → Nat → Option Nat} {H : Value} {s w : Nat → Int32} {o : Nat}
/-- a step's number for an operator; a token as a step -/
def csC (c : Nat) : Nat := match c with
  | 2 => 17
  | 3 => 18
  | 4 => 19
  | 5 => 20
  | 14 => 21
  | 6 => 22
  | 7 => 23
  | 8 => 24
  | 9 => 25
  | 10 => 26
  | 12 => 27
  | _ => 28
def csN (t : Nat × Nat) : Nat := if t.1 = 0 then 15 + 32 * t.2 else if t.1 = 1 then t.2 else if t.1 = 11 then 16 else csC t.1
theorem csC_in (c : Nat) : 17 ≤ csC c ∧ csC c ≤ 28 := by
  unfold csC
  split <;> omega
theorem cs_0 {v : Nat} (h : v < 100000) : nI (15 + 32 * v) &&& 31 = 15 := by
  rw [pk_andN (n := 15 + 32 * v) (by omega) (m := 31) 5 (by decide), show (15 + 32 * v) % 2 ^ 5 = 15 by omega]
  rfl
theorem cs_v {v : Nat} (h : v < 100000) : nI (15 + 32 * v) >>> ((5 : Int32) &&& 31) = nI v := by
  rw [pk_shrN (n := 15 + 32 * v) (by omega) _ 5 (by decide)]
  congr 1
  omega
theorem cs_s {v : Nat} (h : v < 32) : nI v &&& 31 = nI v := by
  rw [pk_andN (n := v) (by omega) (m := 31) 5 (by decide), show v % 2 ^ 5 = v by omega]
theorem Rn.cxld {d j pc len pc' : Nat} {ls st : List Value} {Q : Option Value → xM → Prop} {m : xM} {a n k : Nat} {f : Nat → Int32} {i x : Int32} (hG : xG j pc = some (.iaload, len)) (ha : m.2.2 a = some (.inl (0, n, xints f))) (hi : i = nI k) (hk : k < n) (hv : f k = x) (hn : n < 2147483648) (hp : pc + len = pc') (kk : Rn d j pc' ls (.int x :: st) m Q) : Rn d j pc ls (.int i :: .ref a :: st) m Q := by
  subst hi hv
  refine Rn.iald hG ha (vp_in_nI hk hn) hp ?_
  rw [nI_clamp (by omega)]
  exact kk
theorem c_R_joined {d : Nat} {m : xM} (c : Nat) (hc : 2 ≤ c ∧ c < 15 ∧ c ≠ 11) (x y : Int64) : Cl d j_Rule_joined [.int (nI (csC c)), .long x, .long y] m (Pg (opr c x y) m) := by
  show Rn d j_Rule_joined 0 _ _ _ _
  refine Rn.step (pc' := 1) rfl rfl ?_
  match c, hc with
  | 0, hc => omega
  | 1, hc => omega
  | 11, hc => omega
  | 2, _ =>
    refine Rn.tsw (pc1 := 60) rfl (by decide) rfl rfl ?_
    refine Rn.step (pc' := 61) rfl rfl ?_
    refine Rn.step (pc' := 62) rfl rfl ?_
    refine Rn.ladd (pc' := 63) rfl rfl ?_
    exact Rn.retl rfl (rfl) (rfl)
  | 3, _ =>
    refine Rn.tsw (pc1 := 64) rfl (by decide) rfl rfl ?_
    refine Rn.step (pc' := 65) rfl rfl ?_
    refine Rn.step (pc' := 66) rfl rfl ?_
    refine Rn.lsub (pc' := 67) rfl rfl ?_
    exact Rn.retl rfl (rfl) (rfl)
  | 4, _ =>
    refine Rn.tsw (pc1 := 68) rfl (by decide) rfl rfl ?_
    refine Rn.step (pc' := 69) rfl rfl ?_
    refine Rn.step (pc' := 70) rfl rfl ?_
    refine Rn.lmul (pc' := 71) rfl rfl ?_
    exact Rn.retl rfl (rfl) (rfl)
  | 5, _ =>
    refine Rn.tsw (pc1 := 72) rfl (by decide) rfl rfl ?_
    refine Rn.step (pc' := 73) rfl rfl ?_
    refine Rn.ldc2 (v := 0) (pc' := 74) rfl (by decide) rfl ?_
    refine Rn.lcmp (pc' := 75) rfl rfl ?_
    refine Rn.ifc_ne (pc1 := 82) (pc2 := 78) rfl rfl rfl (fun h75 => ?_) (fun h75 => ?_)
    · refine Rn.step (pc' := 83) rfl rfl ?_
      refine Rn.step (pc' := 84) rfl rfl ?_
      refine Rn.ldiv (pc' := 85) rfl (fun e => h75 ((lg_cmp_eq _ _).mpr e)) rfl ?_
      exact Rn.retl rfl ((if_neg (fun e => h75 ((lg_cmp_eq _ _).mpr e))).symm) (rfl)
    · refine Rn.ldc2 (v := 0) (pc' := 79) rfl (by decide) rfl ?_
      refine Rn.step (pc' := 85) rfl rfl ?_
      exact Rn.retl rfl ((if_pos ((lg_cmp_eq _ _).mp h75)).symm) (rfl)
  | 6, _ =>
    refine Rn.tsw (pc1 := 100) rfl (by decide) rfl rfl ?_
    refine Rn.step (pc' := 101) rfl rfl ?_
    refine Rn.step (pc' := 102) rfl rfl ?_
    refine Rn.lcmp (pc' := 103) rfl rfl ?_
    refine Rn.ifc_ge (pc1 := 110) (pc2 := 106) rfl rfl rfl (fun h103 => ?_) (fun h103 => ?_)
    · refine Rn.ldc2 (v := 0) (pc' := 111) rfl (by decide) rfl ?_
      exact Rn.retl rfl ((if_neg (Int64.not_lt.mpr ((lg_cmp_ge _ _).mp h103))).symm) (rfl)
    · refine Rn.ldc2 (v := 1) (pc' := 107) rfl (by decide) rfl ?_
      refine Rn.step (pc' := 111) rfl rfl ?_
      exact Rn.retl rfl ((if_pos (Int64.not_le.mp fun e => h103 ((lg_cmp_ge _ _).mpr e))).symm) (rfl)
  | 7, _ =>
    refine Rn.tsw (pc1 := 112) rfl (by decide) rfl rfl ?_
    refine Rn.step (pc' := 113) rfl rfl ?_
    refine Rn.step (pc' := 114) rfl rfl ?_
    refine Rn.lcmp (pc' := 115) rfl rfl ?_
    refine Rn.ifc_gt (pc1 := 122) (pc2 := 118) rfl rfl rfl (fun h115 => ?_) (fun h115 => ?_)
    · refine Rn.ldc2 (v := 0) (pc' := 123) rfl (by decide) rfl ?_
      exact Rn.retl rfl ((if_neg (Int64.not_le.mpr ((lg_cmp_gt _ _).mp h115))).symm) (rfl)
    · refine Rn.ldc2 (v := 1) (pc' := 119) rfl (by decide) rfl ?_
      refine Rn.step (pc' := 123) rfl rfl ?_
      exact Rn.retl rfl ((if_pos (Int64.not_lt.mp fun e => h115 ((lg_cmp_gt _ _).mpr e))).symm) (rfl)
  | 8, _ =>
    refine Rn.tsw (pc1 := 124) rfl (by decide) rfl rfl ?_
    refine Rn.step (pc' := 125) rfl rfl ?_
    refine Rn.step (pc' := 126) rfl rfl ?_
    refine Rn.lcmp (pc' := 127) rfl rfl ?_
    refine Rn.ifc_ne (pc1 := 134) (pc2 := 130) rfl rfl rfl (fun h127 => ?_) (fun h127 => ?_)
    · refine Rn.ldc2 (v := 0) (pc' := 135) rfl (by decide) rfl ?_
      exact Rn.retl rfl ((if_neg (fun e => h127 ((lg_cmp_eq _ _).mpr e))).symm) (rfl)
    · refine Rn.ldc2 (v := 1) (pc' := 131) rfl (by decide) rfl ?_
      refine Rn.step (pc' := 135) rfl rfl ?_
      exact Rn.retl rfl ((if_pos ((lg_cmp_eq _ _).mp h127)).symm) (rfl)
  | 9, _ =>
    refine Rn.tsw (pc1 := 136) rfl (by decide) rfl rfl ?_
    refine Rn.step (pc' := 137) rfl rfl ?_
    refine Rn.step (pc' := 138) rfl rfl ?_
    refine Rn.lcmp (pc' := 139) rfl rfl ?_
    refine Rn.ifc_lt (pc1 := 146) (pc2 := 142) rfl rfl rfl (fun h139 => ?_) (fun h139 => ?_)
    · refine Rn.ldc2 (v := 0) (pc' := 147) rfl (by decide) rfl ?_
      exact Rn.retl rfl ((if_neg (Int64.not_le.mpr ((lg_cmp_lt _ _).mp h139))).symm) (rfl)
    · refine Rn.ldc2 (v := 1) (pc' := 143) rfl (by decide) rfl ?_
      refine Rn.step (pc' := 147) rfl rfl ?_
      exact Rn.retl rfl ((if_pos (Int64.not_lt.mp fun e => h139 ((lg_cmp_lt _ _).mpr e))).symm) (rfl)
  | 10, _ =>
    refine Rn.tsw (pc1 := 148) rfl (by decide) rfl rfl ?_
    refine Rn.step (pc' := 149) rfl rfl ?_
    refine Rn.step (pc' := 150) rfl rfl ?_
    refine Rn.lcmp (pc' := 151) rfl rfl ?_
    refine Rn.ifc_le (pc1 := 158) (pc2 := 154) rfl rfl rfl (fun h151 => ?_) (fun h151 => ?_)
    · refine Rn.ldc2 (v := 0) (pc' := 159) rfl (by decide) rfl ?_
      exact Rn.retl rfl ((if_neg (Int64.not_lt.mpr ((lg_cmp_le _ _).mp h151))).symm) (rfl)
    · refine Rn.ldc2 (v := 1) (pc' := 155) rfl (by decide) rfl ?_
      refine Rn.step (pc' := 159) rfl rfl ?_
      exact Rn.retl rfl ((if_pos (Int64.not_le.mp fun e => h151 ((lg_cmp_le _ _).mpr e))).symm) (rfl)
  | 12, _ =>
    refine Rn.tsw (pc1 := 160) rfl (by decide) rfl rfl ?_
    refine Rn.step (pc' := 161) rfl rfl ?_
    refine Rn.step (pc' := 162) rfl rfl ?_
    refine Rn.land (pc' := 163) rfl rfl ?_
    exact Rn.retl rfl (rfl) (rfl)
  | 13, _ =>
    refine Rn.tsd (pc1 := 164) rfl (by decide) rfl ?_
    refine Rn.step (pc' := 165) rfl rfl ?_
    refine Rn.step (pc' := 166) rfl rfl ?_
    refine Rn.lor (pc' := 167) rfl rfl ?_
    exact Rn.retl rfl (rfl) (rfl)
  | 14, _ =>
    refine Rn.tsw (pc1 := 86) rfl (by decide) rfl rfl ?_
    refine Rn.step (pc' := 87) rfl rfl ?_
    refine Rn.ldc2 (v := 0) (pc' := 88) rfl (by decide) rfl ?_
    refine Rn.lcmp (pc' := 89) rfl rfl ?_
    refine Rn.ifc_ne (pc1 := 96) (pc2 := 92) rfl rfl rfl (fun h89 => ?_) (fun h89 => ?_)
    · refine Rn.step (pc' := 97) rfl rfl ?_
      refine Rn.step (pc' := 98) rfl rfl ?_
      refine Rn.lrem (pc' := 99) rfl (fun e => h89 ((lg_cmp_eq _ _).mpr e)) rfl ?_
      exact Rn.retl rfl ((if_neg (fun e => h89 ((lg_cmp_eq _ _).mpr e))).symm) (rfl)
    · refine Rn.ldc2 (v := 0) (pc' := 93) rfl (by decide) rfl ?_
      refine Rn.step (pc' := 99) rfl rfl ?_
      exact Rn.retl rfl ((if_pos ((lg_cmp_eq _ _).mp h89)).symm) (rfl)
  | c + 15, hc => omega
theorem l_R_run {d a S En N b e : Nat} {ts : Nat → Nat × Nat} {fs : Nat → Int32} (hd : 1 ≤ d) (hAt : 50 ≤ a ∧ 50 ≤ S ∧ m0.2.2 a = some (.inr (6, [.ref S, .ref En])) ∧ m0.2.2 S = some (.inl (0, N, xints fs))) (hts : ∀ i, i < N → fs i = nI (csN (ts i)) ∧ tOk (ts i)) (heN : e ≤ N) (hN : N ≤ 400) (hdp : dpt ts b (e - b) = some 1) (n k : Nat) (f : Nat → Int64) (x7 : Value) (hn : b + n ≤ e) (hk : dpt ts b n = some k) (hs : SR f (stk (L 15) ts b n)) : Rn d j_Rule_run 6 [.ref a, .int (nI b), .int (nI e), .ref 15, .ref 16, .int (nI k), .int (nI (b + n)), x7] [] (CC m0 F I (va_up L 16 f) R H) (fun r m2 => r = some (.long ((stk (L 15) ts b (e - b)).headD 0)) ∧ ∃ f2, m2 = CC m0 F I (va_up L 16 f2) R H) := by
  refine Rn.step (pc' := 8) rfl rfl ?_
  refine Rn.step (pc' := 9) rfl rfl ?_
  refine Rn.icmp_ge (pc1 := 151) (pc2 := 12) rfl rfl rfl (fun h9 => ?_) (fun h9 => ?_)
  · have hne : b + n = e := by
      have := (nI_leI (a := e) (b := b + n) (by omega) (by omega)).mp h9
      omega
    obtain rfl : n = e - b := by omega
    obtain rfl : k = 1 := Option.some.inj (hk.symm.trans hdp)
    have htop : f 0 = (stk (L 15) ts b (e - b)).headD 0 := by
      have hl := stk_len (wd := L 15) hk
      match hstk : stk (L 15) ts b (e - b), hl with
      | [z], _ => rw [hstk] at hs; exact hs.top
    refine Rn.step (pc' := 153) rfl rfl ?_
    refine Rn.iconst (v := 1) (pc' := 154) rfl (by decide) rfl ?_
    refine Rn.icmp_ne (pc1 := 164) (pc2 := 157) rfl rfl rfl (fun h154 => absurd h154 (fun z => z rfl)) (fun h154 => ?_)
    refine Rn.step (pc' := 159) rfl rfl ?_
    refine Rn.iconst (v := 0) (pc' := 160) rfl (by decide) rfl ?_
    refine Rn.clald (k := 0) (pc' := 161) rfl rfl (rfl) (by omega) ((congrFun (va_up_self L 16 f) _).trans htop) (by decide) rfl ?_
    refine Rn.step (pc' := 165) rfl rfl ?_
    exact Rn.lret rfl (⟨rfl, f, rfl⟩)
  · have hlt : b + n < e := by
      have := mt (nI_leI (a := e) (b := b + n) (by omega) (by omega)).mpr h9
      omega
    obtain ⟨hsg, hok⟩ := hts (b + n) (by omega)
    have hga : (CC m0 F I (va_up L 16 f) R H).2.2 a = some (.inr (6, [.ref S, .ref En])) := (CC_out hAt.1).trans hAt.2.2.1
    have hgs : (CC m0 F I (va_up L 16 f) R H).2.2 S = some (.inl (0, N, xints fs)) := (CC_out hAt.2.1).trans hAt.2.2.2
    have hk40 := dpt_le hk
    have hlen := stk_len (wd := L 15) hk
    obtain ⟨k2, hk2⟩ := dpt_pre (n := n + 1) (by omega) hdp
    have hd2 : tkd (ts (b + n)) k = some k2 := by
      have := hk2
      rw [dpt, hk] at this
      exact this
    by_cases hc0 : (ts (b + n)).1 = 0
    · have hk3 : k < 40 ∧ k2 = k + 1 := by
        unfold tkd at hd2
        rw [if_pos (Or.inl hc0)] at hd2
        split at hd2
        · cases hd2; omega
        · cases hd2
      have ecs : csN (ts (b + n)) = 15 + 32 * (ts (b + n)).2 := by unfold csN; rw [if_pos hc0]
      rw [ecs] at hsg
      refine Rn.step (pc' := 13) rfl rfl ?_
      refine Rn.getf (pc' := 16) rfl (hga) rfl rfl rfl ?_
      refine Rn.step (pc' := 18) rfl rfl ?_
      refine Rn.cxld (k := b + n) (pc' := 19) rfl hgs rfl (by omega) hsg (by omega) rfl ?_
      refine Rn.iconst (v := 31) (pc' := 21) rfl (by decide) rfl ?_
      refine Rn.iand (pc' := 22) rfl rfl ?_
      rw [cs_0 hok.2.2]
      refine Rn.step (pc' := 24) rfl rfl ?_
      refine Rn.step (pc' := 26) rfl rfl ?_
      refine Rn.iconst (v := 15) (pc' := 28) rfl (by decide) rfl ?_
      refine Rn.icmp_gt (pc1 := 76) (pc2 := 31) rfl rfl rfl (fun h28 => absurd h28 (by decide)) (fun h28 => ?_)
      refine Rn.step (pc' := 33) rfl rfl ?_
      refine Rn.step (pc' := 35) rfl rfl ?_
      refine Rn.step (pc' := 36) rfl rfl ?_
      refine Rn.icmp_lt (pc1 := 41) (pc2 := 39) rfl rfl rfl (fun h36 => ?_) (fun h36 => absurd ((nI_ltI (a := k) (b := 40) (by omega) (by omega)).mpr (by omega)) h36)
      refine Rn.step (pc' := 43) rfl rfl ?_
      refine Rn.step (pc' := 45) rfl rfl ?_
      refine Rn.step (pc' := 47) rfl rfl ?_
      refine Rn.iconst (v := 15) (pc' := 49) rfl (by decide) rfl ?_
      refine Rn.icmp_ne (pc1 := 65) (pc2 := 52) rfl rfl rfl (fun h49 => absurd h49 (fun z => z rfl)) (fun h49 => ?_)
      refine Rn.step (pc' := 53) rfl rfl ?_
      refine Rn.getf (pc' := 56) rfl (hga) rfl rfl rfl ?_
      refine Rn.step (pc' := 58) rfl rfl ?_
      refine Rn.cxld (k := b + n) (pc' := 59) rfl hgs rfl (by omega) hsg (by omega) rfl ?_
      refine Rn.iconst (v := 5) (pc' := 60) rfl (by decide) rfl ?_
      refine Rn.ishr (pc' := 61) rfl rfl ?_
      rw [cs_v hok.2.2]
      refine Rn.i2l (pc' := 62) rfl rfl ?_
      refine Rn.step (pc' := 69) rfl rfl ?_
      refine Rn.clst (k := k) (pc' := 70) rfl rfl (rfl) (by omega) (by decide) rfl ?_
      rw [va_up_self, up_up]
      refine Rn.step (pc' := 73) rfl rfl ?_
      refine Rn.step (pc' := 145) rfl rfl ?_
      refine Rn.step (pc' := 148) rfl rfl ?_
      refine Rn.step (pc' := 6) rfl rfl ?_
      refine Rn.ls8 rfl rfl rfl rfl rfl (congrArg Value.int ((nI_i1 k).trans (by rw [hk3.2]))) (congrArg Value.int (nI_i1 (b + n))) rfl (l_R_run hd hAt hts heN hN hdp (n + 1) _ (vp_updL f k (nI (ts (b + n)).2).toInt64) _ (by omega) hk2 ?_)
      rw [stk, tkx.eq_def, if_pos hc0]
      have := hs.push (x := (nI (ts (b + n)).2).toInt64)
      rw [hlen] at this
      exact this
    · by_cases hc1 : (ts (b + n)).1 = 1
      · have hk3 : k < 40 ∧ k2 = k + 1 := by
          unfold tkd at hd2
          rw [if_pos (Or.inr hc1)] at hd2
          split at hd2
          · cases hd2; omega
          · cases hd2
        have hv15 := hok.2.1 hc1
        have ecs : csN (ts (b + n)) = (ts (b + n)).2 := by unfold csN; rw [if_neg hc0, if_pos hc1]
        rw [ecs] at hsg
        refine Rn.step (pc' := 13) rfl rfl ?_
        refine Rn.getf (pc' := 16) rfl (hga) rfl rfl rfl ?_
        refine Rn.step (pc' := 18) rfl rfl ?_
        refine Rn.cxld (k := b + n) (pc' := 19) rfl hgs rfl (by omega) hsg (by omega) rfl ?_
        refine Rn.iconst (v := 31) (pc' := 21) rfl (by decide) rfl ?_
        refine Rn.iand (pc' := 22) rfl rfl ?_
        rw [cs_s (by omega)]
        refine Rn.step (pc' := 24) rfl rfl ?_
        refine Rn.step (pc' := 26) rfl rfl ?_
        refine Rn.iconst (v := 15) (pc' := 28) rfl (by decide) rfl ?_
        refine Rn.icmp_gt (pc1 := 76) (pc2 := 31) rfl rfl rfl (fun h28 => absurd h28 (fun z => absurd ((nI_ltI (a := 15) (b := (ts (b + n)).2) (by omega) (by omega)).mp z) (by omega))) (fun h28 => ?_)
        refine Rn.step (pc' := 33) rfl rfl ?_
        refine Rn.step (pc' := 35) rfl rfl ?_
        refine Rn.step (pc' := 36) rfl rfl ?_
        refine Rn.icmp_lt (pc1 := 41) (pc2 := 39) rfl rfl rfl (fun h36 => ?_) (fun h36 => absurd ((nI_ltI (a := k) (b := 40) (by omega) (by omega)).mpr (by omega)) h36)
        refine Rn.step (pc' := 43) rfl rfl ?_
        refine Rn.step (pc' := 45) rfl rfl ?_
        refine Rn.step (pc' := 47) rfl rfl ?_
        refine Rn.iconst (v := 15) (pc' := 49) rfl (by decide) rfl ?_
        refine Rn.icmp_ne (pc1 := 65) (pc2 := 52) rfl rfl rfl (fun h49 => ?_) (fun h49 => absurd h49 (fun z => absurd ((nI_eq (b := 15) (by omega) (by omega)).mp z) (by omega)))
        refine Rn.step (pc' := 66) rfl rfl ?_
        refine Rn.step (pc' := 68) rfl rfl ?_
        refine Rn.clald (k := (ts (b + n)).2) (pc' := 69) rfl rfl (rfl) (by omega) (congrFun (up_ne L f (by decide)) _) (by decide) rfl ?_
        refine Rn.clst (k := k) (pc' := 70) rfl rfl (rfl) (by omega) (by decide) rfl ?_
        rw [va_up_self, up_up]
        refine Rn.step (pc' := 73) rfl rfl ?_
        refine Rn.step (pc' := 145) rfl rfl ?_
        refine Rn.step (pc' := 148) rfl rfl ?_
        refine Rn.step (pc' := 6) rfl rfl ?_
        refine Rn.ls8 rfl rfl rfl rfl rfl (congrArg Value.int ((nI_i1 k).trans (by rw [hk3.2]))) (congrArg Value.int (nI_i1 (b + n))) rfl (l_R_run hd hAt hts heN hN hdp (n + 1) _ (vp_updL f k (L 15 (ts (b + n)).2)) _ (by omega) hk2 ?_)
        rw [stk, tkx.eq_def, if_neg hc0, if_pos hc1]
        have := hs.push (x := L 15 (ts (b + n)).2)
        rw [hlen] at this
        exact this
      · by_cases hc11 : (ts (b + n)).1 = 11
        · have hk3 : 1 ≤ k ∧ k2 = k := by
            unfold tkd at hd2
            rw [if_neg (fun z => z.elim hc0 hc1), if_pos hc11] at hd2
            split at hd2
            · cases hd2; omega
            · cases hd2
          have ecs : csN (ts (b + n)) = 16 := by unfold csN; rw [if_neg hc0, if_neg hc1, if_pos hc11]
          rw [ecs] at hsg
          obtain ⟨z, rr, hst⟩ : ∃ z rr, stk (L 15) ts b n = z :: rr := by
            cases hq : stk (L 15) ts b n with
            | nil => rw [hq] at hlen; simp at hlen; omega
            | cons z rr => exact ⟨z, rr, rfl⟩
          rw [hst] at hs hlen
          have hlr : rr.length = k - 1 := by simp at hlen; omega
          have htop : f (k - 1) = z := hlr ▸ hs.top
          have ek1 : nI k - 1 = nI (k - 1) := nI_sub (b := 1) (by omega) (by omega)
          refine Rn.step (pc' := 13) rfl rfl ?_
          refine Rn.getf (pc' := 16) rfl (hga) rfl rfl rfl ?_
          refine Rn.step (pc' := 18) rfl rfl ?_
          refine Rn.cxld (k := b + n) (pc' := 19) rfl hgs rfl (by omega) hsg (by omega) rfl ?_
          refine Rn.iconst (v := 31) (pc' := 21) rfl (by decide) rfl ?_
          refine Rn.iand (pc' := 22) rfl rfl ?_
          rw [cs_s (v := 16) (by omega)]
          refine Rn.step (pc' := 24) rfl rfl ?_
          refine Rn.step (pc' := 26) rfl rfl ?_
          refine Rn.iconst (v := 15) (pc' := 28) rfl (by decide) rfl ?_
          refine Rn.icmp_gt (pc1 := 76) (pc2 := 31) rfl rfl rfl (fun h28 => ?_) (fun h28 => absurd (by decide) h28)
          refine Rn.step (pc' := 78) rfl rfl ?_
          refine Rn.iconst (v := 16) (pc' := 80) rfl (by decide) rfl ?_
          refine Rn.icmp_ne (pc1 := 110) (pc2 := 83) rfl rfl rfl (fun h80 => absurd h80 (fun z => z rfl)) (fun h80 => ?_)
          refine Rn.step (pc' := 85) rfl rfl ?_
          refine Rn.iconst (v := 1) (pc' := 86) rfl (by decide) rfl ?_
          refine Rn.icmp_ge (pc1 := 91) (pc2 := 89) rfl rfl rfl (fun h86 => ?_) (fun h86 => absurd ((nI_leI (a := 1) (b := k) (by omega) (by omega)).mpr (by omega)) h86)
          refine Rn.step (pc' := 93) rfl rfl ?_
          refine Rn.step (pc' := 95) rfl rfl ?_
          refine Rn.iconst (v := 1) (pc' := 96) rfl (by decide) rfl ?_
          refine Rn.isub (pc' := 97) rfl rfl ?_
          refine Rn.ldc2 (v := 1) (pc' := 98) rfl (by decide) rfl ?_
          refine Rn.step (pc' := 100) rfl rfl ?_
          refine Rn.step (pc' := 102) rfl rfl ?_
          refine Rn.iconst (v := 1) (pc' := 103) rfl (by decide) rfl ?_
          refine Rn.isub (pc' := 104) rfl rfl ?_
          refine Rn.clald (k := k - 1) (pc' := 105) rfl rfl (ek1) (by omega) ((congrFun (va_up_self L 16 f) _).trans htop) (by decide) rfl ?_
          refine Rn.lsub (pc' := 106) rfl rfl ?_
          refine Rn.clst (k := k - 1) (pc' := 107) rfl rfl (ek1) (by omega) (by decide) rfl ?_
          rw [va_up_self, up_up]
          refine Rn.step (pc' := 145) rfl rfl ?_
          refine Rn.step (pc' := 148) rfl rfl ?_
          refine Rn.step (pc' := 6) rfl rfl ?_
          refine Rn.ls8 rfl rfl rfl rfl rfl (congrArg Value.int ((by rw [hk3.2]))) (congrArg Value.int (nI_i1 (b + n))) rfl (l_R_run hd hAt hts heN hN hdp (n + 1) _ (vp_updL f (k - 1) (1 - z)) _ (by omega) hk2 ?_)
          rw [stk, tkx.eq_def, if_neg hc0, if_neg hc1, if_pos hc11, hst]
          have := hs.pop.push (x := 1 - z)
          rw [hlr] at this
          exact this
        · have hk3 : 2 ≤ k ∧ k2 = k - 1 := by
            unfold tkd at hd2
            rw [if_neg (fun z => z.elim hc0 hc1), if_neg hc11] at hd2
            split at hd2
            · cases hd2; omega
            · cases hd2
          have hcb : 2 ≤ (ts (b + n)).1 ∧ (ts (b + n)).1 < 15 ∧ (ts (b + n)).1 ≠ 11 := ⟨by omega, hok.1, hc11⟩
          have ecs : csN (ts (b + n)) = csC (ts (b + n)).1 := by unfold csN; rw [if_neg hc0, if_neg hc1, if_neg hc11]
          have hcc := csC_in (ts (b + n)).1
          rw [ecs] at hsg
          obtain ⟨y, z, rr, hst⟩ : ∃ y z rr, stk (L 15) ts b n = y :: z :: rr := by
            match hq : stk (L 15) ts b n, hlen with
            | [], hl => simp at hl; omega
            | [y], hl => simp at hl; omega
            | y :: z :: rr, _ => exact ⟨y, z, rr, rfl⟩
          rw [hst] at hs hlen
          have hlr : rr.length = k - 2 := by simp at hlen; omega
          have hlr1 : (z :: rr).length = k - 1 := by simp at hlen ⊢; omega
          have htop : f (k - 1) = y := hlr1 ▸ hs.top
          have htop2 : f (k - 2) = z := hlr ▸ hs.pop.top
          have ek1 : nI (k - 1) - 1 = nI (k - 2) := (nI_sub (b := 1) (by omega) (by omega)).trans (by congr 1)
          have ek0 : nI k + Int32.ofInt (-1) = nI (k - 1) := (im1 k).trans (nI_sub (b := 1) (by omega) (by omega))
          refine Rn.step (pc' := 13) rfl rfl ?_
          refine Rn.getf (pc' := 16) rfl (hga) rfl rfl rfl ?_
          refine Rn.step (pc' := 18) rfl rfl ?_
          refine Rn.cxld (k := b + n) (pc' := 19) rfl hgs rfl (by omega) hsg (by omega) rfl ?_
          refine Rn.iconst (v := 31) (pc' := 21) rfl (by decide) rfl ?_
          refine Rn.iand (pc' := 22) rfl rfl ?_
          rw [cs_s (by omega)]
          refine Rn.step (pc' := 24) rfl rfl ?_
          refine Rn.step (pc' := 26) rfl rfl ?_
          refine Rn.iconst (v := 15) (pc' := 28) rfl (by decide) rfl ?_
          refine Rn.icmp_gt (pc1 := 76) (pc2 := 31) rfl rfl rfl (fun h28 => ?_) (fun h28 => absurd ((nI_ltI (a := 15) (b := csC (ts (b + n)).1) (by omega) (by omega)).mpr (by omega)) h28)
          refine Rn.step (pc' := 78) rfl rfl ?_
          refine Rn.iconst (v := 16) (pc' := 80) rfl (by decide) rfl ?_
          refine Rn.icmp_ne (pc1 := 110) (pc2 := 83) rfl rfl rfl (fun h80 => ?_) (fun h80 => absurd h80 (fun z => absurd ((nI_eq (b := 16) (by omega) (by omega)).mp z) (by omega)))
          refine Rn.step (pc' := 112) rfl rfl ?_
          refine Rn.iconst (v := 2) (pc' := 113) rfl (by decide) rfl ?_
          refine Rn.icmp_ge (pc1 := 118) (pc2 := 116) rfl rfl rfl (fun h113 => ?_) (fun h113 => absurd ((nI_leI (a := 2) (b := k) (by omega) (by omega)).mpr (by omega)) h113)
          refine Rn.step (pc' := 121) rfl rfl ?_
          refine Rn.ls8 rfl rfl rfl rfl rfl (congrArg Value.int ek0) rfl rfl ?_
          refine Rn.step (pc' := 123) rfl rfl ?_
          refine Rn.step (pc' := 125) rfl rfl ?_
          refine Rn.iconst (v := 1) (pc' := 126) rfl (by decide) rfl ?_
          refine Rn.isub (pc' := 127) rfl rfl ?_
          refine Rn.step (pc' := 129) rfl rfl ?_
          refine Rn.step (pc' := 131) rfl rfl ?_
          refine Rn.step (pc' := 133) rfl rfl ?_
          refine Rn.iconst (v := 1) (pc' := 134) rfl (by decide) rfl ?_
          refine Rn.isub (pc' := 135) rfl rfl ?_
          refine Rn.clald (k := k - 2) (pc' := 136) rfl rfl (ek1) (by omega) ((congrFun (va_up_self L 16 f) _).trans htop2) (by decide) rfl ?_
          refine Rn.step (pc' := 138) rfl rfl ?_
          refine Rn.step (pc' := 140) rfl rfl ?_
          refine Rn.clald (k := k - 1) (pc' := 141) rfl rfl (rfl) (by omega) ((congrFun (va_up_self L 16 f) _).trans htop) (by decide) rfl ?_
          refine Rn.sg (pc' := 144) rfl (by decide) (by omega) rfl rfl (c_R_joined _ hcb z y) ?_
          refine Rn.clst (k := k - 2) (pc' := 145) rfl rfl (ek1) (by omega) (by decide) rfl ?_
          rw [va_up_self, up_up]
          refine Rn.step (pc' := 148) rfl rfl ?_
          refine Rn.step (pc' := 6) rfl rfl ?_
          refine Rn.ls8 rfl rfl rfl rfl rfl (congrArg Value.int ((by rw [hk3.2]))) (congrArg Value.int (nI_i1 (b + n))) rfl (l_R_run hd hAt hts heN hN hdp (n + 1) _ (vp_updL f (k - 2) (opr (ts (b + n)).1 z y)) _ (by omega) hk2 ?_)
          rw [stk, tkx.eq_def, if_neg hc0, if_neg hc1, if_neg hc11, hst]
          have := hs.pop.pop.push (x := opr (ts (b + n)).1 z y)
          rw [hlr] at this
          exact this
termination_by e - (b + n)
theorem c_R_run {d a S En N b e : Nat} {ts : Nat → Nat × Nat} {fs : Nat → Int32} (hd : 1 ≤ d) (hAt : 50 ≤ a ∧ 50 ≤ S ∧ m0.2.2 a = some (.inr (6, [.ref S, .ref En])) ∧ m0.2.2 S = some (.inl (0, N, xints fs))) (hts : ∀ i, i < N → fs i = nI (csN (ts i)) ∧ tOk (ts i)) (heN : e ≤ N) (hN : N ≤ 400) (hdp : dpt ts b (e - b) = some 1) (hbe : b ≤ e) (f : Nat → Int64) : Cl d j_Rule_run [.ref a, .int (nI b), .int (nI e), .ref 15, .ref 16] (CC m0 F I (va_up L 16 f) R H) (fun r m2 => r = some (.long ((stk (L 15) ts b (e - b)).headD 0)) ∧ ∃ f2, m2 = CC m0 F I (va_up L 16 f2) R H) := by
  show Rn d j_Rule_run 0 _ _ _ _
  refine Rn.iconst (v := 0) (pc' := 1) rfl (by decide) rfl ?_
  refine Rn.step (pc' := 3) rfl rfl ?_
  refine Rn.step (pc' := 4) rfl rfl ?_
  refine Rn.step (pc' := 6) rfl rfl ?_
  exact l_R_run hd hAt hts heN hN hdp 0 0 f _ hbe rfl (fun p x h => by simp [stk] at h)
/-- clauses as the class has them: each begins where the one ahead ends; a test is not empty and is 0 or 1 -/
def ClC (ts : Nat → Nat × Nat) (N : Nat) (fe : Nat → Int32) : Nat → Nat → List xCl4 → Prop
  | _, _, [] => True
  | c, b, q :: r => fe (2 * c) = nI q.2.1 ∧ fe (2 * c + 1) = nI q.2.2.2 ∧ q.1 = b ∧ b ≤ q.2.1 ∧ q.2.1 ≤ N ∧ dpt ts b (q.2.1 - b) = some 1 ∧ (q.2.2.1 = none → q.2.2.2 = q.2.1) ∧ (∀ t, q.2.2.1 = some t → t = q.2.1 ∧ q.2.1 < q.2.2.2 ∧ q.2.2.2 ≤ N ∧ dpt ts t (q.2.2.2 - t) = some 1 ∧ ∀ wd, (stk wd ts t (q.2.2.2 - t)).headD 0 = 0 ∨ (stk wd ts t (q.2.2.2 - t)).headD 0 = 1) ∧ ClC ts N fe (c + 1) q.2.2.2 r
/-- a memory holds a rule at a cell, as the class has it -/
def RuC (m0 : xM) (a : Nat) (q : (Nat → Nat × Nat) × Nat × List xCl4) : Prop := ∃ S En fs fe, 69 ≤ a ∧ a < xS ∧ 69 ≤ S ∧ 69 ≤ En ∧ m0.2.2 a = some (.inr (6, [.ref S, .ref En])) ∧ m0.2.2 S = some (.inl (0, q.2.1, xints fs)) ∧ m0.2.2 En = some (.inl (0, 2 * q.2.2.length, xints fe)) ∧ (∀ i, i < q.2.1 → fs i = nI (csN (q.1 i)) ∧ tOk (q.1 i)) ∧ q.2.1 ≤ 400 ∧ q.2.2.length ≤ 12 ∧ ClC q.1 q.2.1 fe 0 0 q.2.2
theorem rcvX {m : xM} {a j : Nat} {as fs : List Value} {ci : Nat} (h : m.2.2 a = some (.inr (ci, fs))) (hj : xrc j = ci) : x_rcv xrc j m (.ref a :: as) = true := by
  unfold x_rcv
  simp only [h, hj]
  exact beq_self_eq_true ci
theorem l_R_way {d a S En N : Nat} {ts : Nat → Nat × Nat} {fs fe : Nat → Int32} {Lc : List xCl4} (hd : 2 ≤ d) (hA : m0.2.2 a = some (.inr (6, [.ref S, .ref En]))) (hS : m0.2.2 S = some (.inl (0, N, xints fs))) (hE : m0.2.2 En = some (.inl (0, 2 * Lc.length, xints fe))) (hb69 : 69 ≤ a ∧ 69 ≤ S ∧ 69 ≤ En) (hts : ∀ i, i < N → fs i = nI (csN (ts i)) ∧ tOk (ts i)) (hN : N ≤ 400) (hL12 : Lc.length ≤ 12) (c b : Nat) (r : List xCl4) (f : Nat → Int64) (hr : c + r.length = Lc.length) (hcl : ClC ts N fe c b r) (x5 x6 : Value) : Rn d j_Rule_way 5 [.ref a, .ref 15, .ref 16, .int (nI b), .int (nI (2 * c)), x5, x6] [] (CC m0 F I (va_up L 16 f) R H) (fun r_ m2 => r_ = some (.long (smb (L 15) ts r)) ∧ ∃ f2, m2 = CC m0 F I (va_up L 16 f2) R H) := by
  have hga : (CC m0 F I (va_up L 16 f) R H).2.2 a = some (.inr (6, [.ref S, .ref En])) := (CC_out (by omega)).trans hA
  have hge : (CC m0 F I (va_up L 16 f) R H).2.2 En = some (.inl (0, 2 * Lc.length, xints fe)) := (CC_out (by omega)).trans hE
  refine Rn.step (pc' := 7) rfl rfl ?_
  refine Rn.iconst (v := 1) (pc' := 8) rfl (by decide) rfl ?_
  refine Rn.iadd (pc' := 9) rfl rfl ?_
  refine Rn.step (pc' := 10) rfl rfl ?_
  refine Rn.getf (pc' := 13) rfl (hga) rfl rfl rfl ?_
  refine Rn.alen (pc' := 14) rfl (hge) (by decide) rfl ?_
  refine Rn.icmp_ge (pc1 := 78) (pc2 := 17) rfl rfl rfl (fun h14 => ?_) (fun h14 => ?_)
  · obtain rfl : r = [] := by
      cases r with
      | nil => rfl
      | cons q r =>
        exact absurd h14 (by
          rw [show nI (2 * c) + 1 = nI (2 * c + 1) from nI_1 _]
          exact fun z => absurd ((nI_leI (a := 2 * Lc.length) (b := 2 * c + 1) (by omega) (by simp at hr; omega)).mp z) (by simp at hr; omega))
    refine Rn.ldc2 (v := 0) (pc' := 79) rfl (by decide) rfl ?_
    exact Rn.lret rfl (⟨rfl, f, rfl⟩)
  · obtain ⟨q, r2, rfl⟩ : ∃ q r2, r = q :: r2 := by
      cases r with
      | nil =>
        exact absurd (show nI (2 * Lc.length) ≤ nI (2 * c) + 1 by
          rw [show nI (2 * c) + 1 = nI (2 * c + 1) from nI_1 _]
          exact (nI_leI (by omega) (by simp at hr; omega)).mpr (by simp at hr; omega)) h14
      | cons q r2 => exact ⟨q, r2, rfl⟩
    have hq := hcl
    unfold ClC at hq
    obtain ⟨-, -, e1, q2, q3, q4, q5, q6, q7⟩ := hq
    have hq : fe (2 * c) = nI q.2.1 ∧ fe (2 * c + 1) = nI q.2.2.2 := by
      have := hcl
      unfold ClC at this
      exact ⟨this.1, this.2.1⟩
    have hle : q.2.2.2 ≤ N := by
      cases hh : q.2.2.1 with
      | none => rw [q5 hh]; exact q3
      | some t => exact (q6 t hh).2.2.1
    have hlr : c + 1 + r2.length = Lc.length := by simp at hr; omega
    refine Rn.step (pc' := 18) rfl rfl ?_
    refine Rn.getf (pc' := 21) rfl (hga) rfl rfl rfl ?_
    refine Rn.step (pc' := 23) rfl rfl ?_
    refine Rn.cxld (k := 2 * c) (pc' := 24) rfl hge (by simp only [nI_lit, nI_add, pk_mul, Nat.zero_add]) (by omega) (hq.1) (by omega) rfl ?_
    refine Rn.step (pc' := 26) rfl rfl ?_
    refine Rn.step (pc' := 27) rfl rfl ?_
    refine Rn.getf (pc' := 30) rfl (hga) rfl rfl rfl ?_
    refine Rn.step (pc' := 32) rfl rfl ?_
    refine Rn.iconst (v := 1) (pc' := 33) rfl (by decide) rfl ?_
    refine Rn.iadd (pc' := 34) rfl rfl ?_
    refine Rn.cxld (k := 2 * c + 1) (pc' := 35) rfl hge (by simp only [nI_lit, nI_add, pk_mul, Nat.zero_add]) (by omega) (hq.2) (by omega) rfl ?_
    refine Rn.step (pc' := 37) rfl rfl ?_
    refine Rn.step (pc' := 39) rfl rfl ?_
    refine Rn.step (pc' := 41) rfl rfl ?_
    refine Rn.icmp_eq (pc1 := 59) (pc2 := 44) rfl rfl rfl (fun h41 => ?_) (fun h41 => ?_)
    · have hnone : q.2.2.1 = none := by
        cases hh : q.2.2.1 with
        | none => rfl
        | some t =>
          obtain ⟨z1, z2, z3⟩ := q6 t hh
          have := (nI_eq (a := q.2.1) (b := q.2.2.2) (by omega) (by omega)).mp h41
          omega
      have hga2 := hga
      refine Rn.step (pc' := 60) rfl rfl ?_
      refine Rn.step (pc' := 61) rfl rfl ?_
      refine Rn.step (pc' := 63) rfl rfl ?_
      refine Rn.step (pc' := 64) rfl rfl ?_
      refine Rn.step (pc' := 65) rfl rfl ?_
      refine Rn.callV (pc' := 68) rfl (by decide) (by omega) rfl (rcvX hga2 rfl) rfl (c_R_run (b := b) (e := q.2.1) (by omega) ⟨by omega, by omega, hA, hS⟩ hts (q3) hN (q4) (by omega) _) (fun r_ m_ hc_ => ?_)
      obtain ⟨rfl, f2, rfl⟩ := hc_
      exact Rn.lret rfl (⟨by
          rw [smb, if_pos (Or.inl hnone), e1], _, rfl⟩)
    · have hne : q.2.1 ≠ q.2.2.2 := fun z => h41 (by rw [z])
      obtain ⟨hso, hdt, h01⟩ : q.2.2.1 = some q.2.1 ∧ dpt ts q.2.1 (q.2.2.2 - q.2.1) = some 1 ∧ ∀ wd, (stk wd ts q.2.1 (q.2.2.2 - q.2.1)).headD 0 = 0 ∨ (stk wd ts q.2.1 (q.2.2.2 - q.2.1)).headD 0 = 1 := by
        cases hh : q.2.2.1 with
        | none => exact absurd (q5 hh).symm hne
        | some t =>
          obtain ⟨z1, z2, z3, z4, z5⟩ := q6 t hh
          subst z1
          exact ⟨rfl, z4, z5⟩
      have hlt : q.2.1 ≤ q.2.2.2 := by
        obtain ⟨-, z2, -⟩ := q6 q.2.1 hso
        omega
      refine Rn.step (pc' := 45) rfl rfl ?_
      refine Rn.step (pc' := 47) rfl rfl ?_
      refine Rn.step (pc' := 49) rfl rfl ?_
      refine Rn.step (pc' := 50) rfl rfl ?_
      refine Rn.step (pc' := 51) rfl rfl ?_
      refine Rn.callV (pc' := 54) rfl (by decide) (by omega) rfl (rcvX hga rfl) rfl (c_R_run (b := q.2.1) (e := q.2.2.2) (by omega) ⟨by omega, by omega, hA, hS⟩ hts (hle) hN (hdt) (by omega) _) (fun r_ m_ hc_ => ?_)
      obtain ⟨rfl, f2, rfl⟩ := hc_
      refine Rn.ldc2 (v := 0) (pc' := 55) rfl (by decide) rfl ?_
      refine Rn.lcmp (pc' := 56) rfl rfl ?_
      refine Rn.ifc_eq (pc1 := 69) (pc2 := 59) rfl rfl rfl (fun h56 => ?_) (fun h56 => ?_)
      · have hz : (stk (L 15) ts q.2.1 (q.2.2.2 - q.2.1)).headD 0 = 0 := (lg_cmp_eq _ _).mp h56
        refine Rn.step (pc' := 71) rfl rfl ?_
        refine Rn.step (pc' := 72) rfl rfl ?_
        refine Rn.step (pc' := 75) rfl rfl ?_
        refine Rn.step (pc' := 5) rfl rfl ?_
        exact Rn.ls7 rfl rfl rfl rfl (congrArg Value.int ((show nI (2 * c) + Int32.ofInt 2 = nI (2 * c) + nI 2 from rfl).trans (nI_add _ _))) rfl rfl (Rn.conseq (l_R_way hd hA hS hE hb69 hts hN hL12 (c + 1) q.2.2.2 r2 f2 hlr q7 (.int (nI q.2.1)) (.int (nI q.2.2.2))) (fun r_ m_ hx => by
          obtain ⟨h1, h2⟩ := hx
          refine ⟨?_, h2⟩
          rw [h1, smb, if_neg]
          exact fun z => z.elim (fun y => by rw [y] at hso; cases hso) (fun y => by
            rw [hso] at y
            exact absurd y (by rw [show (some q.2.1).getD 0 = q.2.1 from rfl, hz]; decide))))
      · have hga2 : (CC m0 F I (va_up L 16 f2) R H).2.2 a = some (.inr (6, [.ref S, .ref En])) := (CC_out (by omega)).trans hA
        have h1 : (stk (L 15) ts q.2.1 (q.2.2.2 - q.2.1)).headD 0 = 1 := (h01 (L 15)).resolve_left (fun z => h56 ((lg_cmp_eq _ _).mpr z))
        refine Rn.step (pc' := 60) rfl rfl ?_
        refine Rn.step (pc' := 61) rfl rfl ?_
        refine Rn.step (pc' := 63) rfl rfl ?_
        refine Rn.step (pc' := 64) rfl rfl ?_
        refine Rn.step (pc' := 65) rfl rfl ?_
        refine Rn.callV (pc' := 68) rfl (by decide) (by omega) rfl (rcvX hga2 rfl) rfl (c_R_run (b := b) (e := q.2.1) (by omega) ⟨by omega, by omega, hA, hS⟩ hts (q3) hN (q4) (by omega) _) (fun r_ m_ hc_ => ?_)
        obtain ⟨rfl, f2, rfl⟩ := hc_
        exact Rn.lret rfl (⟨by
            rw [smb, if_pos (Or.inr (by rw [hso]; exact h1)), e1], _, rfl⟩)
termination_by r.length
theorem c_R_way {d a : Nat} {q : (Nat → Nat × Nat) × Nat × List xCl4} (hd : 2 ≤ d) (hq : RuC m0 a q) : Cl d j_Rule_way [.ref a, .ref 15, .ref 16] (CC m0 F I L R H) (fun r_ m2 => r_ = some (.long (smb (L 15) q.1 q.2.2)) ∧ ∃ f2, m2 = CC m0 F I (va_up L 16 f2) R H) := by
  obtain ⟨S, En, fs, fe, h1, h2, h3, h4, h5, h6, h7, h8, h9, h10, h11⟩ := hq
  refine Rn.mm (m2 := CC m0 F I (va_up L 16 (L 16)) R H) (by rw [up_id]) ?_
  show Rn d j_Rule_way 0 _ _ _ _
  refine Rn.iconst (v := 0) (pc' := 1) rfl (by decide) rfl ?_
  refine Rn.step (pc' := 2) rfl rfl ?_
  refine Rn.iconst (v := 0) (pc' := 3) rfl (by decide) rfl ?_
  refine Rn.step (pc' := 5) rfl rfl ?_
  have := l_R_way (F := F) (I := I) (L := L) (R := R) (H := H) hd h5 h6 h7 ⟨h1, h3, h4⟩ h8 h9 h10 0 0 q.2.2 (L 16) (by omega) h11 xb xb
  exact this
end CB
