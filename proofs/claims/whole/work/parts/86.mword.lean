/-! THE MODEL: its reader: isWord, takesWord. -/
section MS2
variable {m0 : xM} {v : Nat → Int32} {dx : Int64} {A : Nat → Nat → Int32} {LA : Nat → Nat → Int64} {s : Nat → Int32}
/-- the model's reader stands at p -/
abbrev TM (v : Nat → Int32) (A : Nat → Nat → Int32) (T : Nat → Int32) (n p : Nat) : Prop := A 51 = T ∧ v 1 = nI n ∧ n ≤ 400 ∧ (∀ i, -128 ≤ T i ∧ T i ≤ 127) ∧ ∃ i, v 8 = nI i ∧ i ≤ n ∧ skE T n i = p
theorem skE_le {T : Nat → Int32} {n i : Nat} (h : i ≤ n) : skE T n i ≤ n := rnE_le h
theorem skE_sk (T : Nat → Int32) (n i : Nat) : skE T n (skE T n i) = skE T n i := rnE_z (rnE_out 32 32 T n i)
section T1
variable {T : Nat → Int32} {n p : Nat}
theorem TM.le (h : TM v A T n p) : p ≤ n := by
  obtain ⟨i, _, b, c⟩ := h.2.2.2.2
  rw [← c]
  exact skE_le b
theorem TM.sk (h : TM v A T n p) : skE T n p = p := by
  obtain ⟨i, _, b, c⟩ := h.2.2.2.2
  rw [← c]
  exact skE_sk T n i
theorem TM.at {q i : Nat} (h : TM v A T n p) (hi : i ≤ n) (e : skE T n i = q) : TM (upd v 8 (nI i)) A T n q := ⟨h.1, h.2.1, h.2.2.1, h.2.2.2.1, i, rfl, hi, e⟩
theorem TM.here (h : TM v A T n p) : TM (upd v 8 (nI p)) A T n p := h.at h.le h.sk
theorem x_see {d : Nat} (h : TM v A T n p) : Cl d j_M_see [.ref 50] (MM m0 v dx A LA) (Pi (cuE T n p) (MM m0 (upd v 8 (nI p)) dx A LA)) := by
  obtain ⟨rfl, h1, h2, _, i, h8, hi, rfl⟩ := h
  exact x_M_see h1 h2 h8 hi
theorem let_c {c : Int32} (h : 97 ≤ c ∧ c ≤ 122) : ∃ k, 97 ≤ k ∧ k ≤ 122 ∧ c = nI k := by
  obtain ⟨k, hk, e⟩ := xN (lo := 97) (hi := 122) (n := 122) (by decide) (by decide) h
  refine ⟨k, ?_, hk, e⟩
  have := h.1
  rw [e] at this
  exact (nI_leI (a := 97) (b := k) (by omega) (by omega)).mp this
theorem pkD_lt (hT : ∀ j, ∃ c, c < 256 ∧ (T (p + j)).toNatClampNeg = c) : ∀ k, pkD T p k < 256 ^ k
  | 0 => by show 0 < 1; omega
  | k + 1 => by
    obtain ⟨c, hc, e⟩ := hT k
    have := pkD_lt hT k
    show pkD T p k * 256 + (T (p + k)).toNatClampNeg < 256 ^ (k + 1)
    rw [e, Nat.pow_succ]
    omega
theorem clamp_b {x : Int32} (h : -128 ≤ x ∧ x ≤ 127) : ∃ c, c < 256 ∧ x.toNatClampNeg = c := by
  refine ⟨_, ?_, rfl⟩
  have h2 := Int32.le_iff_toInt_le.mp h.2
  have e : (127 : Int32).toInt = 127 := by decide
  show x.toInt.toNat < 256
  omega
abbrev okW (x : List Nat) : Prop := (∀ c, c ∈ x → 0 < c ∧ c < 256) ∧ 0 < x.length ∧ x.length < 8 ∧ pkW x < 2 ^ 63
theorem l_X_word {d n p : Nat} {x : List Nat} (hn : v 1 = nI n) (h4 : n ≤ 400) (hT : ∀ i, -128 ≤ A 51 i ∧ A 51 i ≤ 127) (hx : okW x) (hv8 : v 8 = nI p) (hd : 1 ≤ d) (k : Nat) (V : Int64) (hk : p + k ≤ n) (hq : leE (A 51) n (p + k) = leE (A 51) n p) (hV : k < 8 → V = Int64.ofNat (pkD (A 51) p k)) : Rn d j_M_isWord 10 [.ref 50, .long (Int64.ofNat (pkW x)), xb, .long V, xb, .int (nI k)] [] (MM m0 v dx A LA) (Pi (if wdP (A 51) p (leE (A 51) n p) x then 1 else 0) (MM m0 v dx A LA)) := by
  refine Rn.step (pc' := 11) rfl rfl ?_
  refine Rn.step (pc' := 12) rfl rfl ?_
  refine Rn.getf (pc' := 15) rfl rfl rfl rfl rfl ?_
  refine Rn.step (pc' := 17) rfl rfl ?_
  refine Rn.iadd (pc' := 18) rfl rfl ?_
  refine Rn.vi (pc' := 21) rfl (by decide) (by omega) rfl rfl rfl (by rw [hv8, nI_add]; exact x_M_isLetter (n := n) (k := p + k) hn h4 (by omega)) ?_
  refine Rn.ifp_eq (pc1 := 56) (pc2 := 24) rfl rfl rfl (fun h21 => ?_) (fun h21 => ?_)
  · have hqk : leE (A 51) n p = p + k := by rw [← hq]; exact rnE_z h21
    have hlt : ∀ j, j < k → ∃ c, 0 < c ∧ c < 256 ∧ A 51 (p + j) = nI c := fun j hj => by
      obtain ⟨c, c1, c2, c3⟩ := let_c (rnE_in (lo := 97) (hi := 122) (T := A 51) (n := n) (i := p) (k := p + j) (by omega) (by show p + j < leE (A 51) n p; omega)).2
      exact ⟨c, by omega, by omega, c3⟩
    refine Rn.step (pc' := 58) rfl rfl ?_
    refine Rn.ifc_le (pc1 := 78) (pc2 := 61) rfl rfl rfl (fun h58 => ?_) (fun h58 => ?_)
    · refine Rn.iconst (v := 0) (pc' := 79) rfl (by decide) rfl ?_
      exact Rn.iret rfl (rfl) (⟨by rw [if_neg (fun z => absurd z.1 (by have := hx.2.1; have := (nI_leI (a := k) (b := 0) (by omega) (by omega)).mp h58; omega))], rfl⟩)
    · refine Rn.step (pc' := 63) rfl rfl ?_
      refine Rn.iconst (v := 8) (pc' := 65) rfl (by decide) rfl ?_
      refine Rn.icmp_ge (pc1 := 78) (pc2 := 68) rfl rfl rfl (fun h65 => ?_) (fun h65 => ?_)
      · refine Rn.iconst (v := 0) (pc' := 79) rfl (by decide) rfl ?_
        exact Rn.iret rfl (rfl) (⟨by rw [if_neg (fun z => absurd z.1 (by have := hx.2.2.1; have := (nI_leI (a := 8) (b := k) (by omega) (by omega)).mp h65; omega))], rfl⟩)
      · refine Rn.step (pc' := 69) rfl rfl ?_
        refine Rn.step (pc' := 70) rfl rfl ?_
        have hk8 : k < 8 := by
          have := mt (nI_leI (a := 8) (b := k) (by omega) (by omega)).mpr h65
          omega
        have hpk : pkD (A 51) p k < 2 ^ 63 := Nat.lt_of_lt_of_le (pkD_lt (fun j => clamp_b (hT _)) k) (Nat.le_trans (Nat.pow_le_pow_right (j := 7) (by decide) (by omega)) (by decide))
        refine Rn.lcmp (pc' := 71) rfl rfl ?_
        refine Rn.ifc_ne (pc1 := 78) (pc2 := 74) rfl rfl rfl (fun h71 => ?_) (fun h71 => ?_)
        · refine Rn.iconst (v := 0) (pc' := 79) rfl (by decide) rfl ?_
          exact Rn.iret rfl (rfl) (⟨by rw [if_neg (fun z => h71 ((lg_cmp_eq _ _).mpr (by rw [hV hk8, (pk_inj k x hlt hx.1).mpr ⟨by rw [← z.1]; omega, z.2⟩])))], rfl⟩)
        · refine Rn.iconst (v := 1) (pc' := 75) rfl (by decide) rfl ?_
          refine Rn.step (pc' := 79) rfl rfl ?_
          exact Rn.iret rfl (rfl) (⟨by rw [if_pos]; have e9 := (pk_inj k x hlt hx.1).mp (by have := (lg_cmp_eq _ _).mp h71; rw [hV hk8] at this; exact (l_inj hpk hx.2.2.2).mp this); exact ⟨by rw [← e9.1]; omega, e9.2⟩, rfl⟩)
  · obtain ⟨c, c1, c2, c3⟩ := let_c h21.2
    have hq2 : leE (A 51) n (p + (k + 1)) = leE (A 51) n p := by rw [← hq]; exact (rnE_s h21).symm
    have hbd : p + (k + 1) ≤ n := by have := h21.1; omega
    refine Rn.step (pc' := 26) rfl rfl ?_
    refine Rn.iconst (v := 8) (pc' := 28) rfl (by decide) rfl ?_
    refine Rn.icmp_ge (pc1 := 50) (pc2 := 31) rfl rfl rfl (fun h28 => ?_) (fun h28 => ?_)
    · refine Rn.step (pc' := 53) rfl rfl ?_
      refine Rn.step (pc' := 10) rfl rfl ?_
      rw [show nI k + Int32.ofInt 1 = nI (k + 1) from nI_add k 1]
      have k8 : 8 ≤ k := (nI_leI (a := 8) (b := k) (by omega) (by omega)).mp h28
      exact l_X_word hn h4 hT hx hv8 hd (k + 1) _ hbd hq2 (fun z => absurd z (by omega))
    · refine Rn.step (pc' := 32) rfl rfl ?_
      refine Rn.iconst (v := 8) (pc' := 34) rfl (by decide) rfl ?_
      refine Rn.lshl (pc' := 35) rfl rfl ?_
      refine Rn.step (pc' := 36) rfl rfl ?_
      refine Rn.getf (pc' := 39) rfl rfl rfl rfl rfl ?_
      refine Rn.step (pc' := 40) rfl rfl ?_
      refine Rn.getf (pc' := 43) rfl rfl rfl rfl rfl ?_
      refine Rn.step (pc' := 45) rfl rfl ?_
      refine Rn.iadd (pc' := 46) rfl rfl ?_
      refine Rn.mbald (k := p + k) (pc' := 47) rfl rfl (by decide) (by rw [hv8, nI_add]) (by have := h21.1; omega) (by decide) rfl ?_
      refine Rn.i2l (pc' := 48) rfl rfl ?_
      refine Rn.lor (pc' := 49) rfl rfl ?_
      refine Rn.step (pc' := 50) rfl rfl ?_
      refine Rn.step (pc' := 53) rfl rfl ?_
      refine Rn.step (pc' := 10) rfl rfl ?_
      rw [show nI k + Int32.ofInt 1 = nI (k + 1) from nI_add k 1]
      have k8 : k < 8 := by
        have := mt (nI_leI (a := 8) (b := k) (by omega) (by omega)).mpr h28
        omega
      refine l_X_word hn h4 hT hx hv8 hd (k + 1) _ hbd hq2 (fun z => ?_)
      rw [hV k8, c3, l_pk (a := pkD (A 51) p k) (Nat.lt_of_lt_of_le (pkD_lt (fun j => clamp_b (hT _)) k) (Nat.pow_le_pow_right (j := 6) (by decide) (by omega))) (by omega)]
      show _ = Int64.ofNat (pkD (A 51) p k * 256 + (A 51 (p + k)).toNatClampNeg)
      rw [c3, nI_clamp (by omega)]
termination_by n - (p + k)
theorem x_isWord {d : Nat} {x : List Nat} {W : Int64} (hd : 1 ≤ d) (h : TM v A T n p) (hx : okW x) (hW : W = Int64.ofNat (pkW x)) : Cl d j_M_isWord [.ref 50, .long W] (MM m0 v dx A LA) (Pi (if wdP T p (leE T n p) x then 1 else 0) (MM m0 (upd v 8 (nI p)) dx A LA)) := by
  subst hW
  obtain ⟨rfl, h⟩ := h
  replace h : TM v A (A 51) n p := ⟨rfl, h⟩
  show Rn d j_M_isWord 0 _ _ _ _
  refine Rn.step (pc' := 1) rfl rfl ?_
  refine Rn.vi (pc' := 4) rfl (by decide) (by omega) rfl rfl rfl (x_see h) ?_
  refine Rn.step (pc' := 5) rfl rfl ?_
  refine Rn.ldc2 (v := 0) (pc' := 6) rfl (by decide) rfl ?_
  refine Rn.step (pc' := 7) rfl rfl ?_
  refine Rn.iconst (v := 0) (pc' := 8) rfl (by decide) rfl ?_
  refine Rn.step (pc' := 10) rfl rfl ?_
  exact l_X_word (p := p) (by exact h.2.1) h.2.2.1 h.2.2.2.1 hx rfl hd 0 0 h.le rfl (fun _ => rfl)
theorem x_takesWord {d : Nat} {x : List Nat} {W : Int64} (hd : 2 ≤ d) (h : TM v A T n p) (hx : okW x) (hW : W = Int64.ofNat (pkW x)) : Cl d j_M_takesWord [.ref 50, .long W] (MM m0 v dx A LA) (fun r m2 => (wdP T p (leE T n p) x → r = some (.int 1) ∧ m2 = MM m0 (upd v 8 (nI (leE T n p))) dx A LA) ∧ (¬ wdP T p (leE T n p) x → r = some (.int 0) ∧ m2 = MM m0 (upd v 8 (nI p)) dx A LA)) := by
  show Rn d j_M_takesWord 0 _ _ _ _
  refine Rn.step (pc' := 1) rfl rfl ?_
  refine Rn.step (pc' := 2) rfl rfl ?_
  refine Rn.vi (pc' := 5) rfl (by decide) (by omega) rfl rfl rfl (x_isWord (by omega) h hx hW) ?_
  refine Rn.ifp_ne (pc1 := 10) (pc2 := 8) rfl rfl rfl (fun h5 => ?_) (fun h5 => ?_)
  · refine Rn.step (pc' := 11) rfl rfl ?_
    refine Rn.vv (pc' := 14) rfl (by decide) (by omega) rfl rfl rfl (x_M_pass (n := n) (i := p) (by exact h.2.1) h.2.2.1 (by omega) rfl h.le) ?_
    refine Rn.iconst (v := 1) (pc' := 15) rfl (by decide) rfl ?_
    exact Rn.iret rfl (rfl) (⟨fun _ => ⟨rfl, by rw [updO, h.1]⟩, fun z => absurd h5 z⟩)
  · refine Rn.iconst (v := 0) (pc' := 9) rfl (by decide) rfl ?_
    exact Rn.iret rfl (rfl) (⟨fun z => absurd z h5, fun _ => ⟨rfl, rfl⟩⟩)
end T1
end MS2
