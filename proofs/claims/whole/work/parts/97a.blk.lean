/-! THE GRAMMAR: what is put can be reckoned. -/
section NO2
variable {m0 : xM} {v : Nat → Int32} {dx : Int64} {A : Nat → Nat → Int32} {LA : Nat → Nat → Int64} {s : Nat → Int32}
section X1
variable {T : Nat → Int32} {n : Nat}
abbrev tkL : Type := List (Nat × Nat)
def dptL : tkL → Nat → Option Nat
  | [], k => some k
  | t :: U, k => (tkd t k).bind (dptL U)
def stkL (wd : Nat → Int64) : tkL → List Int64 → List Int64
  | [], st => st
  | t :: U, st => stkL wd U (tkx wd t st)
theorem dptL_app : ∀ (U V : tkL) (k : Nat), dptL (U ++ V) k = (dptL U k).bind (dptL V)
  | [], V, k => rfl
  | t :: U, V, k => by
    show (tkd t k).bind (dptL (U ++ V)) = ((tkd t k).bind (dptL U)).bind (dptL V)
    cases tkd t k with
    | none => rfl
    | some j => exact dptL_app U V j
theorem stkL_app (wd : Nat → Int64) : ∀ (U V : tkL) (st : List Int64), stkL wd (U ++ V) st = stkL wd V (stkL wd U st)
  | [], V, st => rfl
  | t :: U, V, st => stkL_app wd U V (tkx wd t st)
abbrev i01 (x : Int64) : Prop := x = 0 ∨ x = 1
/-- a block: one more on the stack; vv: it is 0 or 1 -/
def BK (h : Nat) (vv : Prop) (U : tkL) : Prop := (∀ t, t ∈ U → tOk t) ∧ (∀ k, k + h ≤ 40 → dptL U k = some (k + 1)) ∧ ∀ wd st, ∃ x, stkL wd U st = x :: st ∧ (vv → i01 x)
/-- a tail: the stack stays as high -/
def TK (h : Nat) (vv : Prop) (U : tkL) : Prop := (∀ t, t ∈ U → tOk t) ∧ (∀ k, k + h ≤ 40 → dptL U (k + 1) = some (k + 1)) ∧ ∀ wd x st, ∃ y, stkL wd U (x :: st) = y :: st ∧ (vv → i01 x → i01 y)
/-- a tail over two: one less -/
def TK2 (h : Nat) (U : tkL) : Prop := (∀ t, t ∈ U → tOk t) ∧ (∀ k, k + h ≤ 40 → dptL U (k + 2) = some (k + 1)) ∧ ∀ wd x z st, ∃ y, stkL wd U (x :: z :: st) = y :: st ∧ (i01 x → i01 z → i01 y)
theorem mem_app {U V : tkL} (hU : ∀ t, t ∈ U → tOk t) (hV : ∀ t, t ∈ V → tOk t) : ∀ t, t ∈ U ++ V → tOk t := fun t h => (List.mem_append.mp h).elim (hU t) (hV t)
theorem BK.up {h h2 : Nat} {vv : Prop} {U : tkL} (b : BK h vv U) (hh : h ≤ h2) : BK h2 vv U := ⟨b.1, fun k hk => b.2.1 k (by omega), b.2.2⟩
theorem BK.any {h : Nat} {vv : Prop} {U : tkL} (b : BK h vv U) : BK h False U := ⟨b.1, b.2.1, fun wd st => by
  obtain ⟨x, e, _⟩ := b.2.2 wd st
  exact ⟨x, e, fun z => z.elim⟩⟩
theorem BK.tail {h : Nat} {vv : Prop} {U V : tkL} (b : BK h vv U) (c : TK h vv V) : BK h vv (U ++ V) := ⟨mem_app b.1 c.1, fun k hk => by rw [dptL_app, b.2.1 k hk]; exact c.2.1 k hk, fun wd st => by
  obtain ⟨x, e, f⟩ := b.2.2 wd st
  obtain ⟨y, e2, f2⟩ := c.2.2 wd x st
  exact ⟨y, by rw [stkL_app, e, e2], fun z => f2 z (f z)⟩⟩
theorem TK.nil (h : Nat) (vv : Prop) : TK h vv [] := ⟨fun _ z => absurd z List.not_mem_nil, fun _ _ => rfl, fun _ x _ => ⟨x, rfl, fun _ z => z⟩⟩
theorem TK.app {h : Nat} {vv : Prop} {U V : tkL} (b : TK h vv U) (c : TK h vv V) : TK h vv (U ++ V) := ⟨mem_app b.1 c.1, fun k hk => by rw [dptL_app, b.2.1 k hk]; exact c.2.1 k hk, fun wd x st => by
  obtain ⟨y, e, f⟩ := b.2.2 wd x st
  obtain ⟨z, e2, f2⟩ := c.2.2 wd y st
  exact ⟨z, by rw [stkL_app, e, e2], fun a c => f2 a (f a c)⟩⟩
/-- a sign of two, as the model has them -/
abbrev isOp (c : Nat) : Prop := 2 ≤ c ∧ c < 15 ∧ c ≠ 11
theorem op_1 {c : Nat} (h : isOp c) (k : Nat) : dptL [(c, 0)] (k + 2) = some (k + 1) := by
  show (tkd (c, 0) (k + 2)).bind _ = _
  unfold tkd
  rw [if_neg (by show ¬ (c = 0 ∨ c = 1); omega), if_neg (by show ¬ c = 11; omega), if_pos (by omega)]
  rfl
theorem op_2 {c : Nat} (h : isOp c) (wd : Nat → Int64) (x z : Int64) (st : List Int64) : stkL wd [(c, 0)] (x :: z :: st) = opr c z x :: st := by
  show tkx wd (c, 0) (x :: z :: st) = _
  unfold tkx
  rw [if_neg (by show ¬ c = 0; omega), if_neg (by show ¬ c = 1; omega), if_neg (by show ¬ c = 11; omega)]
theorem op_ok {c : Nat} (h : isOp c) : ∀ t, t ∈ [((c, 0) : Nat × Nat)] → tOk t := fun t ht => by
  rw [List.mem_singleton.mp ht]
  exact ⟨h.2.1, fun z => absurd z (by show ¬ c = 1; omega), by show 0 < 100000; omega⟩
/-- a block and a sign: a tail -/
theorem BK.op {h c : Nat} {vv v2 : Prop} {U : tkL} (b : BK h vv U) (hc : isOp c) (hv : v2 → vv ∧ ∀ x z, i01 x → i01 z → i01 (opr c z x)) : TK (h + 1) v2 (U ++ [(c, 0)]) := ⟨mem_app b.1 (op_ok hc), fun k hk => by rw [dptL_app, b.2.1 (k + 1) (by omega)]; exact op_1 hc k, fun wd x st => by
  obtain ⟨y, e, f⟩ := b.2.2 wd (x :: st)
  exact ⟨opr c x y, by rw [stkL_app, e, op_2 hc], fun a bx => (hv a).2 y x (f (hv a).1) bx⟩⟩
/-- the same over two -/
theorem BK.op2 {h c : Nat} {U : tkL} (b : BK h True U) (hc : isOp c) (hv : ∀ x z, i01 x → i01 z → i01 (opr c z x)) : (∀ t, t ∈ U ++ [(c, 0)] → tOk t) ∧ (∀ k, k + (h + 2) ≤ 40 → dptL (U ++ [(c, 0)]) (k + 2) = some (k + 2)) ∧ ∀ wd x z st, ∃ y, stkL wd (U ++ [(c, 0)]) (x :: z :: st) = y :: z :: st ∧ (i01 x → i01 y) := ⟨mem_app b.1 (op_ok hc), fun k hk => by rw [dptL_app, b.2.1 (k + 2) (by omega)]; exact op_1 hc (k + 1), fun wd x z st => by
  obtain ⟨y, e, f⟩ := b.2.2 wd (x :: z :: st)
  exact ⟨opr c x y, by rw [stkL_app, e, op_2 hc], fun a => hv y x (f trivial) a⟩⟩
theorem and_01 : ∀ x z, i01 x → i01 z → i01 (opr 12 z x) := by
  rintro x z (rfl | rfl) (rfl | rfl) <;> decide
theorem or_01 : ∀ x z, i01 x → i01 z → i01 (opr 13 z x) := by
  rintro x z (rfl | rfl) (rfl | rfl) <;> decide
theorem ite01 (p : Prop) [Decidable p] : i01 (if p then 1 else 0) := by
  by_cases h : p
  · rw [if_pos h]
    exact Or.inr rfl
  · rw [if_neg h]
    exact Or.inl rfl
theorem cmp_01 {c : Nat} (h : 6 ≤ c ∧ c ≤ 10) (x z : Int64) : i01 (opr c x z) := by
  obtain rfl | rfl | rfl | rfl | rfl : c = 6 ∨ c = 7 ∨ c = 8 ∨ c = 9 ∨ c = 10 := by omega
  · exact ite01 (x < z)
  · exact ite01 (x ≤ z)
  · exact ite01 (x = z)
  · exact ite01 (z ≤ x)
  · exact ite01 (z < x)
/-- s' has put U more than s -/
abbrev pu (s s' : gS) (U : tkL) : Prop := s'.2.2 = s.2.2 ++ U
theorem gVa_k (hT : ∀ i, -128 ≤ T i ∧ T i ≤ 127) {s s' : gS} (h : gVa T n s = .inr s') : ∃ U, pu s s' U ∧ BK 1 False U := by
  unfold gVa at h
  have one : ∀ c : Nat × Nat, tOk c → (c.1 = 0 ∨ c.1 = 1) → BK 1 False [c] := fun c hc h01 => ⟨fun t ht => by rw [List.mem_singleton.mp ht]; exact hc, fun k hk => by
    show (tkd c k).bind _ = _
    unfold tkd
    rw [if_pos h01, if_pos (by omega)]
    rfl, fun wd st => by
    show ∃ x, tkx wd c st = x :: st ∧ _
    unfold tkx
    rcases h01 with e | e
    · rw [if_pos e]
      exact ⟨_, rfl, fun z => z.elim⟩
    · rw [if_neg (by omega), if_pos e]
      exact ⟨_, rfl, fun z => z.elim⟩⟩
  by_cases k2 : kdE T n s.1 = 2
  · rw [if_pos k2] at h
    by_cases k5 : tkE T n s.1 - s.1 ≤ 5
    · rw [if_pos k5] at h
      obtain ⟨_, rfl⟩ := gPa_r h
      obtain ⟨t1, t2⟩ := tz2 k2
      obtain ⟨_, e2⟩ := dc_dv (T := T) (tkE T n s.1 - s.1) s.1 0 (fun k a b => (rnE_in (lo := 48) (hi := 57) (T := T) (n := n) (i := s.1) (k := k) a (by rw [← t1]; omega)).2)
      have el : dcN T (tkE T n s.1 - s.1) s.1 0 < 100000 := Nat.lt_of_lt_of_le e2 (by rw [Nat.zero_add, Nat.one_mul]; exact Nat.pow_le_pow_right (j := 5) (by decide) k5)
      exact ⟨[_], rfl, one _ ⟨by show 0 < 15; omega, fun z => absurd z (by show ¬ 0 = 1; omega), el⟩ (Or.inl rfl)⟩
    · rw [if_neg k5] at h
      exact nomatch h
  · rw [if_neg k2] at h
    by_cases k5 : wix T s.1 (leE T n s.1) ws2 0 < 0
    · rw [if_pos k5] at h
      exact nomatch h
    · rw [if_neg k5] at h
      obtain ⟨_, rfl⟩ := gPa_r h
      rcases wix_r (T := T) (p := s.1) (q := leE T n s.1) ws2 0 with e | ⟨j, _, b, e⟩
      · rw [e] at k5
        exact absurd (by decide) k5
      · have hj : j < 15 := by rw [Nat.zero_add] at b; exact b
        rw [e, nI_clamp (by omega)]
        exact ⟨[_], rfl, one _ ⟨by show 1 < 15; omega, fun _ => hj, by show j < 100000; omega⟩ (Or.inr rfl)⟩
theorem pu.tr {s a b : gS} {U V : tkL} (h : pu s a U) (g : pu a b V) : pu s b (U ++ V) := by
  show b.2.2 = s.2.2 ++ (U ++ V)
  rw [show b.2.2 = a.2.2 ++ V from g, show a.2.2 = s.2.2 ++ U from h, List.append_assoc]
theorem pu.pt (c : Nat × Nat) (s : gS) : pu s (gPt c s) [c] := rfl
theorem gTq_k (hT : ∀ i, -128 ≤ T i ∧ T i ≤ 127) : ∀ (f : Nat) (s s' : gS), gTq T n f s = .inr s' → ∃ U, pu s s' U ∧ TK 2 False U
  | 0, _, _, h => nomatch h
  | f + 1, s, s', h => by
    by_cases k : isMl (rkE T n s.1)
    · rw [show gTq T n (f + 1) s = _ from if_pos k] at h
      obtain ⟨z, e1, e2⟩ := gBd_r h
      obtain ⟨U, p1, b1⟩ := gVa_k hT e1
      obtain ⟨V, p2, b2⟩ := gTq_k hT f _ s' e2
      exact ⟨(U ++ [(rkE T n s.1, 0)]) ++ V, (pu.tr p1 (pu.pt _ z)).tr p2, (b1.op (v2 := False) (by unfold isMl at k; exact ⟨by omega, by omega, by omega⟩) (fun z => z.elim)).app b2⟩
    · rw [show gTq T n (f + 1) s = .inr s from if_neg k] at h
      obtain rfl := Sum.inr.inj h
      exact ⟨[], (List.append_nil _).symm, TK.nil _ _⟩
theorem gTm_k (hT : ∀ i, -128 ≤ T i ∧ T i ≤ 127) {s s' : gS} (h : gTm T n s = .inr s') : ∃ U, pu s s' U ∧ BK 2 False U := by
  obtain ⟨z, e1, e2⟩ := gBd_r h
  obtain ⟨U, p1, b1⟩ := gVa_k hT e1
  obtain ⟨V, p2, b2⟩ := gTq_k hT _ z s' e2
  exact ⟨U ++ V, p1.tr p2, (b1.up (by omega)).tail b2⟩
theorem gSq_k (hT : ∀ i, -128 ≤ T i ∧ T i ≤ 127) : ∀ (f : Nat) (s s' : gS), gSq T n f s = .inr s' → ∃ U, pu s s' U ∧ TK 3 False U
  | 0, _, _, h => nomatch h
  | f + 1, s, s', h => by
    by_cases k : isAd (rkE T n s.1)
    · rw [show gSq T n (f + 1) s = _ from if_pos k] at h
      obtain ⟨z, e1, e2⟩ := gBd_r h
      obtain ⟨U, p1, b1⟩ := gTm_k hT e1
      obtain ⟨V, p2, b2⟩ := gSq_k hT f _ s' e2
      exact ⟨(U ++ [(rkE T n s.1, 0)]) ++ V, (pu.tr p1 (pu.pt _ z)).tr p2, (b1.op (v2 := False) (by unfold isAd at k; exact ⟨by omega, by omega, by omega⟩) (fun z => z.elim)).app b2⟩
    · rw [show gSq T n (f + 1) s = .inr s from if_neg k] at h
      obtain rfl := Sum.inr.inj h
      exact ⟨[], (List.append_nil _).symm, TK.nil _ _⟩
theorem gSu_k (hT : ∀ i, -128 ≤ T i ∧ T i ≤ 127) {s s' : gS} (hs : s.1 ≤ n) (h : gSu T n s = .inr s') : ∃ U, pu s s' U ∧ BK 3 False U := by
  rw [gSu_m hT hs] at h
  obtain ⟨z, e1, e2⟩ := gBd_r h
  obtain ⟨U, p1, b1⟩ := gTm_k hT e1
  obtain ⟨V, p2, b2⟩ := gSq_k hT _ z s' e2
  exact ⟨U ++ V, p1.tr p2, (b1.up (by omega)).tail b2⟩
theorem cm_rg (p : Nat) : cmE T n p = 0 ∨ (6 ≤ cmE T n p ∧ cmE T n p ≤ 10) := by
  unfold cmE
  repeat' split
  all_goals omega
theorem gCm_k (hT : ∀ i, -128 ≤ T i ∧ T i ≤ 127) {s s' : gS} (hs : s.1 ≤ n) (h : gCm T n s = .inr s') : ∃ U, pu s s' U ∧ BK 4 True U := by
  obtain ⟨a, e1, e2⟩ := gBd_r h
  have b1 := gSu_b hT hs e1
  by_cases c0 : cmE T n a.1 = 0
  · rw [if_pos c0] at e2
    exact nomatch e2
  · rw [if_neg c0] at e2
    unfold gPa at e2
    by_cases k : a.2.1 < 60
    · rw [if_pos k] at e2
      obtain ⟨b, e3, e4⟩ := gBd_r e2
      obtain rfl := Sum.inr.inj e4
      obtain ⟨U, p1, x1⟩ := gSu_k hT hs e1
      obtain ⟨V, p2, x2⟩ := gSu_k (s := gAd T n (a.1, a.2.1 + 1, a.2.2)) hT (nx_le b1.2.1) e3
      have hc := (cm_rg (T := T) (n := n) a.1).resolve_left c0
      have hop : isOp (cmE T n a.1) := ⟨by omega, by omega, by omega⟩
      have p2' : pu a b V := p2
      refine ⟨U ++ (V ++ [(cmE T n a.1, 0)]), p1.tr (p2'.tr (pu.pt _ b)), mem_app x1.1 (mem_app x2.1 (op_ok hop)), fun k hk => ?_, fun wd st => ?_⟩
      · rw [dptL_app, x1.2.1 k (by omega)]
        show dptL (V ++ _) (k + 1) = _
        rw [dptL_app, x2.2.1 (k + 1) (by omega)]
        exact op_1 hop k
      · obtain ⟨x, ex, _⟩ := x1.2.2 wd st
        obtain ⟨y, ey, _⟩ := x2.2.2 wd (x :: st)
        exact ⟨opr (cmE T n a.1) x y, by rw [stkL_app, ex, stkL_app, ey, op_2 hop], fun _ => cmp_01 hc x y⟩
    · rw [if_neg k] at e2
      exact nomatch e2
theorem gTl_k {fa : gS → gR} {h : Nat} (hT : ∀ i, -128 ≤ T i ∧ T i ≤ 127) (hb : ∀ s s', s.1 ≤ n → fa s = .inr s' → gB n s s') (hfa : ∀ s s', s.1 ≤ n → fa s = .inr s' → ∃ U, pu s s' U ∧ BK h True U) : ∀ (f : Nat) (s s' : gS), s.1 ≤ n → (gTl T n fa f 0 s = .inr s' → ∃ U, pu s s' U ∧ TK (h + 2) True U) ∧ (gTl T n fa f 13 s = .inr s' → ∃ U, pu s s' U ∧ TK2 (h + 2) U)
  | 0, _, _, _ => ⟨(fun z => nomatch z), (fun z => nomatch z)⟩
  | f + 1, s, s', hs => by
    have hop12 : isOp 12 := ⟨by omega, by omega, by omega⟩
    have hop13 : isOp 13 := ⟨by omega, by omega, by omega⟩
    by_cases h0 : wix T s.1 (leE T n s.1) ws5 0 = 0
    · constructor
      · intro e
        rw [show gTl T n fa (f + 1) 0 s = _ from if_pos h0] at e
        obtain ⟨z, e1, e2⟩ := gBd_r e
        obtain ⟨U, p1, b1⟩ := hfa (gAd T n s) z (nx_le hs) e1
        have g1 := hb (gAd T n s) z (nx_le hs) e1
        unfold gB at g1
        obtain ⟨V, p2, b2⟩ := (gTl_k hT hb hfa f (gPt (12, 0) z) s' g1.2.1).1 e2
        have p1' : pu s z U := p1
        refine ⟨(U ++ [(12, 0)]) ++ V, (pu.tr p1' (pu.pt _ z)).tr p2, TK.app ?_ b2⟩
        have := b1.op (v2 := True) hop12 (fun _ => ⟨trivial, and_01⟩)
        exact ⟨this.1, fun k hk => this.2.1 k (by omega), this.2.2⟩
      · intro e
        rw [show gTl T n fa (f + 1) 13 s = _ from if_pos h0] at e
        obtain ⟨z, e1, e2⟩ := gBd_r e
        obtain ⟨U, p1, b1⟩ := hfa (gAd T n s) z (nx_le hs) e1
        have g1 := hb (gAd T n s) z (nx_le hs) e1
        unfold gB at g1
        obtain ⟨V, p2, b2⟩ := (gTl_k hT hb hfa f (gPt (12, 0) z) s' g1.2.1).2 e2
        have p1' : pu s z U := p1
        obtain ⟨c1, c2, c3⟩ := b1.op2 hop12 and_01
        refine ⟨(U ++ [(12, 0)]) ++ V, (pu.tr p1' (pu.pt _ z)).tr p2, mem_app c1 b2.1, fun k hk => ?_, fun wd x y st => ?_⟩
        · rw [dptL_app, c2 k hk]
          exact b2.2.1 k hk
        · obtain ⟨u, ex, fx⟩ := c3 wd x y st
          obtain ⟨v, ey, fy⟩ := b2.2.2 wd u y st
          exact ⟨v, by rw [stkL_app, ex, ey], fun a b => fy (fx a) b⟩
    · by_cases h1 : wix T s.1 (leE T n s.1) ws5 0 = 1
      · constructor
        · intro e
          rw [show gTl T n fa (f + 1) 0 s = _ from (if_neg h0).trans (if_pos h1)] at e
          obtain ⟨z, e1, e2⟩ := gBd_r e
          obtain ⟨U, p1, b1⟩ := hfa (gAd T n (gFs 0 s)) z (by rw [gFs0]; exact nx_le hs) e1
          have g1 := hb (gAd T n (gFs 0 s)) z (by rw [gFs0]; exact nx_le hs) e1
          unfold gB at g1
          obtain ⟨V, p2, b2⟩ := (gTl_k hT hb hfa f z s' g1.2.1).2 e2
          rw [gFs0] at p1
          have p1' : pu s z U := p1
          refine ⟨U ++ V, p1'.tr p2, mem_app b1.1 b2.1, fun k hk => ?_, fun wd x st => ?_⟩
          · rw [dptL_app, b1.2.1 (k + 1) (by omega)]
            exact b2.2.1 k hk
          · obtain ⟨u, ex, fx⟩ := b1.2.2 wd (x :: st)
            obtain ⟨y, ey, fy⟩ := b2.2.2 wd u x st
            exact ⟨y, by rw [stkL_app, ex, ey], fun _ b => fy (fx trivial) b⟩
        · intro e
          rw [show gTl T n fa (f + 1) 13 s = _ from (if_neg h0).trans (if_pos h1)] at e
          obtain ⟨z, e1, e2⟩ := gBd_r e
          obtain ⟨U, p1, b1⟩ := hfa (gAd T n (gFs 13 s)) z (by rw [gFs13]; exact nx_le hs) e1
          have g1 := hb (gAd T n (gFs 13 s)) z (by rw [gFs13]; exact nx_le hs) e1
          unfold gB at g1
          obtain ⟨V, p2, b2⟩ := (gTl_k hT hb hfa f z s' g1.2.1).2 e2
          rw [gFs13] at p1
          have p1' : pu (gPt (13, 0) s) z U := p1
          refine ⟨[(13, 0)] ++ (U ++ V), (pu.pt _ s).tr (p1'.tr p2), mem_app (op_ok hop13) (mem_app b1.1 b2.1), fun k hk => ?_, fun wd x y st => ?_⟩
          · rw [dptL_app, op_1 hop13]
            show dptL (U ++ V) (k + 1) = _
            rw [dptL_app, b1.2.1 (k + 1) (by omega)]
            exact b2.2.1 k hk
          · obtain ⟨u, ex, fx⟩ := b1.2.2 wd (opr 13 y x :: st)
            obtain ⟨v, ey, fy⟩ := b2.2.2 wd u (opr 13 y x) st
            exact ⟨v, by rw [stkL_app, op_2 hop13, stkL_app, ex, ey], fun a b => fy (fx trivial) (or_01 x y a b)⟩
      · constructor
        · intro e
          rw [show gTl T n fa (f + 1) 0 s = _ from (if_neg h0).trans (if_neg h1)] at e
          obtain rfl := Sum.inr.inj e
          rw [gFs0]
          exact ⟨[], (List.append_nil _).symm, TK.nil _ _⟩
        · intro e
          rw [show gTl T n fa (f + 1) 13 s = _ from (if_neg h0).trans (if_neg h1)] at e
          obtain rfl := Sum.inr.inj e
          rw [gFs13]
          exact ⟨[(13, 0)], rfl, op_ok hop13, fun k _ => op_1 hop13 k, fun wd x y st => ⟨_, op_2 hop13 wd x y st, or_01 x y⟩⟩
theorem gTs_k {fa : gS → gR} {h : Nat} (hT : ∀ i, -128 ≤ T i ∧ T i ≤ 127) (hb : ∀ s s', s.1 ≤ n → fa s = .inr s' → gB n s s') (hfa : ∀ s s', s.1 ≤ n → fa s = .inr s' → ∃ U, pu s s' U ∧ BK h True U) {s s' : gS} (hs : s.1 ≤ n) (e : gTs T n fa s = .inr s') : ∃ U, pu s s' U ∧ BK (h + 2) True U := by
  obtain ⟨z, e1, e2⟩ := gBd_r e
  obtain ⟨U, p1, b1⟩ := hfa s z hs e1
  have g1 := hb s z hs e1
  unfold gB at g1
  obtain ⟨V, p2, b2⟩ := (gTl_k hT hb hfa _ z s' g1.2.1).1 e2
  exact ⟨U ++ V, p1.tr p2, (b1.up (by omega)).tail b2⟩
theorem gFa_k (hT : ∀ i, -128 ≤ T i ∧ T i ≤ 127) : ∀ (e : Nat) (s s' : gS), s.1 ≤ n → gFa T n e s = .inr s' → ∃ U, pu s s' U ∧ BK (4 + 2 * e) True U
  | 0, s, s', hs, h => by
    by_cases h1 : isN T n s.1
    · rw [show gFa T n 0 s = _ from if_pos h1] at h
      exact nomatch h
    · by_cases h2 : sgE T n s.1 91
      · rw [show gFa T n 0 s = _ from (if_neg h1).trans (if_pos h2)] at h
        exact nomatch h
      · rw [show gFa T n 0 s = _ from (if_neg h1).trans (if_neg h2)] at h
        exact gCm_k hT hs h
  | e + 1, s, s', hs, h => by
    by_cases h1 : isN T n s.1
    · rw [show gFa T n (e + 1) s = _ from if_pos h1] at h
      obtain ⟨z, e1, e2⟩ := gBd_r h
      obtain rfl := Sum.inr.inj e2
      obtain ⟨U, p1, b1⟩ := gFa_k hT e (gAd T n s) z (nx_le hs) e1
      have p1' : pu s z U := p1
      refine ⟨U ++ [(11, 0)], p1'.tr (pu.pt _ z), mem_app b1.1 (fun t ht => by rw [List.mem_singleton.mp ht]; exact ⟨by show 11 < 15; omega, fun z => absurd z (by show ¬ 11 = 1; omega), by show 0 < 100000; omega⟩), fun k hk => ?_, fun wd st => ?_⟩
      · rw [dptL_app, b1.2.1 k (by omega)]
        rfl
      · obtain ⟨x, ex, fx⟩ := b1.2.2 wd st
        refine ⟨1 - x, by rw [stkL_app, ex]; rfl, fun _ => ?_⟩
        rcases fx trivial with rfl | rfl <;> decide
    · by_cases h2 : sgE T n s.1 91
      · rw [show gFa T n (e + 1) s = _ from (if_neg h1).trans (if_pos h2)] at h
        obtain ⟨z, e1, e2⟩ := gBd_r h
        obtain ⟨U, p1, b1⟩ := gTs_k (s := gAd T n s) hT (gFa_b hT e) (gFa_k hT e) (nx_le hs) e1
        by_cases h3 : sgE T n z.1 93
        · rw [if_pos h3] at e2
          obtain rfl := Sum.inr.inj e2
          exact ⟨U, p1, b1.up (by omega)⟩
        · rw [if_neg h3] at e2
          exact nomatch e2
      · rw [show gFa T n (e + 1) s = _ from (if_neg h1).trans (if_neg h2)] at h
        obtain ⟨U, p1, b1⟩ := gCm_k hT hs h
        exact ⟨U, p1, b1.up (by omega)⟩
theorem gTs_10 (hT : ∀ i, -128 ≤ T i ∧ T i ≤ 127) {s s' : gS} (hs : s.1 ≤ n) (e : gTs T n (gFa T n 10) s = .inr s') : ∃ U, pu s s' U ∧ BK 26 True U := gTs_k hT (gFa_b hT 10) (gFa_k hT 10) hs e
end X1
end NO2
