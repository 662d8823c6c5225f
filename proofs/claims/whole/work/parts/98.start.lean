/-! THE CLAIM OUT OF ONE WALK OF THE LAW'S BODY. Your part is whole_start (and what it stands on); all else here is the same for every law, but numbers. -/
def R_law : String := "OneBootsLaw"
def lw_P (b : Addr) (xs : List Int32) (args : Array Value) (s : State) : Prop := args = #[.ref b] ∧ s.IntsAt b xs ∧ xs.length ≤ 3584 ∧ (Jvm.Cond.and given_1 narrow_1).before args s = true
def lw_Q (_ : Array Value) (s : State) (o : Outcome) (t : State) : Prop := o = .returned (some (.int 1)) ∧ Framed s o t [] room_1.cells room_1.slots
def lw_Z (below : List Frame) (a : Array Value) (s : State) : State → Prop := fun t => ∃ o, t.status = .running ∧ Ended t below o ∧ lw_Q a s o t
/-- the law's own end, with 1 on the stack, nothing written that was there before, its room as the claim has it -/
theorem lw_ret {p : Program} {l : Launch} {e : Env} {s : State} {m : MethodId} {below : List Frame} {meth : Method} {c : Code} {b : Nat} (hx : p.tables.exec = Jvm.exec) (hb : c.code = code) (hr : meth.sig.returnType = ret) (hlocks : meth.locks = false) {pc : Nat} {H : Heap} {ls : Array Slot} (hdg : decode code pc = .ok (.ireturn, 1)) : W p l e room_1 s m #[Value.ref b] below meth c H [] room_1.cells room_1.slots (lw_Z below #[Value.ref b] s) (F0 m pc ls [.int 1]) := by
  intro T hT X
  obtain ⟨fs, hret, hrun, hended, hW, hframe⟩ := X.leave (v := some (.int 1)) (hlocks := hlocks) (fun h => by rw [hr] at h; cases h)
  have hmeth' : T.vm.method? m = some meth := X.method'
  refine ⟨T.setFrames fs, ?_, .returned (some (.int 1)), hrun, hended, rfl, ⟨_, rfl⟩, hW, hframe⟩
  jvm_step X.here [X.here.top, hx, hb, hdg, hmeth', hr, ret, narrow_b1]
  (try refine ⟨rfl, ?_⟩); (try refine ⟨rfl, ?_⟩)
  first | (intro acts; rw [hret _ acts rfl rfl rfl]) | rw [hret _ _ rfl rfl rfl]
  exact Steps.refl _
/-- what holds at the law's entry: the machine, the code, the tables' words (any of lw_tbl by 'hts w (by decide +kernel)'), the script of L ints xs at the cell b, what the Statement gives of the start (any of its parts by flat_of_before) -/
def lw_At (p : Program) (s : State) (m : MethodId) (meth : Method) (c : Code) (b L : Nat) (xs : Nat → Int32) : Prop :=
  p.tables.exec = Jvm.exec ∧ c.code = code ∧ meth.sig.returnType = ret ∧ c.maxLocals = 4 ∧ s.vm.findClass R_law = some m.cls ∧ (∀ w ∈ lw_tbl, w.before #[Value.ref b] s = true) ∧ va_X b L xs s s.heap ∧ b < s.heap.size ∧ meth.locks = false ∧ (Jvm.Cond.and given_1 narrow_1).before #[Value.ref b] s = true

def xsp0 (L : Nat) (sc : Nat → Int32) (k : Nat) : Option xC := if k < xS then none else if k - xS = 60 then some (.inl (0, L, xints sc)) else if k - xS < 12 then (if (k - xS) % 2 = 0 then some (.inr (90, [.ref (xS + (k - xS + 1)), .int 0])) else some (.inl (1, xlens.getD ((k - xS) / 2) 0, xints fun j => (xbyt.getD ((k - xS) / 2) []).getD j 0))) else none
/-- the memory at the law's beginning -/
def xm0 (L : Nat) (sc : Nat → Int32) : xM := (0, 0, xsp0 L sc)
def xtm (i : Nat) : Term := .string (xstr.getD i (0, "", 0, "")).2.1 (xstr.getD i (0, "", 0, "")).2.2.1
def xfl : List Cond := flatC (Jvm.Cond.and given_1 narrow_1)
theorem xf_ex : ∀ i, i < 6 → Cond.exactly (xtm i) "java/lang/String" ∈ xfl := by decide +kernel
theorem xf_co : ∀ i, i < 6 → Cond.eq (.field (xtm i) "java/lang/String" "coder" "B") (.int 0) ∈ xfl := by decide +kernel
theorem xf_ar : ∀ i, i < 6 → Cond.arrayOf (.field (xtm i) "java/lang/String" "value" "[B") .byte ∈ xfl := by decide +kernel
theorem xf_le : ∀ i, i < 6 → Cond.eq (.length (.field (xtm i) "java/lang/String" "value" "[B")) (.int (Int32.ofNat (xlens.getD i 0))) ∈ xfl := by decide +kernel
theorem xf_el : ∀ i, i < 6 → ∀ j, j < xlens.getD i 0 → Cond.eq (.elem (.field (xtm i) "java/lang/String" "value" "[B") (.int (Int32.ofNat j))) (.int ((xbyt.getD i []).getD j 0)) ∈ xfl := by decide +kernel
theorem xf_ne : ∀ i, i < 6 → ∀ j, j < 6 → i ≠ j → Cond.not (Cond.eq (xtm i) (xtm j)) ∈ xfl ∨ Cond.not (Cond.eq (xtm j) (xtm i)) ∈ xfl := by decide +kernel
theorem xf_cs : Cond.eq (.static "java/lang/String" "COMPACT_STRINGS" "Z") (.int 1) ∈ xfl := by decide +kernel
theorem xf_fm : Cond.isRef (.static "jdk/internal/util/Preconditions" "SIOOBE_FORMATTER" "Ljava/util/function/BiFunction;") ∈ xfl := by decide +kernel
theorem xl_cs : Cond.laysStatic "java/lang/String" "COMPACT_STRINGS" "Z" ∈ lw_tbl ∧ Cond.initialized "java/lang/String" ∈ lw_tbl := by decide +kernel
theorem xl_fm : Cond.laysStatic "jdk/internal/util/Preconditions" "SIOOBE_FORMATTER" "Ljava/util/function/BiFunction;" ∈ lw_tbl ∧ Cond.initialized "jdk/internal/util/Preconditions" ∈ lw_tbl := by decide +kernel
theorem xl_st : ∀ q ∈ xstr, Cond.stringRef q.2.1 q.2.2.1 q.2.2.2 ∈ lw_tbl := by decide +kernel
theorem xl_ov : ∀ t, t < 7 → 4 ≤ t → Cond.arrayOver (xat xcls xacl t) ∈ lw_tbl := by decide +kernel
theorem xst_ix : ∀ q ∈ xstr, q.1 % 2 = 0 ∧ q.1 / 2 < 6 ∧ xtm (q.1 / 2) = .string q.2.1 q.2.2.1 := by decide +kernel
theorem xat_ov : ∀ t, t < 7 → 4 ≤ t → ∃ r, xcls[xacl t]? = some r := by
  intro t h1 h2
  have : t = 4 ∨ t = 5 ∨ t = 6 := by omega
  rcases this with rfl | rfl | rfl
  · exact ⟨_, rfl⟩
  · exact ⟨_, rfl⟩
  · exact ⟨_, rfl⟩
set_option maxHeartbeats 4000000 in
theorem law_run {p : Program} {e : Env} {s : State} {m : MethodId} {below : List Frame} {meth : Method} {c : Code} (l : Launch) {b L : Nat} {xs : Nat → Int32} (C0 : lw_At p s m meth c b L xs) {n : Nat} {m' : xM} (hix : ix xG xfty xacl xna xmx xrc xrk n 60 j_L_law 0 [.ref (xS + 60), xb, xb, xb] [] (xm0 L xs) = some (some (.int 1), m')) (hm1 : m'.1 ≤ 1000) (hm2 : m'.2.1 ≤ 20000) : W p l e room_1 s m #[Value.ref b] below meth c s.heap [] 0 0 (lw_Z below #[Value.ref b] s) (entryFrame m ([Value.ref b] : List Value).toArray 4) := by
  obtain ⟨hx, hb, hr, hml, hown, hts, hX, hbl, hlocks, hgv⟩ := C0
  have hq1 : 1000 ≤ room_1.cells := by decide
  have hq2 : 20000 ≤ room_1.slots := by decide
  have hA : ∀ a : Nat, a < s.heap.size → ¬ (fun q => s.heap.size ≤ q) a := fun a h => Nat.not_le.mpr h
  have hfl : ∀ w ∈ xfl, w.before #[Value.ref b] s = true := flat_of_before _ hgv
  have htg : ∀ w ∈ xgt, w.before #[Value.ref b] s = true := fun w hw => hts w (List.mem_filter.mp hw).1
  have hKn : ∀ k : Nat, ∃ q : ClassId × (Nat → Nat), ∀ r, xcls[k]? = some r → u_Kn s r.1 r.2.1 r.2.2 q.1 q.2 := by
    intro k
    cases hk : xcls[k]? with
    | none => exact ⟨(0, fun _ => 0), fun r h => by cases h⟩
    | some r =>
      obtain ⟨C, T, N⟩ := r
      obtain ⟨k1, k2, k3, k4, k5, k6⟩ := xCl_ok.2 _ _ _ _ hk
      obtain ⟨cC, iS, h⟩ := u_known (C := C) (T := T) (N := N) (n := N) htg k2 (htg _ k5)
      exact ⟨(cC, iS), fun r h' => by cases h'; exact h⟩
  obtain ⟨dd, hdd⟩ := Classical.axiomOfChoice hKn
  have hAr : ∀ t : Nat, ∃ cA : ClassId, t < 7 → ArrOfT s cA (xat xcls xacl t) ∧ va_RA s cA (xat xcls xacl t) := by
    intro t
    have prim : ∀ ty : FieldType, ty ∈ [FieldType.int, .byte, .long, .boolean] → xat xcls xacl t = ty → ∃ cA : ClassId, t < 7 → ArrOfT s cA (xat xcls xacl t) ∧ va_RA s cA (xat xcls xacl t) := by
      intro ty hty he
      obtain ⟨cA, kA, comp, f1, f2, f3⟩ := Cond.arrayClass_spec (htg _ (xWd_ok.2.2.1 ty hty))
      refine ⟨cA, fun _ => ?_⟩
      rw [he]
      refine ⟨fun n z => ⟨fun k h => (by cases h), kA, f2, comp, f3⟩, ?_⟩
      simp only [List.mem_cons, List.not_mem_nil, or_false] at hty
      rcases hty with rfl | rfl | rfl | rfl <;> exact f1
    match t with
    | 0 => exact prim .int (by simp) rfl
    | 1 => exact prim .byte (by simp) rfl
    | 2 => exact prim .long (by simp) rfl
    | 3 => exact prim .boolean (by simp) rfl
    | t + 4 =>
      by_cases h7 : t + 4 < 7
      · obtain ⟨r, hr0⟩ := xat_ov (t + 4) h7 (by omega)
        have e0 : xat xcls xacl (t + 4) = .object r.1 := by rw [xat_ob (by omega), hr0]; rfl
        have h1 := hts _ (xl_ov (t + 4) h7 (by omega))
        rw [e0] at h1 ⊢
        obtain ⟨comp, cA, kA, f1, f2, f3, f4, f5⟩ := Cond.arrayOver_spec h1
        exact ⟨cA, fun _ => ⟨fun n z => ⟨fun k h => (by cases h), kA, f3, comp, f4⟩, kA, comp, f3, f4, f1, f5⟩⟩
      · exact ⟨0, fun h => absurd h h7⟩
  obtain ⟨aC, haC⟩ := Classical.axiomOfChoice hAr
  obtain ⟨adK, adV, hS6, hadK⟩ := vk_Sof (args := #[Value.ref b]) (s := s) (N := 6) (tm := xtm) (len := xlens) (byt := xbyt) (A := fun q => s.heap.size ≤ q) (by decide +kernel) (fun i hi => hfl _ (xf_ex i hi)) (fun i hi => hfl _ (xf_co i hi)) (fun i hi => hfl _ (xf_ar i hi)) (fun i hi => hfl _ (xf_le i hi)) (fun i hi j hj => hfl _ (xf_el i hi j hj)) (fun i j hi hj hij => (xf_ne i hi j hj hij).imp (hfl _) (hfl _)) hA
  have hfm : ∃ v : Value, ((∃ a, v = .ref a) ∨ v = .null) ∧ va_Z "jdk/internal/util/Preconditions" "SIOOBE_FORMATTER" "Ljava/util/function/BiFunction;" v (fun q => s.heap.size ≤ q) s s.heap := by
    rcases va_Zqof (A := fun q => s.heap.size ≤ q) (hts _ xl_fm.1) (hts _ xl_fm.2) (hfl _ xf_fm) hA with h | ⟨t, h⟩
    · exact ⟨_, Or.inr rfl, h⟩
    · exact ⟨_, Or.inl ⟨t, rfl⟩, h⟩
  obtain ⟨fm, hfm1, hfm2⟩ := hfm
  have hspE : ∃ sp : Nat → Value, sp 60 = .ref b ∧ sp 50 = fm ∧ (∀ i, i < 6 → sp (2 * i) = .ref (adK i) ∧ sp (2 * i + 1) = .ref (adV i)) ∧ ∀ i, (∃ a, sp i = .ref a) ∨ sp i = .null := by
    refine ⟨fun i => if i = 60 then .ref b else if i = 50 then fm else if i % 2 = 0 then .ref (adK (i / 2)) else .ref (adV (i / 2)), by simp, by simp, fun i hi => ?_, fun i => ?_⟩
    · have a1 : ¬ 2 * i = 60 := by omega
      have a2 : ¬ 2 * i = 50 := by omega
      have a3 : ¬ 2 * i + 1 = 60 := by omega
      have a4 : ¬ 2 * i + 1 = 50 := by omega
      have a5 : 2 * i % 2 = 0 := by omega
      have a6 : ¬ (2 * i + 1) % 2 = 0 := by omega
      have a7 : 2 * i / 2 = i := by omega
      have a8 : (2 * i + 1) / 2 = i := by omega
      simp only [if_neg a1, if_neg a2, if_neg a3, if_neg a4, if_pos a5, if_neg a6, a7, a8]
      exact ⟨trivial, trivial⟩
    · dsimp only
      split
      · exact Or.inl ⟨_, rfl⟩
      · split
        · exact hfm1
        · split
          · exact Or.inl ⟨_, rfl⟩
          · exact Or.inl ⟨_, rfl⟩
  obtain ⟨sp, hsp60, hsp50, hspi, hspr⟩ := hspE
  have hcat : ∀ i, (sp i).category = 1 := fun i => by
    rcases hspr i with ⟨a, h⟩ | h <;> rw [h] <;> rfl
  have hsp : xSp xstr xlens xbyt s.heap.size sp adK adV b L xs (xsp0 L xs) := by
    refine ⟨hcat, hspr, hbl, fun q hq => ⟨(xst_ix q hq).1, (xst_ix q hq).2.1⟩, hspi, hsp60, fun k c h => ?_⟩
    unfold xsp0 at h
    split at h
    · cases h
    · rename_i hk
      refine ⟨by omega, ?_⟩
      split at h
      · cases h
        exact Or.inr (Or.inr ⟨by omega, rfl⟩)
      · split at h
        · split at h
          · rename_i h12 he
            cases h
            refine Or.inl ⟨(k - xS) / 2, by omega, by omega, ?_⟩
            rw [show 2 * ((k - xS) / 2) = k - xS by omega]
          · rename_i h12 he
            cases h
            exact Or.inr (Or.inl ⟨(k - xS) / 2, by omega, by omega, rfl⟩)
        · cases h
  have hE : xE xcls xacl xnst xstr xlens xbyt s.heap.size sp (fun k => (dd k).1, fun k => (dd k).2) aC adK adV b L xs s s.heap := by
    refine ⟨⟨fun k q hq => hdd k q hq, fun k q hq => ?_⟩, fun w hw => ?_, fun t h4 h7 r hr0 => ?_, hS6, fun q hq => ?_, va_Zof (hts _ xl_cs.1) (hts _ xl_cs.2) (va_eqi (hfl _ xf_cs)) hA, by rw [hsp50]; exact hfm2, hX⟩
    · have h7 : k < 7 := by
        have := (List.getElem?_eq_some_iff.mp hq).1
        simpa [xty] using this
      rw [xty_at k h7] at hq
      cases hq
      exact haC k h7
    · have h1 := hts w (xnst_mem w hw)
      rcases xWd_ok.2.1 w hw with ⟨a, i, y, hh, rfl⟩ | rfl
      · exact va_Nw.of rfl h1
      · exact va_Nw.of rfl h1
    · have h1 := hts _ (xl_ov t h7 h4)
      rw [xat_ob h4, hr0] at h1
      exact va_AO.of h1
    · obtain ⟨g1, g2, g3⟩ := xst_ix q hq
      have h1 := hadK (q.1 / 2) g2
      rw [g3] at h1
      exact vk_R.of (hts _ (xl_st q hq)) h1
  have hO : xOk (xsp0 L xs) (xm0 L xs) := by
    refine ⟨Nat.zero_le _, fun k hk => ?_, fun k hk => rfl⟩
    simp [xm0, xsp0, hk]
  have hP : va_P (fun k => (dd k).1, fun k => (dd k).2) xcls (pw s.heap.size sp aC (xm0 L xs)) s.heap := fun k q h => by simp [pw, xm0] at h
  have hL := xLs.entry (B := s.heap.size) (sp := sp) (as := [.ref (xS + 60)]) (nL := 4) hcat (by decide)
  rw [show ([.ref (xS + 60)] : List Value).map (cv s.heap.size sp) = [.ref b] by simp only [List.map_cons, List.map_nil, cv_sp, hsp60]] at hL
  rw [lg_entry_eq]
  have hsnd := ix_sound (l := l) (B := s.heap.size) (sp := sp) (sp0 := xsp0 L xs) (D := (fun k => (dd k).1, fun k => (dd k).2)) (aC := aC) (adK := adK) (adV := adV) (b := b) (L := L) (sc := xs) xWd_ok xCl_ok xMe_ok xGo_ok hsp n
  refine hsnd 60 j_L_law 0 [.ref (xS + 60), xb, xb, xb] [] (xm0 L xs) (some (.int 1)) m' hix (by decide) p e room_1 s m #[Value.ref b] below meth c s.heap [] 0 0 (lw_Z below #[Value.ref b] s) _ ⟨hx, hb, hml, hown, htg, fun h => absurd h (by decide +kernel)⟩ hE (Nat.le_refl _) ⟨hP, rfl, va_S.rf, hO⟩ hL (by decide) (by decide) ?_ ?_ ?_
  · show 0 + (m'.1 - 0) ≤ room_1.cells
    omega
  · show 0 + (m'.2.1 - 0) ≤ room_1.slots
    omega
  · intro H' locs' lsA' pc' hH' hret
    refine va_forget (fun q hq => hH'.2.2.1.2.2 q hq) ?_
    refine W.widen (k := room_1.cells) (n := room_1.slots) (by show 0 + (m'.1 - 0) ≤ room_1.cells; omega) (by show 0 + (m'.2.1 - 0) ≤ room_1.slots; omega) ?_
    exact lw_ret hx hb hr hlocks hret.1
