/-! THE INTERPRETER IS SOUND: what it comes to, the machine comes to. -/
section XO
variable {gt nst : List Cond} {cls : List vw_C} {acl : Nat → Nat} {fty : Nat → List FieldType} {nM : Nat} {yn : Nat → MethodName} {strs : List (Nat × String × Nat × String)} {lens : List Nat} {byt : List (List Int32)}
variable {mx : Nat → Nat} {bt : Nat → ByteArray}
variable {B : Nat} {sp : Nat → Value} {sp0 : Nat → Option xC} {D : va_G} {aC : Nat → ClassId} {adK adV : Nat → Nat} {b L : Nat} {sc : Nat → Int32}
variable {p : Program} {l : Launch} {e : Env} {R : Room} {s : State} {mid : MethodId} {args : Array Value} {below : List Frame} {meth : Method} {c : Code} {H : Heap} {locs : List Loc} {cells slots : Nat} {Q : State → Prop}
variable {G : Nat → Nat → Option (Instr × Nat)} {na np rc : Nat → Nat} {rk : Nat → FieldType} {rt : Nat → Option FieldType}
def xrm (d mc ms : Nat) : Room := { frames := d, cells := mc, slots := ms, locals := 64 * d }
/-- what the interpreter comes to with fuel n, the machine comes to -/
def xSnd (gt nst : List Cond) (cls : List vw_C) (acl : Nat → Nat) (fty : Nat → List FieldType) (nM : Nat) (yn : Nat → MethodName) (strs : List (Nat × String × Nat × String)) (lens : List Nat) (byt : List (List Int32)) (mx : Nat → Nat) (bt : Nat → ByteArray) (G : Nat → Nat → Option (Instr × Nat)) (na rc : Nat → Nat) (rk : Nat → FieldType) (rt : Nat → Option FieldType) (l : Launch) (B : Nat) (sp : Nat → Value) (sp0 : Nat → Option xC) (D : va_G) (aC : Nat → ClassId) (adK adV : Nat → Nat) (b L : Nat) (sc : Nat → Int32) (n : Nat) : Prop :=
  ∀ (d j pc : Nat) (ls st : List Value) (m : xM) (r : Option Value) (m' : xM), ix G fty acl na mx rc rk n d j pc ls st m = some (r, m') → j < nM + 1 →
    ∀ (p : Program) (e : Env) (R : Room) (s : State) (mid : MethodId) (args : Array Value) (below : List Frame) (meth : Method) (c : Code) (H : Heap) (locs : List Loc) (cells slots : Nat) (Q : State → Prop) (lsA : Array Slot),
      xAct gt mx bt yn j p s mid args meth c → xE cls acl nst strs lens byt B sp D aC adK adV b L sc s s.heap → B ≤ s.heap.size → xH cls B sp sp0 D aC s m H locs → xLs B sp lsA (mx j) ls → d ≤ R.frames → 64 * d ≤ R.locals → cells + (m'.1 - m.1) ≤ R.cells → slots + (m'.2.1 - m.2.1) ≤ R.slots →
      (∀ (H' : Heap) (locs' : List Loc) (lsA' : Array Slot) (pc' : Nat), xH cls B sp sp0 D aC s m' H' locs' → xRet bt rk rt j r pc' → W p l e R s mid args below meth c H' locs' (cells + (m'.1 - m.1)) (slots + (m'.2.1 - m.2.1)) Q (F0 mid pc' lsA' (r.toList.map (cv B sp)))) →
      W p l e R s mid args below meth c H locs cells slots Q (F0 mid pc lsA (st.map (cv B sp)))
theorem x_met {n d k : Nat} {as : List Value} {m m' : xM} {r : Option Value} (hw : xWd gt nst) (hme : xMe gt mx bt yn nM np rt) (hsp : xSp strs lens byt B sp adK adV b L sc sp0) (ih : xSnd gt nst cls acl fty nM yn strs lens byt mx bt G na rc rk rt l B sp sp0 D aC adK adV b L sc n) (hk : k < nM) (hO : xOk sp0 m) (hlen : (xlo as).length ≤ mx k) (h : ix G fty acl na mx rc rk n d k 0 (xent (mx k) as) [] m = some (r, m')) :
    Met l (yn k) (Cond.code (yn k) (bt k) (mx k) (rt k) :: gt) (xrm d (m'.1 - m.1) (m'.2.1 - m.2.1)) (xPc cls acl nst strs lens byt B sp D aC adK adV b L sc as m) (xQ cls B sp D aC r m') (m'.1 - m.1) (m'.2.1 - m.2.1) (fun q => B ≤ q) := by
  obtain ⟨h1, h2, h3, h4, h5, h6, h7⟩ := hme.2 k hk
  refine va_MetF (cc := bt k) (maxL := mx k) (ret := rt k) h3 rfl ?_
  intro p e s m0 args below meth c s₁ Bd hml hv
  obtain ⟨rfl, hE, hB, hP, hz⟩ := hv
  have hx := Bd.exec
  have hb := Bd.bytes
  have hr := Bd.returns
  have hts := atoms_spec (ws := Cond.code (yn k) (bt k) (mx k) (rt k) :: gt) Bd.pre
  have hown : s.vm.findClass (yn k).cls = some m0.cls := findClass_of_methodNamed Bd.named
  have hlocks := Bd.notSynchronized
  have hin : (yn k).name = "<init>" → meth.name = "<init>" := fun h => (name_of_methodNamed Bd.named Bd.method).1.trans h
  rw [lg_entry_eq]
  have hL := xLs.entry (B := B) (sp := sp) hsp.1 hlen
  generalize ((lg_sl (as.map (cv B sp)) ++ List.replicate (mx k - (lg_sl (as.map (cv B sp))).length) Slot.unset).toArray) = lsA at hL ⊢
  refine ih d k 0 (xent (mx k) as) [] m r m' h (by omega) p e _ s m0 _ below meth c s.heap [] 0 0 _ lsA ⟨hx, hb, hml, hown, fun w hw' => hts w (List.mem_cons_of_mem _ hw'), hin⟩ hE hB ⟨hP, hz, va_S.rf, hO⟩ hL (Nat.le_refl _) (Nat.le_refl _) (by simp [headSpec, xrm]) (by simp [headSpec, xrm]) ?_
  intro H' locs' lsA' pc' hH' hret
  simp only [Nat.zero_add]
  have hq : ∀ t : State, t.heap = H' → s.WarmedH t.vm → xQ cls B sp D aC r m' (as.map (cv B sp)).toArray s (.returned (r.map (cv B sp))) t := fun t ht _ => ⟨⟨rfl, by rw [ht]; exact hH'.1, by rw [ht]; exact hH'.2.1⟩, hH'.2.2.1.F ht⟩
  match r, hret, hq with
  | none, hret, hq => exact W.vret hx hb (hr.trans hret.2) hq hH'.2.2.1.2.2 hret.1
  | some (.int v), hret, hq => exact W.zret hx hb (hr.trans hret.2.1) hret.2.2 hq hH'.2.2.1.2.2 hret.1
  | some (.long v), hret, hq => exact W.lret hx hb (hr.trans hret.2) hq hH'.2.2.1.2.2 hret.1
  | some (.ref v), hret, hq =>
    obtain ⟨g1, ⟨ty, g2, g3⟩, g4⟩ := hret
    exact W.aret hx hb (hr.trans g2) g3 (Or.inr ⟨_, cv_ref g4⟩) hq hH'.2.2.1.2.2 g1
  | some (.float _), hret, _ => exact hret.elim
  | some (.double _), hret, _ => exact hret.elim
  | some .null, hret, _ => exact hret.elim
  | some (.retAddr _), hret, _ => exact hret.elim
/-- what a call needs of the tables -/
theorem x_cb {j k q1 d mc ms : Nat} (hw : xWd gt nst) (hme : xMe gt mx bt yn nM np rt) (hk : k < nM) (hts : ∀ w ∈ gt, w.before args s = true) (hfr : d + 1 ≤ R.frames) (hlo : 64 * (d + 1) ≤ R.locals) (hl : Cond.methodLink (yn j).cls q1 (yn k) ∈ gt) : CallB R s args (yn j).cls q1 (yn k) (bt k) (mx k) (rt k) (Cond.code (yn k) (bt k) (mx k) (rt k) :: gt) (xrm d mc ms) mc ms (np k) := by
  obtain ⟨h1, h2, h3, h4, h5, h6, h7⟩ := hme.2 k hk
  have hG : GoodIn gt (Cond.code (yn k) (bt k) (mx k) (rt k) :: gt) := by
    intro w hw'
    have hm : w ∈ gt := by
      rcases List.mem_cons.mp hw' with rfl | h
      · exact h1
      · exact h
    exact ⟨hm, good_of_word (hw.1 w hm)⟩
  refine ⟨rfl, rfl, hfr, by simp only [xrm]; omega, pay_in hts hG, List.mem_cons_self, hts _ h1, hts _ h2, ⟨h4, h5⟩, fun sig h => ?_, hts _ hl⟩
  rw [h] at h7
  exact (Option.some.inj h7).symm
theorem x_pre {as : List Value} {m : xM} (hw : xWd gt nst) (hsp : xSp strs lens byt B sp adK adV b L sc sp0) (hE : xE cls acl nst strs lens byt B sp D aC adK adV b L sc s s.heap) (hB : B ≤ s.heap.size) (hH : xH cls B sp sp0 D aC s m H locs) : ∀ U : State, U.heap = H → s.WarmedH U.vm → xPc cls acl nst strs lens byt B sp D aC adK adV b L sc as m (as.map (cv B sp)).toArray U := by
  intro U hU hW
  refine ⟨rfl, ?_, by rw [hU]; exact Nat.le_trans hB hH.2.2.1.1, by rw [hU]; exact hH.1, by rw [hU]; exact hH.2.1⟩
  rw [hU]
  exact xE.warm hw (hE.kept (Nat.lt_of_lt_of_le hsp.2.2.1 hB) hsp.2.2.1 hH.2.2.1.2.1) hW
theorem x_map (as rest : List Value) : (as.reverse ++ rest).map (cv B sp) = (as.map (cv B sp)).reverse ++ rest.map (cv B sp) := by
  rw [List.map_append, List.map_reverse]
theorem x_rest (hsp : ∀ i, (sp i).category = 1) {pc : Nat} {lsA : Array Slot} {st rest : List Value} (h : xcat rest ≤ 8) : 2 * (F0 mid pc lsA st).monitorRoom + ((rest.map (cv B sp)).map fun v => v.category).sum ≤ 8 := lv_room (by rw [cv_cats hsp]; exact h)
theorem x_opt (r : Option Value) (rest : List Value) : (r.map (cv B sp)).toList ++ rest.map (cv B sp) = (r.toList ++ rest).map (cv B sp) := by
  cases r <;> simp
set_option maxHeartbeats 4000000 in
theorem ix_sound (hw : xWd gt nst) (hcl : xCl gt cls fty) (hme : xMe gt mx bt yn nM np rt) (hgo : xGo gt nst cls acl nM yn strs bt G na np rc rk rt) (hsp : xSp strs lens byt B sp adK adV b L sc sp0) : ∀ n, xSnd gt nst cls acl fty nM yn strs lens byt mx bt G na rc rk rt l B sp sp0 D aC adK adV b L sc n := by
  intro n
  induction n with
  | zero => intro d j pc ls st m r m' h; cases h
  | succ n ih =>
    intro d j pc ls st m r m' h hj p e R s mid args below meth c H locs cells slots Q lsA C0 hE hB hH hL hfr hlo hc hs hret
    have C1 := C0
    obtain ⟨hx, hb, hml, hown, hts, hnm⟩ := C1
    replace h : ixB G fty acl na mx rc rk (ix G fty acl na mx rc rk n) d j pc ls st m = some (r, m') := h
    unfold ixB at h
    split at h
    · cases h
    · rename_i i len hGi
      obtain ⟨raw, hd, hk, hk2⟩ := hgo j pc i len hj hGi
      split at h
      · -- ireturn
        split at h
        · split at h
          · rename_i hn
            cases h
            obtain ⟨rfl, rfl⟩ := hk
            simp only [Nat.sub_self, Nat.add_zero] at hret
            exact hret H locs lsA pc hH ⟨hd, hk2, hn⟩
          · cases h
        · cases h
      · split at h
        · cases h
          obtain ⟨rfl, rfl⟩ := hk
          simp only [Nat.sub_self, Nat.add_zero] at hret
          exact hret H locs lsA pc hH ⟨hd, hk2⟩
        · cases h
      · split at h
        · split at h
          · rename_i hv
            cases h
            obtain ⟨rfl, rfl⟩ := hk
            simp only [Nat.sub_self, Nat.add_zero] at hret
            exact hret H locs lsA pc hH ⟨hd, hk2, hv⟩
          · cases h
        · cases h
      · split at h
        · cases h
          obtain ⟨rfl, rfl⟩ := hk
          simp only [Nat.sub_self, Nat.add_zero] at hret
          exact hret H locs lsA pc hH ⟨hd, hk2⟩
        · cases h
      · -- invokevirtual
        rename_i k
        obtain ⟨q1, rfl, rfl, hkk⟩ := hk
        cases d with
        | zero => cases h
        | succ d' =>
          dsimp only at h
          split at h
          · rename_i hk9
            split at h
            · cases h
            · rename_i pc1 ls1 st1 m1 h1
              have hl1 : Cond.methodLink (yn j).cls q1 ⟨"[I", "clone", "()Ljava/lang/Object;"⟩ ∈ gt := by
                rcases hkk with ⟨-, h⟩ | ⟨h2, -⟩
                · exact h
                · exact absurd h2 (by have := hme.1; omega)
              have mo1 := x_clone_mono h1
              have mo2 := ix_mono _ _ _ _ _ _ _ _ _ h
              refine sx_clone hw hsp C0 hE hB hd hl1 h1 hH hL (by omega) (by omega) (by omega) (by omega) (fun H1 locs1 hH1 hls => ?_)
              subst hls
              have e1 : cells + (m1.1 - m.1) + (m'.1 - m1.1) = cells + (m'.1 - m.1) := by omega
              have e2 : slots + (m1.2.1 - m.2.1) + (m'.2.1 - m1.2.1) = slots + (m'.2.1 - m.2.1) := by omega
              refine ih (d' + 1) j _ _ _ m1 r m' h hj p e R s mid args below meth c H1 locs1 _ _ Q lsA C0 hE hB hH1 hL hfr hlo (by rw [e1]; exact hc) (by rw [e2]; exact hs) ?_
              rw [e1, e2]
              exact hret
          rename_i hk9
          obtain ⟨hkn, hl1, hl2, hl3⟩ : k < nM ∧ Cond.methodLink (yn j).cls q1 (yn k) ∈ gt ∧ Cond.instanceMethod (yn k) ∈ gt ∧ Cond.selects (yn k).cls (yn k) (yn k) ∈ gt := by
            rcases hkk with ⟨h, -⟩ | h
            · exact absurd h hk9
            · exact h
          replace hk2 : na k = np k + 1 ∧ ((∃ r, cls[rc k]? = some r ∧ r.1 = (yn k).cls) ∨ (rc k = 90 ∧ (yn k).cls = "java/lang/String")) := by
            rcases hk2 with h | h
            · exact absurd h hk9
            · exact h
          split at h
          · cases h
          · rename_i as rest harg
            split at h
            · rename_i hrcv
              split at h
              · cases h
              · rename_i r1 m1 h1
                obtain ⟨rfl, hlen, hcat, hlo2⟩ := x_arg_spec harg
                have mo1 := ix_mono _ _ _ _ _ _ _ _ _ h1
                have mo2 := ix_mono _ _ _ _ _ _ _ _ _ h
                have hO1 := ix_ok _ _ _ _ _ _ _ _ _ h1 hH.2.2.2
                have hM := x_met hw hme hsp ih hkn hH.2.2.2 hlo2 h1
                match as, hrcv, hlen, hlo2, harg, h1, hM with
                | [], hrcv, _, _, _, _, _ => simp [x_rcv] at hrcv
                | .ref a :: as, hrcv, hlen, hlo2, harg, h1, hM =>
                  have hn1 : (as.map (cv B sp)).length = np k := by
                    have := hk2.1
                    simp at hlen ⊢
                    omega
                  have hrc : ∃ aa cellB, cv B sp (.ref a) = .ref aa ∧ H[aa]? = some cellB ∧ cellB.vm.isStatics = false ∧ s.vm.findClass (yn k).cls = some cellB.cls := by
                    simp only [x_rcv] at hrcv
                    split at hrcv
                    · rename_i ci fs hca
                      have hci : ci = rc k := by simpa using hrcv
                      subst hci
                      by_cases ha : a < xS
                      · rcases hk2.2 with ⟨r0, hr0, hr1⟩ | ⟨h90, -⟩
                        · obtain ⟨cell, g1, g2, g3⟩ := va_recv hE.1 hH.1 hr0 (pw_get hH.2.2.2 ha hca)
                          exact ⟨_, cell, cv_ref ha, g1, g2, by rw [← hr1]; exact g3⟩
                        · obtain ⟨r', hr', -⟩ := hH.1 a _ (pw_get hH.2.2.2 ha hca)
                          dsimp only [cC] at hr'
                          rw [h90] at hr'
                          exact (x_cat_ne hcl.1 hr').elim
                      · obtain ⟨-, h5⟩ := hsp.2.2.2.2.2.2 a _ (hH.2.2.2.spec ha hca)
                        rcases h5 with ⟨i, hi, rfl, h6⟩ | ⟨i, hi, rfl, h6⟩ | ⟨rfl, h6⟩
                        · simp only [Sum.inr.injEq, Prod.mk.injEq] at h6
                          rcases hk2.2 with ⟨r0, hr0, hr1⟩ | ⟨h90, hstr⟩
                          · rw [h6.1] at hr0
                            exact (x_cat_ne hcl.1 hr0).elim
                          · obtain ⟨cell, g1, g2, g3⟩ := vk_recv hE.2.2.2.1 hi hH.2.2.1
                            exact ⟨_, cell, by rw [cv_sp]; exact (hsp.2.2.2.2.1 i hi).1, g1, g2, by rw [hstr]; exact g3⟩
                        · cases h6
                        · cases h6
                    · cases hrcv
                  obtain ⟨aa, cellB, ea, hcell⟩ := hrc
                  have hrun := va_runV (g := F0 mid pc lsA (((Value.ref a :: as).reverse ++ rest).map (cv B sp))) (As := as.map (cv B sp)) (rest := rest.map (cv B sp)) (H := H) (locs := locs) (cells := cells) (slots := slots) (e := e) (below := below) (meth := meth) (b := aa) ⟨hx, hb, hml, hown, hts⟩ hM ⟨x_cb (j := j) (q1 := q1) hw hme hkn hts hfr hlo hl1, hts _ hl2, hts _ hl3⟩ ⟨xPc.blind hw, ⟨cellB, hcell⟩, fun U hU hW => by
                    have := x_pre (as := .ref a :: as) hw hsp hE hB hH U hU hW
                    rw [List.map_cons, ea] at this
                    exact this⟩ rfl hn1 hL.2.1 (by rw [x_map, List.map_cons, ea]; simp) (x_rest hsp.1 hcat) hd ⟨by omega, by omega⟩
                  refine x_call hrun hH.2.2.1 (fun _ h => h) hO1 (fun H1 locs1 hH1 => ?_)
                  rw [x_opt]
                  have e1 : cells + (m1.1 - m.1) + (m'.1 - m1.1) = cells + (m'.1 - m.1) := by omega
                  have e2 : slots + (m1.2.1 - m.2.1) + (m'.2.1 - m1.2.1) = slots + (m'.2.1 - m.2.1) := by omega
                  refine ih (d' + 1) j (pc + 3) ls _ m1 r m' h hj p e R s mid args below meth c H1 locs1 _ _ Q lsA C0 hE hB hH1 hL hfr hlo (by rw [e1]; exact hc) (by rw [e2]; exact hs) ?_
                  rw [e1, e2]
                  exact hret
                | .int _ :: _, hrcv, _, _, _, _, _ => simp [x_rcv] at hrcv
                | .long _ :: _, hrcv, _, _, _, _, _ => simp [x_rcv] at hrcv
                | .float _ :: _, hrcv, _, _, _, _, _ => simp [x_rcv] at hrcv
                | .double _ :: _, hrcv, _, _, _, _, _ => simp [x_rcv] at hrcv
                | .null :: _, hrcv, _, _, _, _, _ => simp [x_rcv] at hrcv
                | .retAddr _ :: _, hrcv, _, _, _, _, _ => simp [x_rcv] at hrcv
            · cases h
      · -- invokestatic
        rename_i k
        obtain ⟨q1, rfl, rfl, hkk⟩ := hk
        cases d with
        | zero => cases h
        | succ d' =>
          dsimp only at h
          split at h
          · rename_i hk9
            split at h
            · cases h
            · rename_i pc1 ls1 st1 m1 h1
              have hl1 : Cond.methodLink (yn j).cls q1 arraycopyName ∈ gt := by
                rcases hkk with ⟨-, h⟩ | ⟨h2, -⟩
                · exact h
                · exact absurd h2 (by have := hme.1; omega)
              have mo1 := x_copy_mono h1
              obtain ⟨mo1, mo1', rfl, rfl⟩ := mo1
              refine sx_copy hw hsp C0 hE hd hl1 h1 hH hL (by omega) (by omega) (fun H1 locs1 hH1 => ?_)
              refine ih (d' + 1) j (pc + 3) _ _ m1 r m' h hj p e R s mid args below meth c H1 locs1 _ _ Q lsA C0 hE hB hH1 hL hfr hlo (by rw [← mo1]; exact hc) (by rw [← mo1']; exact hs) ?_
              rw [← mo1, ← mo1']
              exact hret
          · rename_i hk9
            split at h
            · cases h
            · rename_i as rest harg
              split at h
              · cases h
              · rename_i r1 m1 h1
                obtain ⟨hkn, hl1, hl2⟩ : k < nM ∧ Cond.methodLink (yn j).cls q1 (yn k) ∈ gt ∧ Cond.static (yn k) ∈ gt := by
                  rcases hkk with ⟨h, -⟩ | h
                  · exact absurd h hk9
                  · exact h
                have hnk : na k = np k := by
                  rcases hk2 with h | h
                  · exact absurd h hk9
                  · exact h
                obtain ⟨rfl, hlen, hcat, hlo2⟩ := x_arg_spec harg
                have mo1 := ix_mono _ _ _ _ _ _ _ _ _ h1
                have mo2 := ix_mono _ _ _ _ _ _ _ _ _ h
                have hO1 := ix_ok _ _ _ _ _ _ _ _ _ h1 hH.2.2.2
                have hM := x_met hw hme hsp ih hkn hH.2.2.2 hlo2 h1
                have hrun := va_runS (g := F0 mid pc lsA ((as.reverse ++ rest).map (cv B sp))) (As := as.map (cv B sp)) (rest := rest.map (cv B sp)) (H := H) (locs := locs) (cells := cells) (slots := slots) (e := e) (below := below) (meth := meth) ⟨hx, hb, hml, hown, hts⟩ hM ⟨x_cb (j := j) (q1 := q1) hw hme hkn hts hfr hlo hl1, hts _ hl2⟩ ⟨xPc.blind hw, x_pre hw hsp hE hB hH⟩ rfl (by simp; omega) hL.2.1 (x_map as rest) (x_rest hsp.1 hcat) hd ⟨by omega, by omega⟩
                refine x_call hrun hH.2.2.1 (fun _ h => h) hO1 (fun H1 locs1 hH1 => ?_)
                rw [x_opt]
                have e1 : cells + (m1.1 - m.1) + (m'.1 - m1.1) = cells + (m'.1 - m.1) := by omega
                have e2 : slots + (m1.2.1 - m.2.1) + (m'.2.1 - m1.2.1) = slots + (m'.2.1 - m.2.1) := by omega
                refine ih (d' + 1) j (pc + 3) ls _ m1 r m' h hj p e R s mid args below meth c H1 locs1 _ _ Q lsA C0 hE hB hH1 hL hfr hlo (by rw [e1]; exact hc) (by rw [e2]; exact hs) ?_
                rw [e1, e2]
                exact hret
      · -- invokespecial
        rename_i k
        obtain ⟨q1, rfl, rfl, hkk⟩ := hk
        cases d with
        | zero => cases h
        | succ d' =>
          dsimp only at h
          split at h
          · rename_i hk9
            split at h
            · rename_i a rr
              split at h
              · rename_i hcat
                have hl1 : Cond.methodLink (yn j).cls q1 objectInit ∈ gt := by
                  rcases hkk with ⟨-, h⟩ | ⟨h2, -⟩
                  · exact h
                  · exact absurd h2 (by have := hme.1; omega)
                rw [List.map_cons, cv_ref hcat.2]
                refine W.objInit hx hb hown (hts _ hl1) (hts _ hw.2.2.2.1) (hts _ hw.2.2.2.2.1) rfl (by rw [hml]; exact hL.2.1) rfl hd (by omega) (by
                  rw [cv_cats hsp.1]
                  show 2 * 0 + _ + 12 ≤ _
                  omega) ?_
                exact ih (d' + 1) j (pc + 3) ls rr m r m' h hj p e R s mid args below meth c H locs _ _ Q lsA C0 hE hB hH hL hfr hlo hc hs hret
              · cases h
            · cases h
          · rename_i hk9
            split at h
            · cases h
            · rename_i as rest harg
              split at h
              · rename_i hrcs
                split at h
                · cases h
                · rename_i r1 m1 h1
                  obtain ⟨hkn, hnme, hl2, hl1⟩ : k < nM ∧ (yn k).name = "<init>" ∧ Cond.instanceMethod (yn k) ∈ gt ∧ (Cond.methodLink (yn j).cls q1 (yn k) ∈ gt ∨ Cond.methodLinkNest (yn j).cls q1 (yn k) "OneBoots" ∈ nst) := by
                    rcases hkk with ⟨h, -⟩ | h
                    · exact absurd h hk9
                    · exact h
                  obtain ⟨hnk, hrtn⟩ : na k = np k + 1 ∧ rt k = none := by
                    rcases hk2 with h | h
                    · exact absurd h hk9
                    · exact h
                  obtain ⟨rfl, hlen, hcat, hlo2⟩ := x_arg_spec harg
                  have mo1 := ix_mono _ _ _ _ _ _ _ _ _ h1
                  have mo2 := ix_mono _ _ _ _ _ _ _ _ _ h
                  have hO1 := ix_ok _ _ _ _ _ _ _ _ _ h1 hH.2.2.2
                  have hM := x_met hw hme hsp ih hkn hH.2.2.2 hlo2 h1
                  match as, hrcs, hlen, hlo2, harg, h1, hM with
                  | [], hrcs, _, _, _, _, _ => simp [x_rcs] at hrcs
                  | .ref a :: as, hrcs, hlen, hlo2, harg, h1, hM =>
                    have ha : a < xS := by simpa [x_rcs] using hrcs
                    have hn1 : (as.map (cv B sp)).length = np k := by
                      simp at hlen ⊢
                      omega
                    have hpr : PreS s H (xPc cls acl nst strs lens byt B sp D aC adK adV b L sc (.ref a :: as) m) (.ref (B + a) :: as.map (cv B sp)) := ⟨xPc.blind hw, fun U hU hW => by
                      have := x_pre (as := .ref a :: as) hw hsp hE hB hH U hU hW
                      rw [List.map_cons, cv_ref ha] at this
                      exact this⟩
                    have hst9 : (F0 mid pc lsA (((Value.ref a :: as).reverse ++ rest).map (cv B sp))).stack = (as.map (cv B sp)).reverse ++ .ref (B + a) :: rest.map (cv B sp) := by
                      show ((Value.ref a :: as).reverse ++ rest).map (cv B sp) = _
                      rw [x_map, List.map_cons, cv_ref ha]
                      simp
                    have hcb : ∀ hh : Cond.methodLink (yn j).cls q1 (yn k) ∈ gt, CallB R s args (yn j).cls q1 (yn k) (bt k) (mx k) none (Cond.code (yn k) (bt k) (mx k) (rt k) :: gt) (xrm d' (m1.1 - m.1) (m1.2.1 - m.2.1)) (m1.1 - m.1) (m1.2.1 - m.2.1) (np k) := fun hh => by
                      have := x_cb (R := R) (d := d') (mc := m1.1 - m.1) (ms := m1.2.1 - m.2.1) (j := j) (q1 := q1) hw hme hkn hts hfr hlo hh
                      rw [hrtn] at this ⊢
                      exact this
                    have hrun : va_Run p l e R s mid args below meth c H locs cells slots (m1.1 - m.1) (m1.2.1 - m.2.1) (F0 mid pc lsA (((Value.ref a :: as).reverse ++ rest).map (cv B sp))) (rest.map (cv B sp)) (xQ cls B sp D aC r1 m1 (Value.ref (B + a) :: as.map (cv B sp)).toArray) (fun q => B ≤ q) := by
                      rcases hl1 with hl1 | hl1
                      · exact va_runI (bytes := bt k) (maxL := mx k) ⟨hx, hb, hml, hown, hts⟩ hM ⟨hcb hl1, hnme, hts _ hl2⟩ hpr rfl hn1 hL.2.1 hst9 (x_rest hsp.1 hcat) hd ⟨by omega, by omega⟩
                      · obtain ⟨g1, g2, g3, g4, g5, g6, g7⟩ := hme.2 k hkn
                        refine va_runIN (bytes := bt k) (maxL := mx k) (host := "OneBoots") ⟨hx, hb, hml, hown, hts⟩ hM ⟨va_cnB (np k) hts (fun w hw' => ?_) (ws' := gt) (by rw [hrtn]) rfl rfl (hE.2.1 _ hl1) (hts _ g2) ⟨g4, g5, g7⟩ ⟨hfr, by simp only [xrm]; omega⟩, hnme, hts _ hl2⟩ hpr rfl hn1 hL.2.1 hst9 (x_rest hsp.1 hcat) hd ⟨by omega, by omega⟩
                        have hm : w ∈ gt := by
                          rcases List.mem_cons.mp hw' with rfl | h
                          · exact g1
                          · exact h
                        exact ⟨hm, good_of_word (hw.1 w hm)⟩
                    refine x_call hrun hH.2.2.1 (fun _ h => h) hO1 (fun H1 locs1 hH1 => ?_)
                    rw [x_opt]
                    have e1 : cells + (m1.1 - m.1) + (m'.1 - m1.1) = cells + (m'.1 - m.1) := by omega
                    have e2 : slots + (m1.2.1 - m.2.1) + (m'.2.1 - m1.2.1) = slots + (m'.2.1 - m.2.1) := by omega
                    refine ih (d' + 1) j (pc + 3) ls _ m1 r m' h hj p e R s mid args below meth c H1 locs1 _ _ Q lsA C0 hE hB hH1 hL hfr hlo (by rw [e1]; exact hc) (by rw [e2]; exact hs) ?_
                    rw [e1, e2]
                    exact hret
                  | .int _ :: _, hrcs, _, _, _, _, _ => simp [x_rcs] at hrcs
                  | .long _ :: _, hrcs, _, _, _, _, _ => simp [x_rcs] at hrcs
                  | .float _ :: _, hrcs, _, _, _, _, _ => simp [x_rcs] at hrcs
                  | .double _ :: _, hrcs, _, _, _, _, _ => simp [x_rcs] at hrcs
                  | .null :: _, hrcs, _, _, _, _, _ => simp [x_rcs] at hrcs
                  | .retAddr _ :: _, hrcs, _, _, _, _, _ => simp [x_rcs] at hrcs
              · cases h
      · -- others
        split at h
        · cases h
        · rename_i pc1 ls1 st1 m1 h1
          have mo1 := xs_mono h1
          have mo2 := ix_mono _ _ _ _ _ _ _ _ _ h
          refine sx_step hw.2.2.1 hsp hcl C0 hE hB hd hk h1 hH hL (by omega) (by omega) (fun H1 locs1 lsA1 hH1 hL1 => ?_)
          have e1 : cells + (m1.1 - m.1) + (m'.1 - m1.1) = cells + (m'.1 - m.1) := by omega
          have e2 : slots + (m1.2.1 - m.2.1) + (m'.2.1 - m1.2.1) = slots + (m'.2.1 - m.2.1) := by omega
          refine ih d j pc1 ls1 st1 m1 r m' h hj p e R s mid args below meth c H1 locs1 _ _ Q lsA1 C0 hE hB hH1 hL1 hfr hlo (by rw [e1]; exact hc) (by rw [e2]; exact hs) ?_
          rw [e1, e2]
          exact hret
end XO
