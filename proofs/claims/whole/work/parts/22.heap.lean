/-! EACH INSTRUCTION OF THE INTERPRETER IS ONE OF THE MACHINE: the heap. -/
section XO
variable {gt nst : List Cond} {cls : List vw_C} {acl : Nat → Nat} {fty : Nat → List FieldType} {nM : Nat} {yn : Nat → MethodName} {strs : List (Nat × String × Nat × String)} {lens : List Nat} {byt : List (List Int32)}
variable {mx : Nat → Nat} {bt : Nat → ByteArray}
variable {B : Nat} {sp : Nat → Value} {sp0 : Nat → Option xC} {D : va_G} {aC : Nat → ClassId} {adK adV : Nat → Nat} {b L : Nat} {sc : Nat → Int32}
variable {p : Program} {l : Launch} {e : Env} {R : Room} {s : State} {mid : MethodId} {args : Array Value} {below : List Frame} {meth : Method} {c : Code} {H : Heap} {locs : List Loc} {cells slots : Nat} {Q : State → Prop}
theorem xE.arr (hE : xE cls acl nst strs lens byt B sp D aC adK adV b L sc s s.heap) (t : Nat) (h : t < 7) : ArrOfT s (aC t) (xat cls acl t) ∧ va_RA s (aC t) (xat cls acl t) := hE.1.2 t _ (xty_at t h)
theorem x_cat_ne {q : vw_C} (hz : cls.length ≤ 80) (h : cls[90]? = some q) : False := by
  have := (List.getElem?_eq_some_iff.mp h).1
  omega
theorem sx_getfield {j pc len : Nat} {raw : Instr} {q : Nat} {ls st ls' st' : List Value} {m m' : xM} {pc' : Nat} {lsA : Array Slot} (hsp : xSp strs lens byt B sp adK adV b L sc sp0) (hcl : xCl gt cls fty) (C0 : xAct gt mx bt yn j p s mid args meth c) (hE : xE cls acl nst strs lens byt B sp D aC adK adV b L sc s s.heap) (hB : B ≤ s.heap.size) (hd : decode (bt j) pc = .ok (raw, len)) (hk : xlk gt nst cls acl nM yn strs j pc len raw (.getfield q)) (h : xs fty acl (.getfield q) (pc + len) ls st m = some (pc', ls', st', m')) (hH : xH cls B sp sp0 D aC s m H locs) (hL : xLs B sp lsA (mx j) ls) (hc : cells + (m'.1 - m.1) ≤ R.cells) (hs : slots + (m'.2.1 - m.2.1) ≤ R.slots)
    (kk : ∀ (H' : Heap) (locs' : List Loc) (lsA' : Array Slot), xH cls B sp sp0 D aC s m' H' locs' → xLs B sp lsA' (mx j) ls' → W p l e R s mid args below meth c H' locs' (cells + (m'.1 - m.1)) (slots + (m'.2.1 - m.2.1)) Q (F0 mid pc' lsA' (st'.map (cv B sp)))) : W p l e R s mid args below meth c H locs cells slots Q (F0 mid pc lsA (st.map (cv B sp))) := by
  obtain ⟨hx, hb, hml, hown, hts, hnm⟩ := C0
  obtain ⟨q1, rfl, rfl, hq⟩ := hk
  simp only [xs, x_getf] at h
  split at h
  · rename_i a r
    split at h
    · rename_i ci fs hca
      split at h
      · rename_i hci
        split at h
        · rename_i v hv
          cases h
          simp only [Nat.sub_self, Nat.add_zero, List.map_cons] at kk ⊢
          subst hci
          by_cases ha : a < xS
          · rw [cv_ref ha]
            have hw := pw_get (B := B) (sp := sp) (aC := aC) hH.2.2.2 ha hca
            have hv2 : (fs.map (cv B sp))[q % 64]? = some (cv B sp v) := by rw [List.getElem?_map, hv]; rfl
            rcases hq with ⟨C, T, N, h1, h2, h3, h4⟩ | ⟨rfl, h4⟩ | ⟨rfl, h4⟩
            · exact va_get hx hb hts (hcl.2 _ _ _ _ h1).2.1 hown hE.1 hH.1 a hw h1 (q % 64) h2 (hts _ h4) (by rw [h3]; exact fun _ h9 => h9) hv2 hd (kk H locs lsA hH hL)
            · obtain ⟨r', hr', -⟩ := hH.1 a _ hw
              exact (x_cat_ne hcl.1 hr').elim
            · obtain ⟨r', hr', -⟩ := hH.1 a _ hw
              exact (x_cat_ne hcl.1 hr').elim
          · have hs0 := hH.2.2.2.spec ha hca
            obtain ⟨ha2, h5⟩ := hsp.2.2.2.2.2.2 a _ hs0
            rcases h5 with ⟨i, hi, rfl, h6⟩ | ⟨i, hi, rfl, h6⟩ | ⟨rfl, h6⟩
            · simp only [Sum.inr.injEq, Prod.mk.injEq] at h6
              obtain ⟨h7, rfl⟩ := h6
              have hst := hE.2.2.2.1.1 i hi
              have h8 := hsp.2.2.2.2.1 i hi
              rw [cv_sp, h8.1]
              rcases hq with ⟨C, T, N, h1, h2, h3, h4⟩ | ⟨rfl, h4⟩ | ⟨rfl, h4⟩
              · rw [h7] at h1
                exact (x_cat_ne hcl.1 h1).elim
              · simp only [show 90 * 64 % 64 = 0 from rfl] at hv
                cases hv
                rw [cv_sp, h8.2] at kk
                exact vk_getf hx hb hst.2.2.1 hH.2.2.1 hown (hts _ h4) (fun _ h9 => h9) hd (kk H locs lsA hH hL)
              · simp only [show (90 * 64 + 1) % 64 = 1 from rfl] at hv
                cases hv
                exact vk_getf hx hb hst.2.1 hH.2.2.1 hown (hts _ h4) (fun _ h9 => h9) hd (kk H locs lsA hH hL)
            · cases h6
            · cases h6
        · cases h
      · cases h
    · cases h
  · cases h
theorem sx_putfield {j pc len : Nat} {raw : Instr} {q : Nat} {ls st ls' st' : List Value} {m m' : xM} {pc' : Nat} {lsA : Array Slot} (hsp : xSp strs lens byt B sp adK adV b L sc sp0) (hcl : xCl gt cls fty) (C0 : xAct gt mx bt yn j p s mid args meth c) (hE : xE cls acl nst strs lens byt B sp D aC adK adV b L sc s s.heap) (hB : B ≤ s.heap.size) (hd : decode (bt j) pc = .ok (raw, len)) (hk : xlk gt nst cls acl nM yn strs j pc len raw (.putfield q)) (h : xs fty acl (.putfield q) (pc + len) ls st m = some (pc', ls', st', m')) (hH : xH cls B sp sp0 D aC s m H locs) (hL : xLs B sp lsA (mx j) ls) (hc : cells + (m'.1 - m.1) ≤ R.cells) (hs : slots + (m'.2.1 - m.2.1) ≤ R.slots)
    (kk : ∀ (H' : Heap) (locs' : List Loc) (lsA' : Array Slot), xH cls B sp sp0 D aC s m' H' locs' → xLs B sp lsA' (mx j) ls' → W p l e R s mid args below meth c H' locs' (cells + (m'.1 - m.1)) (slots + (m'.2.1 - m.2.1)) Q (F0 mid pc' lsA' (st'.map (cv B sp)))) : W p l e R s mid args below meth c H locs cells slots Q (F0 mid pc lsA (st.map (cv B sp))) := by
  obtain ⟨hx, hb, hml, hown, hts, hnm⟩ := C0
  obtain ⟨q1, rfl, rfl, C, T, N, h1, h2, h3, h4, h5⟩ := hk
  simp only [xs, x_putf] at h
  split at h
  · rename_i v a r
    split at h
    · rename_i ha
      split at h
      · rename_i ci fs hca
        split at h
        · rename_i hci
          obtain ⟨rfl, hlen⟩ := hci
          split at h
          · rename_i ty hty
            split at h
            · rename_i hnf
              cases h
              simp only [xset, Nat.sub_self, Nat.add_zero, List.map_cons] at kk ⊢
              rw [cv_ref ha]
              obtain ⟨hn, hfit⟩ := cv_nf (B := B) hsp.2.1 hnf
              have hw := pw_get (B := B) (sp := sp) (aC := aC) hH.2.2.2 ha hca
              obtain ⟨k1, k2, k3, k4, k5, k6⟩ := hcl.2 _ _ _ _ h1
              have hpd : parseFieldDescriptor (T (q % 64)).2.2.1 = some ty := (k3 _ h2).trans hty
              have hall : ∀ k, k < N → parseFieldDescriptor (T k).2.2.1 = some ((fun k => (fty (q / 64)).getD k .int) k) := fun k hk9 => by
                rw [k3 k hk9, List.getElem?_eq_getElem (by omega)]
                simp [List.getD, List.getElem?_eq_getElem (show k < (fty (q / 64)).length by omega)]
              have hap := va_apart (own := (yn j).cls) hts k2 (fun k => (fty (q / 64)).getD k .int) hall k4 hE.1 h1
              obtain ⟨r', g1, cell, q1', q2, q3, q4⟩ := hH.1 a _ hw
              have hr : r' = (C, T, N) := Option.some.inj (g1.symm.trans h1)
              subst hr
              obtain ⟨hSl, hfc, kC, hkC, hkind⟩ := hE.1.1 _ _ h1
              obtain ⟨cf, kf, fi, f, hi, hsl⟩ := hSl _ h2
              have hst := (u_facts hfc hkC (u_lays hts k2 h2) hi).1
              have hi' : s.fieldFound? C (T (q % 64)).2.1 (T (q % 64)).2.2.1 = some (cf, kf, fi, f) := by rw [← h3]; exact hi
              have hlay := hts _ (k2 _ (u_in_lay h2))
              unfold u_lay at hlay
              have fin : ∀ (H' : Heap) (k : Nat), H'[B + a]? = some (cell.setSlot f.slot (cv B sp v)) → H'.size = H.size → (∀ z, z ≠ B + a → H'[z]? = H[z]?) → xH cls B sp sp0 D aC s (m.1, m.2.1, va_up m.2.2 a (some (.inr (q / 64, fs.set (q % 64) v)))) H' (locs ++ [⟨B + a, k⟩]) := by
                intro H' k e1 e2 e3
                refine hH.set (c1 := .inr (q / 64, fs.set (q % 64) v)) ha hca e2 e3 ?_
                rw [hsl] at e1
                have hlen2 : q % 64 < (fs.map (cv B sp)).length := by rw [List.length_map]; exact hlen
                refine ⟨_, h1, ?_⟩
                dsimp only [cC]
                rw [List.map_set]
                exact t_OB.to (V := updV (vp_V (fs.map (cv B sp))) (q % 64) (cv B sp v)) ⟨_, e1, q2, q3, t_set q4 hap h2 _⟩ (fun j _ => vp_updV_set hlen2 _ j)
              rcases h5 with hfin | ⟨hfin, hin2, hdecl⟩
              · rw [if_neg (by rw [hfin]; decide)] at hlay
                have h6 := u_store hfc hkC hkind hlay hi hpd hn hfit
                refine W.putK hx hb (f := f) ⟨hown, hts _ h4, ⟨_, _, _, hi'⟩, hst⟩ (by rw [q2]; exact h6) q1' q3 (by rw [hsl]; exact k2_hasslot (q4 _ h2)) rfl rfl hd fun H' e1 e2 e3 => ?_
                exact kk H' _ lsA (fin H' _ e1 e2 e3) hL
              · rw [if_pos hfin] at hlay
                have hcf : mid.cls = cf := by
                  obtain ⟨_, _, c', _, _, _, -, -, hf', -, -, -, hown2, -⟩ := Cond.laysFinal_spec hlay
                  have e1 : c' = cf := by have := hi.symm.trans hf'; simp at this; exact this.1.symm
                  rw [h3, hdecl] at hown2
                  rw [← e1]; exact Option.some.inj (hown.symm.trans hown2)
                have h6 := u_fits hfc hkC hkind (Or.inr hlay) hi hpd hn hfit
                refine W.putFinK hx hb hown (hts _ h4) hi' hst hcf (hnm hin2) (by rw [q2]; exact h6) q1' q3 (by rw [hsl]; exact k2_hasslot (q4 _ h2)) rfl rfl hd fun H' e1 e2 e3 => ?_
                exact kk H' _ lsA (fin H' _ e1 e2 e3) hL
            · cases h
          · cases h
        · cases h
      · cases h
    · cases h
  · cases h
theorem sx_iaload {j pc len : Nat} {raw : Instr}  {ls st ls' st' : List Value} {m m' : xM} {pc' : Nat} {lsA : Array Slot} (hsp : xSp strs lens byt B sp adK adV b L sc sp0) (hcl : xCl gt cls fty) (C0 : xAct gt mx bt yn j p s mid args meth c) (hE : xE cls acl nst strs lens byt B sp D aC adK adV b L sc s s.heap) (hB : B ≤ s.heap.size) (hd : decode (bt j) pc = .ok (raw, len)) (hk : xlk gt nst cls acl nM yn strs j pc len raw (.iaload)) (h : xs fty acl (.iaload) (pc + len) ls st m = some (pc', ls', st', m')) (hH : xH cls B sp sp0 D aC s m H locs) (hL : xLs B sp lsA (mx j) ls) (hc : cells + (m'.1 - m.1) ≤ R.cells) (hs : slots + (m'.2.1 - m.2.1) ≤ R.slots)
    (kk : ∀ (H' : Heap) (locs' : List Loc) (lsA' : Array Slot), xH cls B sp sp0 D aC s m' H' locs' → xLs B sp lsA' (mx j) ls' → W p l e R s mid args below meth c H' locs' (cells + (m'.1 - m.1)) (slots + (m'.2.1 - m.2.1)) Q (F0 mid pc' lsA' (st'.map (cv B sp)))) : W p l e R s mid args below meth c H locs cells slots Q (F0 mid pc lsA (st.map (cv B sp))) := by
  obtain ⟨hx, hb, hml, hown, hts, hnm⟩ := C0
  obtain ⟨rfl, rfl⟩ := hk
  simp only [xs, x_iald] at h
  split at h
  · rename_i i a r
    split at h
    · rename_i n f hca
      split at h
      · cases h
      · rename_i hin
        cases h
        simp only [Nat.sub_self, Nat.add_zero, List.map_cons, cv_int, cv_long, cv_null] at kk ⊢
        by_cases ha : a < xS
        · rw [cv_ref ha]
          exact va_iald hx hb hE.1 hH.1 a 0 (pw_get hH.2.2.2 ha hca) (xty_at 0 (by decide)) (x_not hin) hd (kk H locs lsA hH hL)
        · obtain ⟨ha2, h5⟩ := hsp.2.2.2.2.2.2 a _ (hH.2.2.2.spec ha hca)
          rcases h5 with ⟨i', hi, rfl, h6⟩ | ⟨i', hi, rfl, h6⟩ | ⟨rfl, h6⟩
          · cases h6
          · simp only [Sum.inl.injEq, Prod.mk.injEq] at h6
            exact absurd h6.1 (by decide)
          · simp only [Sum.inl.injEq, Prod.mk.injEq] at h6
            obtain ⟨-, rfl, rfl⟩ := h6
            rw [cv_sp, hsp.2.2.2.2.2.1]
            have hbl : b < s.heap.size := Nat.lt_of_lt_of_le hsp.2.2.1 hB
            exact va_sld hx hb hE.2.2.2.2.2.2.2 hbl (Nat.not_le.mpr hsp.2.2.1) hH.2.2.1 (x_not hin) hd (kk H locs lsA hH hL)
    · cases h
  · cases h
theorem sx_baload {j pc len : Nat} {raw : Instr}  {ls st ls' st' : List Value} {m m' : xM} {pc' : Nat} {lsA : Array Slot} (hsp : xSp strs lens byt B sp adK adV b L sc sp0) (hcl : xCl gt cls fty) (C0 : xAct gt mx bt yn j p s mid args meth c) (hE : xE cls acl nst strs lens byt B sp D aC adK adV b L sc s s.heap) (hB : B ≤ s.heap.size) (hd : decode (bt j) pc = .ok (raw, len)) (hk : xlk gt nst cls acl nM yn strs j pc len raw (.baload)) (h : xs fty acl (.baload) (pc + len) ls st m = some (pc', ls', st', m')) (hH : xH cls B sp sp0 D aC s m H locs) (hL : xLs B sp lsA (mx j) ls) (hc : cells + (m'.1 - m.1) ≤ R.cells) (hs : slots + (m'.2.1 - m.2.1) ≤ R.slots)
    (kk : ∀ (H' : Heap) (locs' : List Loc) (lsA' : Array Slot), xH cls B sp sp0 D aC s m' H' locs' → xLs B sp lsA' (mx j) ls' → W p l e R s mid args below meth c H' locs' (cells + (m'.1 - m.1)) (slots + (m'.2.1 - m.2.1)) Q (F0 mid pc' lsA' (st'.map (cv B sp)))) : W p l e R s mid args below meth c H locs cells slots Q (F0 mid pc lsA (st.map (cv B sp))) := by
  obtain ⟨hx, hb, hml, hown, hts, hnm⟩ := C0
  obtain ⟨rfl, rfl⟩ := hk
  simp only [xs, x_bald] at h
  split at h
  · rename_i i a r
    split at h
    · rename_i n f hca
      split at h
      · cases h
      · rename_i hin
        cases h
        simp only [Nat.sub_self, Nat.add_zero, List.map_cons, cv_int, cv_long, cv_null] at kk ⊢
        by_cases ha : a < xS
        · rw [cv_ref ha]
          exact va_bald hx hb hE.1 hH.1 a 1 (pw_get hH.2.2.2 ha hca) (xty_at 1 (by decide)) (x_not hin) hd (kk H locs lsA hH hL)
        · obtain ⟨ha2, h5⟩ := hsp.2.2.2.2.2.2 a _ (hH.2.2.2.spec ha hca)
          rcases h5 with ⟨i', hi, rfl, h6⟩ | ⟨i', hi, rfl, h6⟩ | ⟨rfl, h6⟩
          · cases h6
          · simp only [Sum.inl.injEq, Prod.mk.injEq] at h6
            obtain ⟨-, rfl, rfl⟩ := h6
            rw [cv_sp, (hsp.2.2.2.2.1 i' hi).2]
            exact va_tb hx hb (hE.2.2.2.1.1 i' hi).2.2.2 hH.2.2.1 (x_not hin) rfl hd (kk H locs lsA hH hL)
          · simp only [Sum.inl.injEq, Prod.mk.injEq] at h6
            exact absurd h6.1 (by decide)
    · rename_i n f hca
      split at h
      · cases h
      · rename_i hin
        cases h
        simp only [Nat.sub_self, Nat.add_zero, List.map_cons, cv_int, cv_long, cv_null] at kk ⊢
        by_cases ha : a < xS
        · rw [cv_ref ha]
          exact va_zald hx hb hE.1 hH.1 a 3 (pw_get hH.2.2.2 ha hca) (xty_at 3 (by decide)) (x_not hin) hd (kk H locs lsA hH hL)
        · obtain ⟨ha2, h5⟩ := hsp.2.2.2.2.2.2 a _ (hH.2.2.2.spec ha hca)
          rcases h5 with ⟨i', hi, rfl, h6⟩ | ⟨i', hi, rfl, h6⟩ | ⟨rfl, h6⟩
          · cases h6
          · simp only [Sum.inl.injEq, Prod.mk.injEq] at h6
            exact absurd h6.1 (by decide)
          · simp only [Sum.inl.injEq, Prod.mk.injEq] at h6
            exact absurd h6.1 (by decide)
    · cases h
  · cases h
theorem sx_laload {j pc len : Nat} {raw : Instr}  {ls st ls' st' : List Value} {m m' : xM} {pc' : Nat} {lsA : Array Slot} (hsp : xSp strs lens byt B sp adK adV b L sc sp0) (hcl : xCl gt cls fty) (C0 : xAct gt mx bt yn j p s mid args meth c) (hE : xE cls acl nst strs lens byt B sp D aC adK adV b L sc s s.heap) (hB : B ≤ s.heap.size) (hd : decode (bt j) pc = .ok (raw, len)) (hk : xlk gt nst cls acl nM yn strs j pc len raw (.laload)) (h : xs fty acl (.laload) (pc + len) ls st m = some (pc', ls', st', m')) (hH : xH cls B sp sp0 D aC s m H locs) (hL : xLs B sp lsA (mx j) ls) (hc : cells + (m'.1 - m.1) ≤ R.cells) (hs : slots + (m'.2.1 - m.2.1) ≤ R.slots)
    (kk : ∀ (H' : Heap) (locs' : List Loc) (lsA' : Array Slot), xH cls B sp sp0 D aC s m' H' locs' → xLs B sp lsA' (mx j) ls' → W p l e R s mid args below meth c H' locs' (cells + (m'.1 - m.1)) (slots + (m'.2.1 - m.2.1)) Q (F0 mid pc' lsA' (st'.map (cv B sp)))) : W p l e R s mid args below meth c H locs cells slots Q (F0 mid pc lsA (st.map (cv B sp))) := by
  obtain ⟨hx, hb, hml, hown, hts, hnm⟩ := C0
  obtain ⟨rfl, rfl⟩ := hk
  simp only [xs, x_lald] at h
  split at h
  · rename_i i a r
    split at h
    · rename_i n f hca
      split at h
      · cases h
      · rename_i hin
        cases h
        simp only [Nat.sub_self, Nat.add_zero, List.map_cons, cv_int, cv_long, cv_null] at kk ⊢
        by_cases ha : a < xS
        · rw [cv_ref ha]
          exact va_lald hx hb hE.1 hH.1 a 2 (pw_get hH.2.2.2 ha hca) (xty_at 2 (by decide)) (x_not hin) hd (kk H locs lsA hH hL)
        · obtain ⟨ha2, h5⟩ := hsp.2.2.2.2.2.2 a _ (hH.2.2.2.spec ha hca)
          rcases h5 with ⟨i', hi, rfl, h6⟩ | ⟨i', hi, rfl, h6⟩ | ⟨rfl, h6⟩
          · cases h6
          · simp only [Sum.inl.injEq, Prod.mk.injEq] at h6
            exact absurd h6.1 (by decide)
          · simp only [Sum.inl.injEq, Prod.mk.injEq] at h6
            exact absurd h6.1 (by decide)
    · cases h
  · cases h
theorem xat_ob {t : Nat} (h : 4 ≤ t) : xat cls acl t = .object ((cls[acl t]?).elim "" (fun r => r.1)) := by
  match t, h with
  | t + 4, _ => rfl
theorem sx_aaload {j pc len : Nat} {raw : Instr}  {ls st ls' st' : List Value} {m m' : xM} {pc' : Nat} {lsA : Array Slot} (hsp : xSp strs lens byt B sp adK adV b L sc sp0) (hcl : xCl gt cls fty) (C0 : xAct gt mx bt yn j p s mid args meth c) (hE : xE cls acl nst strs lens byt B sp D aC adK adV b L sc s s.heap) (hB : B ≤ s.heap.size) (hd : decode (bt j) pc = .ok (raw, len)) (hk : xlk gt nst cls acl nM yn strs j pc len raw (.aaload)) (h : xs fty acl (.aaload) (pc + len) ls st m = some (pc', ls', st', m')) (hH : xH cls B sp sp0 D aC s m H locs) (hL : xLs B sp lsA (mx j) ls) (hc : cells + (m'.1 - m.1) ≤ R.cells) (hs : slots + (m'.2.1 - m.2.1) ≤ R.slots)
    (kk : ∀ (H' : Heap) (locs' : List Loc) (lsA' : Array Slot), xH cls B sp sp0 D aC s m' H' locs' → xLs B sp lsA' (mx j) ls' → W p l e R s mid args below meth c H' locs' (cells + (m'.1 - m.1)) (slots + (m'.2.1 - m.2.1)) Q (F0 mid pc' lsA' (st'.map (cv B sp)))) : W p l e R s mid args below meth c H locs cells slots Q (F0 mid pc lsA (st.map (cv B sp))) := by
  obtain ⟨hx, hb, hml, hown, hts, hnm⟩ := C0
  obtain ⟨rfl, rfl⟩ := hk
  simp only [xs, x_aald] at h
  split at h
  · rename_i i a r
    split at h
    · rename_i t n f hca
      split at h
      · cases h
      · rename_i hin
        have ht4 : 4 ≤ t := Nat.not_lt.mp fun z => hin (Or.inl z)
        have ht7 : t < 7 := Nat.not_le.mp fun z => hin (Or.inr (Or.inl z))
        have ha : a < xS := Nat.not_le.mp fun z => hin (Or.inr (Or.inr (Or.inl z)))
        have hi0 : ¬ xout i n = true := fun z => hin (Or.inr (Or.inr (Or.inr z)))
        have hty := xty_at (cls := cls) (acl := acl) (aC := aC) t ht7
        rw [xat_ob ht4] at hty
        split at h
        · rename_i hf
          cases h
          simp only [Nat.sub_self, Nat.add_zero, List.map_cons, cv_int, cv_long, cv_null] at kk ⊢
          rw [cv_ref ha]
          refine va_aldq hx hb hE.1 hH.1 a t (f := fun j => (f j).map (B + ·)) (pw_get hH.2.2.2 ha hca) hty (x_not hi0) hd ?_
          rw [hf]
          exact kk H locs lsA hH hL
        · rename_i v hf
          split at h
          · rename_i hv
            cases h
            simp only [Nat.sub_self, Nat.add_zero, List.map_cons, cv_int, cv_long, cv_null] at kk ⊢
            rw [cv_ref ha]
            rw [cv_ref hv] at kk
            refine va_aldq hx hb hE.1 hH.1 a t (f := fun j => (f j).map (B + ·)) (pw_get hH.2.2.2 ha hca) hty (x_not hi0) hd ?_
            rw [hf]
            exact kk H locs lsA hH hL
          · cases h
    · cases h
  · cases h
theorem sx_arraylength {j pc len : Nat} {raw : Instr}  {ls st ls' st' : List Value} {m m' : xM} {pc' : Nat} {lsA : Array Slot} (hsp : xSp strs lens byt B sp adK adV b L sc sp0) (hcl : xCl gt cls fty) (C0 : xAct gt mx bt yn j p s mid args meth c) (hE : xE cls acl nst strs lens byt B sp D aC adK adV b L sc s s.heap) (hB : B ≤ s.heap.size) (hd : decode (bt j) pc = .ok (raw, len)) (hk : xlk gt nst cls acl nM yn strs j pc len raw (.arraylength)) (h : xs fty acl (.arraylength) (pc + len) ls st m = some (pc', ls', st', m')) (hH : xH cls B sp sp0 D aC s m H locs) (hL : xLs B sp lsA (mx j) ls) (hc : cells + (m'.1 - m.1) ≤ R.cells) (hs : slots + (m'.2.1 - m.2.1) ≤ R.slots)
    (kk : ∀ (H' : Heap) (locs' : List Loc) (lsA' : Array Slot), xH cls B sp sp0 D aC s m' H' locs' → xLs B sp lsA' (mx j) ls' → W p l e R s mid args below meth c H' locs' (cells + (m'.1 - m.1)) (slots + (m'.2.1 - m.2.1)) Q (F0 mid pc' lsA' (st'.map (cv B sp)))) : W p l e R s mid args below meth c H locs cells slots Q (F0 mid pc lsA (st.map (cv B sp))) := by
  obtain ⟨hx, hb, hml, hown, hts, hnm⟩ := C0
  obtain ⟨rfl, rfl⟩ := hk
  simp only [xs, x_alen] at h
  split at h
  · rename_i a r
    split at h
    · rename_i t x hca
      split at h
      · rename_i ht
        cases h
        simp only [Nat.sub_self, Nat.add_zero, List.map_cons, cv_int, cv_long, cv_null] at kk ⊢
        by_cases ha : a < xS
        · rw [cv_ref ha]
          exact va_alen hx hb hE.1 hH.1 a t (x := (x.1, cA B x.2)) (pw_get hH.2.2.2 ha hca) (xty_at t ht) rfl hd (kk H locs lsA hH hL)
        · obtain ⟨ha2, h5⟩ := hsp.2.2.2.2.2.2 a _ (hH.2.2.2.spec ha hca)
          rcases h5 with ⟨i', hi, rfl, h6⟩ | ⟨i', hi, rfl, h6⟩ | ⟨rfl, h6⟩
          · cases h6
          · simp only [Sum.inl.injEq, Prod.mk.injEq] at h6
            obtain ⟨-, rfl⟩ := h6
            rw [cv_sp, (hsp.2.2.2.2.1 i' hi).2]
            exact va_tlen hx hb (hE.2.2.2.1.1 i' hi).2.2.2 hH.2.2.1 rfl hd (kk H locs lsA hH hL)
          · simp only [Sum.inl.injEq, Prod.mk.injEq] at h6
            obtain ⟨-, rfl⟩ := h6
            rw [cv_sp, hsp.2.2.2.2.2.1]
            have hbl : b < s.heap.size := Nat.lt_of_lt_of_le hsp.2.2.1 hB
            exact va_slen hx hb hE.2.2.2.2.2.2.2 hbl (Nat.not_le.mpr hsp.2.2.1) hH.2.2.1 hd (kk H locs lsA hH hL)
      · cases h
    · cases h
  · cases h
theorem sx_iastore {j pc len : Nat} {raw : Instr}  {ls st ls' st' : List Value} {m m' : xM} {pc' : Nat} {lsA : Array Slot} (hsp : xSp strs lens byt B sp adK adV b L sc sp0) (hcl : xCl gt cls fty) (C0 : xAct gt mx bt yn j p s mid args meth c) (hE : xE cls acl nst strs lens byt B sp D aC adK adV b L sc s s.heap) (hB : B ≤ s.heap.size) (hd : decode (bt j) pc = .ok (raw, len)) (hk : xlk gt nst cls acl nM yn strs j pc len raw (.iastore)) (h : xs fty acl (.iastore) (pc + len) ls st m = some (pc', ls', st', m')) (hH : xH cls B sp sp0 D aC s m H locs) (hL : xLs B sp lsA (mx j) ls) (hc : cells + (m'.1 - m.1) ≤ R.cells) (hs : slots + (m'.2.1 - m.2.1) ≤ R.slots)
    (kk : ∀ (H' : Heap) (locs' : List Loc) (lsA' : Array Slot), xH cls B sp sp0 D aC s m' H' locs' → xLs B sp lsA' (mx j) ls' → W p l e R s mid args below meth c H' locs' (cells + (m'.1 - m.1)) (slots + (m'.2.1 - m.2.1)) Q (F0 mid pc' lsA' (st'.map (cv B sp)))) : W p l e R s mid args below meth c H locs cells slots Q (F0 mid pc lsA (st.map (cv B sp))) := by
  obtain ⟨hx, hb, hml, hown, hts, hnm⟩ := C0
  obtain ⟨rfl, rfl⟩ := hk
  simp only [xs, x_iast] at h
  split at h
  · rename_i x i a r
    split at h
    · rename_i ha
      split at h
      · rename_i n f hca
        split at h
        · cases h
        · rename_i hin
          cases h
          simp only [xset, Nat.sub_self, Nat.add_zero, List.map_cons, cv_int, cv_long, cv_null] at kk ⊢
          rw [cv_ref ha]
          have hi1 := x_not hin
          refine W.iast hx hb (hH.1 a _ (pw_get hH.2.2.2 ha hca)) ((xE.arr hE 0 (by decide)).1 n (fun j => .int (f j))) (fun q => by cases q) (by show ¬ (i < 0 ∨ (arrV _ _ _).slots.size ≤ _); rw [arrV_size]; exact hi1) rfl rfl hd fun H1 e z oq => ?_
          refine kk H1 _ lsA (hH.set ha hca z oq ?_) hL
          show H1[B + a]? = some (vp_cell (aC 0) (n, xints (upd f i.toNatClampNeg x)))
          rw [e, vp_cell_i]
          refine congrArg some ((arrV_store _ _ _ _ _).trans (congrArg (arrV (aC 0) n) ?_))
          funext q
          by_cases hq : q = i.toNatClampNeg
          · subst hq
            simp [updV, upd]
            skip
          · simp [updV, upd, hq]
      · cases h
    · cases h
  · cases h
theorem sx_bastore {j pc len : Nat} {raw : Instr}  {ls st ls' st' : List Value} {m m' : xM} {pc' : Nat} {lsA : Array Slot} (hsp : xSp strs lens byt B sp adK adV b L sc sp0) (hcl : xCl gt cls fty) (C0 : xAct gt mx bt yn j p s mid args meth c) (hE : xE cls acl nst strs lens byt B sp D aC adK adV b L sc s s.heap) (hB : B ≤ s.heap.size) (hd : decode (bt j) pc = .ok (raw, len)) (hk : xlk gt nst cls acl nM yn strs j pc len raw (.bastore)) (h : xs fty acl (.bastore) (pc + len) ls st m = some (pc', ls', st', m')) (hH : xH cls B sp sp0 D aC s m H locs) (hL : xLs B sp lsA (mx j) ls) (hc : cells + (m'.1 - m.1) ≤ R.cells) (hs : slots + (m'.2.1 - m.2.1) ≤ R.slots)
    (kk : ∀ (H' : Heap) (locs' : List Loc) (lsA' : Array Slot), xH cls B sp sp0 D aC s m' H' locs' → xLs B sp lsA' (mx j) ls' → W p l e R s mid args below meth c H' locs' (cells + (m'.1 - m.1)) (slots + (m'.2.1 - m.2.1)) Q (F0 mid pc' lsA' (st'.map (cv B sp)))) : W p l e R s mid args below meth c H locs cells slots Q (F0 mid pc lsA (st.map (cv B sp))) := by
  obtain ⟨hx, hb, hml, hown, hts, hnm⟩ := C0
  obtain ⟨rfl, rfl⟩ := hk
  simp only [xs, x_bast] at h
  split at h
  · rename_i x i a r
    split at h
    · rename_i ha
      split at h
      · rename_i n f hca
        split at h
        · cases h
        · rename_i hin
          cases h
          simp only [xset, Nat.sub_self, Nat.add_zero, List.map_cons, cv_int, cv_long, cv_null] at kk ⊢
          rw [cv_ref ha]
          have hi1 := x_not hin
          refine W.bast hx hb (hH.1 a _ (pw_get hH.2.2.2 ha hca)) ((xE.arr hE 1 (by decide)).1 n (fun j => .int (f j))) (fun q => by cases q) (by show ¬ (i < 0 ∨ (arrV _ _ _).slots.size ≤ _); rw [arrV_size]; exact hi1) rfl rfl hd fun H1 e z oq => ?_
          refine kk H1 _ lsA (hH.set ha hca z oq ?_) hL
          show H1[B + a]? = some (vp_cell (aC 1) (n, xints (upd f i.toNatClampNeg (vp_nar .byte x))))
          rw [e, vp_cell_i]
          refine congrArg some ((arrV_store _ _ _ _ _).trans (congrArg (arrV (aC 1) n) ?_))
          funext q
          by_cases hq : q = i.toNatClampNeg
          · subst hq
            simp [updV, upd, vp_nar]
            try rfl
          · simp [updV, upd, vp_nar, hq]
      · rename_i n f hca
        split at h
        · cases h
        · rename_i hin
          cases h
          simp only [xset, Nat.sub_self, Nat.add_zero, List.map_cons, cv_int, cv_long, cv_null] at kk ⊢
          rw [cv_ref ha]
          have hi1 := x_not hin
          refine W.zast hx hb (hH.1 a _ (pw_get hH.2.2.2 ha hca)) ((xE.arr hE 3 (by decide)).1 n (fun j => .int (f j))) (fun q => by cases q) (by show ¬ (i < 0 ∨ (arrV _ _ _).slots.size ≤ _); rw [arrV_size]; exact hi1) rfl rfl hd fun H1 e z oq => ?_
          refine kk H1 _ lsA (hH.set ha hca z oq ?_) hL
          show H1[B + a]? = some (vp_cell (aC 3) (n, xints (upd f i.toNatClampNeg (vp_nar .boolean x))))
          rw [e, vp_cell_i]
          refine congrArg some ((arrV_store _ _ _ _ _).trans (congrArg (arrV (aC 3) n) ?_))
          funext q
          by_cases hq : q = i.toNatClampNeg
          · subst hq
            simp [updV, upd, vp_nar]
            try rfl
          · simp [updV, upd, vp_nar, hq]
      · cases h
    · cases h
  · cases h
theorem sx_lastore {j pc len : Nat} {raw : Instr}  {ls st ls' st' : List Value} {m m' : xM} {pc' : Nat} {lsA : Array Slot} (hsp : xSp strs lens byt B sp adK adV b L sc sp0) (hcl : xCl gt cls fty) (C0 : xAct gt mx bt yn j p s mid args meth c) (hE : xE cls acl nst strs lens byt B sp D aC adK adV b L sc s s.heap) (hB : B ≤ s.heap.size) (hd : decode (bt j) pc = .ok (raw, len)) (hk : xlk gt nst cls acl nM yn strs j pc len raw (.lastore)) (h : xs fty acl (.lastore) (pc + len) ls st m = some (pc', ls', st', m')) (hH : xH cls B sp sp0 D aC s m H locs) (hL : xLs B sp lsA (mx j) ls) (hc : cells + (m'.1 - m.1) ≤ R.cells) (hs : slots + (m'.2.1 - m.2.1) ≤ R.slots)
    (kk : ∀ (H' : Heap) (locs' : List Loc) (lsA' : Array Slot), xH cls B sp sp0 D aC s m' H' locs' → xLs B sp lsA' (mx j) ls' → W p l e R s mid args below meth c H' locs' (cells + (m'.1 - m.1)) (slots + (m'.2.1 - m.2.1)) Q (F0 mid pc' lsA' (st'.map (cv B sp)))) : W p l e R s mid args below meth c H locs cells slots Q (F0 mid pc lsA (st.map (cv B sp))) := by
  obtain ⟨hx, hb, hml, hown, hts, hnm⟩ := C0
  obtain ⟨rfl, rfl⟩ := hk
  simp only [xs, x_last] at h
  split at h
  · rename_i x i a r
    split at h
    · rename_i ha
      split at h
      · rename_i n f hca
        split at h
        · cases h
        · rename_i hin
          cases h
          simp only [xset, Nat.sub_self, Nat.add_zero, List.map_cons, cv_int, cv_long, cv_null] at kk ⊢
          rw [cv_ref ha]
          have hi1 := x_not hin
          refine W.last hx hb (hH.1 a _ (pw_get hH.2.2.2 ha hca)) ((xE.arr hE 2 (by decide)).1 n (fun j => .long (f j))) (fun q => by cases q) (by show ¬ (i < 0 ∨ (arrV _ _ _).slots.size ≤ _); rw [arrV_size]; exact hi1) rfl rfl hd fun H1 e z oq => ?_
          refine kk H1 _ lsA (hH.set ha hca z oq ?_) hL
          show H1[B + a]? = some (vp_cell (aC 2) (n, xlongs (vp_updL f i.toNatClampNeg x)))
          rw [e, vp_cell_l]
          refine congrArg some ((arrV_store _ _ _ _ _).trans (congrArg (arrV (aC 2) n) ?_))
          funext q
          by_cases hq : q = i.toNatClampNeg
          · subst hq
            simp [updV, vp_updL]
            skip
          · simp [updV, vp_updL, hq]
      · cases h
    · cases h
  · cases h
theorem sx_aastore {j pc len : Nat} {raw : Instr}  {ls st ls' st' : List Value} {m m' : xM} {pc' : Nat} {lsA : Array Slot} (hsp : xSp strs lens byt B sp adK adV b L sc sp0) (hcl : xCl gt cls fty) (C0 : xAct gt mx bt yn j p s mid args meth c) (hE : xE cls acl nst strs lens byt B sp D aC adK adV b L sc s s.heap) (hB : B ≤ s.heap.size) (hd : decode (bt j) pc = .ok (raw, len)) (hk : xlk gt nst cls acl nM yn strs j pc len raw (.aastore)) (h : xs fty acl (.aastore) (pc + len) ls st m = some (pc', ls', st', m')) (hH : xH cls B sp sp0 D aC s m H locs) (hL : xLs B sp lsA (mx j) ls) (hc : cells + (m'.1 - m.1) ≤ R.cells) (hs : slots + (m'.2.1 - m.2.1) ≤ R.slots)
    (kk : ∀ (H' : Heap) (locs' : List Loc) (lsA' : Array Slot), xH cls B sp sp0 D aC s m' H' locs' → xLs B sp lsA' (mx j) ls' → W p l e R s mid args below meth c H' locs' (cells + (m'.1 - m.1)) (slots + (m'.2.1 - m.2.1)) Q (F0 mid pc' lsA' (st'.map (cv B sp)))) : W p l e R s mid args below meth c H locs cells slots Q (F0 mid pc lsA (st.map (cv B sp))) := by
  obtain ⟨hx, hb, hml, hown, hts, hnm⟩ := C0
  obtain ⟨rfl, rfl⟩ := hk
  simp only [xs, x_aast] at h
  split at h
  · rename_i v i a r
    split at h
    · rename_i ha'
      obtain ⟨ha, hv⟩ := ha'
      split at h
      · rename_i t n f hca
        split at h
        · cases h
        · rename_i hin
          have ht4 : 4 ≤ t := Nat.not_lt.mp fun z => hin (Or.inl z)
          have ht7 : t < 7 := Nat.not_le.mp fun z => hin (Or.inr (Or.inl z))
          have hi1 := x_not fun z => hin (Or.inr (Or.inr z))
          have hlt : i.toNatClampNeg < n := Nat.not_le.mp fun q => hi1 (Or.inr q)
          have h0 : ¬ i < 0 := fun q => hi1 (Or.inl q)
          split at h
          · rename_i ci vs hcv
            split at h
            · rename_i hci
              cases h
              subst hci
              simp only [xset, Nat.sub_self, Nat.add_zero, List.map_cons, cv_int, cv_long, cv_null] at kk ⊢
              rw [cv_ref ha, cv_ref hv]
              obtain ⟨r', hr', cellV, g1, g2, g3, -⟩ := hH.1 v _ (pw_get hH.2.2.2 hv hcv)
              have hcls := (hE.1.1 _ r' hr').2
              have hRA := (xE.arr hE t ht7).2
              rw [xat_ob ht4, show cls[acl t]? = some r' from hr'] at hRA
              obtain ⟨kA, comp, k1, k2, k3, -⟩ := hRA
              have hcomp : comp = D.1 (acl t) := Option.some.inj (k3.symm.trans hcls.1)
              subst hcomp
              obtain ⟨kC, hkC, -⟩ := hcls.2
              refine W.aast hx hb (hH.1 a _ (pw_get hH.2.2.2 ha hca)) (fun q h => by cases h) (fun h => by cases h) k1 k2 rfl hkC ⟨h0, by show _ < (arrV _ _ _).slots.size; rw [arrV_size]; exact hlt⟩ g1 (fun q h => by rw [g3] at h; cases h) (by rw [g2]; exact hkC) (by rw [g2]; exact va_assign hcls) rfl rfl hd fun H1 e z oq => ?_
              refine kk H1 _ lsA (hH.set ha hca z oq ?_) hL
              show H1[B + a]? = some (vp_cell (aC t) (n, xrefs (fun j => (va_up f i.toNatClampNeg (some v) j).map (B + ·))))
              rw [e, vp_cell_q]
              refine congrArg some ((arrV_store _ _ _ _ _).trans (congrArg (arrV (aC t) n) ?_))
              funext q
              by_cases hq : q = i.toNatClampNeg
              · subst hq
                simp [updV, va_up, va_rf]
              · simp [updV, va_up, hq]
            · cases h
          · cases h
      · cases h
    · cases h
  · cases h
/-- a cell is made -/
theorem xH.new {m : xM} {sl : Nat} {c1 : xC} {H1 : Heap} (hB : B ≤ s.heap.size) (hH : xH cls B sp sp0 D aC s m H locs) (hm : m.1 < xS) (z : H1.size = H.size + 1) (oq : ∀ q : Nat, q < H.size → H1[q]? = H[q]?) (hat : va_at D cls (B + m.1, cC B sp aC c1) H1) : xH cls B sp sp0 D aC s (xnew m sl c1) H1 locs := by
  obtain ⟨hP, hz, hS, hO⟩ := hH
  refine ⟨?_, by rw [z, hz]; simp only [xnew]; omega, ⟨Nat.le_trans hS.1 (by omega), fun x h1 h2 => (oq x (Nat.lt_of_lt_of_le h1 hS.1)).trans (hS.2.1 x h1 h2), hS.2.2⟩, hO.new hm⟩
  rw [pw_new]
  refine (hP.kept fun k q hk => oq q.1 ((hP k q hk).lt)).app (fun k q hk => ?_)
  match k, hk with
  | 0, hk => cases hk; exact hat
  | k + 1, hk => simp at hk
theorem sx_new {j pc len : Nat} {raw : Instr} {ci : Nat} {ls st ls' st' : List Value} {m m' : xM} {pc' : Nat} {lsA : Array Slot} (hsp : xSp strs lens byt B sp adK adV b L sc sp0) (hcl : xCl gt cls fty) (C0 : xAct gt mx bt yn j p s mid args meth c) (hE : xE cls acl nst strs lens byt B sp D aC adK adV b L sc s s.heap) (hB : B ≤ s.heap.size) (hd : decode (bt j) pc = .ok (raw, len)) (hk : xlk gt nst cls acl nM yn strs j pc len raw (.new ci)) (h : xs fty acl (.new ci) (pc + len) ls st m = some (pc', ls', st', m')) (hH : xH cls B sp sp0 D aC s m H locs) (hL : xLs B sp lsA (mx j) ls) (hc : cells + (m'.1 - m.1) ≤ R.cells) (hs : slots + (m'.2.1 - m.2.1) ≤ R.slots)
    (kk : ∀ (H' : Heap) (locs' : List Loc) (lsA' : Array Slot), xH cls B sp sp0 D aC s m' H' locs' → xLs B sp lsA' (mx j) ls' → W p l e R s mid args below meth c H' locs' (cells + (m'.1 - m.1)) (slots + (m'.2.1 - m.2.1)) Q (F0 mid pc' lsA' (st'.map (cv B sp)))) : W p l e R s mid args below meth c H locs cells slots Q (F0 mid pc lsA (st.map (cv B sp))) := by
  obtain ⟨hx, hb, hml, hown, hts, hnm⟩ := C0
  obtain ⟨q1, rfl, rfl, C, T, N, h1, h2⟩ := hk
  simp only [xs, x_new] at h
  split at h
  · rename_i hm
    cases h
    simp only [xnew, List.map_cons, Nat.add_sub_cancel_left] at kk hc hs ⊢
    rw [cv_ref hm] at kk
    obtain ⟨k1, k2, k3, k4, k5, k6⟩ := hcl.2 _ _ _ _ h1
    rw [k1] at kk hs
    have hKn := hE.1.1 ci _ h1
    have hall : ∀ k, k < N → parseFieldDescriptor (T k).2.2.1 = some ((fun k => (fty ci).getD k .int) k) := fun k hk9 => by
      rw [k3 k hk9, List.getElem?_eq_getElem (by omega)]
      simp [List.getD, List.getElem?_eq_getElem (show k < (fty ci).length by omega)]
    refine W.newcK hx hb hown (hts _ h2) (hts _ k5) (hts _ k6) rfl hd hc hs hKn.2.1 hH.2.1 fun H1 kC hkC e1 z1 o1 => ?_
    have hx0 := xH.new (c1 := .inr (ci, (fty ci).map defaultValue)) (sl := N) hB hH hm (by rw [z1, hH.2.1]) (fun q hq => o1 q (by rw [← hH.2.1]; exact hq)) ⟨_, h1, (u_born (fun k => (fty ci).getD k .int) hts k2 hKn hkC e1 hall).to (fun j hj => by
      show defaultValue ((fty ci).getD j .int) = vp_V (((fty ci).map defaultValue).map (cv B sp)) j
      have hj2 : j < (fty ci).length := by rw [k1]; exact hj
      simp only [vp_V, List.getD, List.getElem?_map, List.getElem?_eq_getElem hj2, Option.map_some, Option.getD_some]
      cases (fty ci)[j] <;> rfl)⟩
    exact kk H1 locs lsA hx0 hL
  · cases h
theorem sx_newarray {j pc len : Nat} {raw : Instr} {at_ : ArrayType} (haw : ∀ ty ∈ [FieldType.int, .byte, .long, .boolean], Cond.arrayClass ty ∈ gt) {ls st ls' st' : List Value} {m m' : xM} {pc' : Nat} {lsA : Array Slot} (hsp : xSp strs lens byt B sp adK adV b L sc sp0) (hcl : xCl gt cls fty) (C0 : xAct gt mx bt yn j p s mid args meth c) (hE : xE cls acl nst strs lens byt B sp D aC adK adV b L sc s s.heap) (hB : B ≤ s.heap.size) (hd : decode (bt j) pc = .ok (raw, len)) (hk : xlk gt nst cls acl nM yn strs j pc len raw (.newarray at_)) (h : xs fty acl (.newarray at_) (pc + len) ls st m = some (pc', ls', st', m')) (hH : xH cls B sp sp0 D aC s m H locs) (hL : xLs B sp lsA (mx j) ls) (hc : cells + (m'.1 - m.1) ≤ R.cells) (hs : slots + (m'.2.1 - m.2.1) ≤ R.slots)
    (kk : ∀ (H' : Heap) (locs' : List Loc) (lsA' : Array Slot), xH cls B sp sp0 D aC s m' H' locs' → xLs B sp lsA' (mx j) ls' → W p l e R s mid args below meth c H' locs' (cells + (m'.1 - m.1)) (slots + (m'.2.1 - m.2.1)) Q (F0 mid pc' lsA' (st'.map (cv B sp)))) : W p l e R s mid args below meth c H locs cells slots Q (F0 mid pc lsA (st.map (cv B sp))) := by
  obtain ⟨hx, hb, hml, hown, hts, hnm⟩ := C0
  obtain ⟨rfl, rfl⟩ := hk
  simp only [xs, x_newa] at h
  split at h
  · rename_i n r
    split at h
    · rename_i t f0 hak
      split at h
      · rename_i hm'
        obtain ⟨hm, hn, hle⟩ := hm'
        cases h
        simp only [xnew, List.map_cons, cv_int, Nat.add_sub_cancel_left] at kk hc hs ⊢
        rw [cv_ref hm] at kk
        have key : ∀ (ty : FieldType), newarray.typeOf at_ = ty → Cond.arrayClass ty ∈ gt → t < 7 → xat cls acl t = ty → s.vm.findClass ("[" ++ ty.toString) = some (aC t) → componentBytes ty ≤ 8 → (∀ cA' : ClassId, vp_cell cA' (n.toNatClampNeg, f0) = arrV cA' n.toNatClampNeg (fun _ => defaultValue ty)) → cA B f0 = f0 → W p l e R s mid args below meth c H locs cells slots Q (F0 mid pc lsA (.int n :: r.map (cv B sp))) := by
          intro ty hty hwd ht7 hxt hfc hcb hcell hcA
          subst hty
          refine va_newaK hx hb (hts _ hwd) rfl hd rfl hn rfl (Nat.le_trans (Nat.mul_le_mul hle hcb) (by decide)) hc hs hH.2.1 fun H1 cA' e1 z1 o1 hAr hNm => ?_
          have hcAe : cA' = aC t := Option.some.inj (hNm.symm.trans hfc)
          subst hcAe
          refine kk H1 locs lsA (xH.new (c1 := .inl (t, n.toNatClampNeg, f0)) hB hH hm (by rw [z1, hH.2.1]) (fun q hq => o1 q (by rw [← hH.2.1]; exact hq)) ?_) hL
          show H1[B + m.1]? = some (vp_cell (aC t) (n.toNatClampNeg, cA B f0))
          rw [hcA, hcell]
          exact e1
        cases at_ <;> simp only [xak, Option.some.injEq, Prod.mk.injEq, reduceCtorEq] at hak
        · obtain ⟨rfl, rfl⟩ := hak
          exact key .boolean rfl (haw _ (by simp)) (by decide) rfl (xE.arr hE 3 (by decide)).2 (by decide) (fun _ => rfl) rfl
        · obtain ⟨rfl, rfl⟩ := hak
          exact key .byte rfl (haw _ (by simp)) (by decide) rfl (xE.arr hE 1 (by decide)).2 (by decide) (fun _ => rfl) rfl
        · obtain ⟨rfl, rfl⟩ := hak
          exact key .int rfl (haw _ (by simp)) (by decide) rfl (xE.arr hE 0 (by decide)).2 (by decide) (fun _ => rfl) rfl
        · obtain ⟨rfl, rfl⟩ := hak
          exact key .long rfl (haw _ (by simp)) (by decide) rfl (xE.arr hE 2 (by decide)).2 (by decide) (fun _ => rfl) rfl
      · cases h
    · cases h
  · cases h
theorem sx_anewarray {j pc len : Nat} {raw : Instr} {t : Nat} {ls st ls' st' : List Value} {m m' : xM} {pc' : Nat} {lsA : Array Slot} (hsp : xSp strs lens byt B sp adK adV b L sc sp0) (hcl : xCl gt cls fty) (C0 : xAct gt mx bt yn j p s mid args meth c) (hE : xE cls acl nst strs lens byt B sp D aC adK adV b L sc s s.heap) (hB : B ≤ s.heap.size) (hd : decode (bt j) pc = .ok (raw, len)) (hk : xlk gt nst cls acl nM yn strs j pc len raw (.anewarray t)) (h : xs fty acl (.anewarray t) (pc + len) ls st m = some (pc', ls', st', m')) (hH : xH cls B sp sp0 D aC s m H locs) (hL : xLs B sp lsA (mx j) ls) (hc : cells + (m'.1 - m.1) ≤ R.cells) (hs : slots + (m'.2.1 - m.2.1) ≤ R.slots)
    (kk : ∀ (H' : Heap) (locs' : List Loc) (lsA' : Array Slot), xH cls B sp sp0 D aC s m' H' locs' → xLs B sp lsA' (mx j) ls' → W p l e R s mid args below meth c H' locs' (cells + (m'.1 - m.1)) (slots + (m'.2.1 - m.2.1)) Q (F0 mid pc' lsA' (st'.map (cv B sp)))) : W p l e R s mid args below meth c H locs cells slots Q (F0 mid pc lsA (st.map (cv B sp))) := by
  obtain ⟨hx, hb, hml, hown, hts, hnm⟩ := C0
  obtain ⟨q1, rfl, rfl, r0, hr0, h2⟩ := hk
  simp only [xs, x_anew] at h
  split at h
  · rename_i n r
    split at h
    · rename_i hm'
      obtain ⟨hm, ht4, ht7, hn, hle⟩ := hm'
      cases h
      simp only [xnew, List.map_cons, cv_int, Nat.add_sub_cancel_left] at kk hc hs ⊢
      rw [cv_ref hm] at kk
      have hover := hE.2.2.1 t ht4 ht7 r0 hr0
      have hRA := (xE.arr hE t ht7).2
      rw [xat_ob ht4, hr0] at hRA
      obtain ⟨kA0, comp0, k1, k2, k3, k4⟩ := hRA
      refine W.anew hx hb hown (hts _ h2) (va_AO.use hover) rfl hd rfl hn (Nat.le_trans (Nat.mul_le_mul_right 4 hle) (by decide)) hc hs fun cA' kA comp f1 f2 f3 f4 => ?_
      have hcAe : cA' = aC t := by
        first | exact Option.some.inj (f4.symm.trans k4) | exact Option.some.inj (f1.symm.trans k4) | exact Option.some.inj (f2.symm.trans k4) | exact Option.some.inj (f3.symm.trans k4)
      subst hcAe
      rw [hH.2.1]
      refine kk _ locs lsA (xH.new (c1 := .inl (t, n.toNatClampNeg, xrefs fun _ => none)) hB hH hm (by rw [Array.size_push]) (fun q hq => by rw [Array.getElem?_push, if_neg (Nat.ne_of_lt hq)]) ?_) hL
      show (H.push _)[B + m.1]? = some (vp_cell (aC t) (n.toNatClampNeg, xrefs (fun _ => none)))
      rw [← hH.2.1, Array.getElem?_push_size]
      show some _ = some (arrV (aC t) n.toNatClampNeg (fun _ => Value.null))
      rw [← arrV_new]
    · cases h
  · cases h
theorem sx_checkcast {j pc len : Nat} {raw : Instr} {q : Nat} {ls st ls' st' : List Value} {m m' : xM} {pc' : Nat} {lsA : Array Slot} (hsp : xSp strs lens byt B sp adK adV b L sc sp0) (hcl : xCl gt cls fty) (C0 : xAct gt mx bt yn j p s mid args meth c) (hE : xE cls acl nst strs lens byt B sp D aC adK adV b L sc s s.heap) (hB : B ≤ s.heap.size) (hd : decode (bt j) pc = .ok (raw, len)) (hk : xlk gt nst cls acl nM yn strs j pc len raw (.checkcast q)) (h : xs fty acl (.checkcast q) (pc + len) ls st m = some (pc', ls', st', m')) (hH : xH cls B sp sp0 D aC s m H locs) (hL : xLs B sp lsA (mx j) ls) (hc : cells + (m'.1 - m.1) ≤ R.cells) (hs : slots + (m'.2.1 - m.2.1) ≤ R.slots)
    (kk : ∀ (H' : Heap) (locs' : List Loc) (lsA' : Array Slot), xH cls B sp sp0 D aC s m' H' locs' → xLs B sp lsA' (mx j) ls' → W p l e R s mid args below meth c H' locs' (cells + (m'.1 - m.1)) (slots + (m'.2.1 - m.2.1)) Q (F0 mid pc' lsA' (st'.map (cv B sp)))) : W p l e R s mid args below meth c H locs cells slots Q (F0 mid pc lsA (st.map (cv B sp))) := by
  obtain ⟨hx, hb, hml, hown, hts, hnm⟩ := C0
  obtain ⟨q1, rfl, rfl, h2⟩ := hk
  simp only [xs, x_cast] at h
  split at h
  · rename_i a r
    split at h
    · rename_i ha
      split at h
      · rename_i x hca
        cases h
        simp only [Nat.sub_self, Nat.add_zero, List.map_cons, cv_int, cv_long, cv_null] at kk ⊢
        rw [cv_ref ha] at kk ⊢
        exact va_castA hx hb hown (hts _ h2) hH.1 a (x := (x.1, cA B x.2)) (pw_get hH.2.2.2 ha hca) (xE.arr hE 0 (by decide)).2 hd (kk H locs lsA hH hL)
      · cases h
    · cases h
  · cases h
end XO
