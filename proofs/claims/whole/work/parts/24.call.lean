/-! THE INTERPRETER IS SOUND: what it comes to, the machine comes to. -/
section XO
variable {gt nst : List Cond} {cls : List vw_C} {acl : Nat → Nat} {fty : Nat → List FieldType} {nM : Nat} {yn : Nat → MethodName} {strs : List (Nat × String × Nat × String)} {lens : List Nat} {byt : List (List Int32)}
variable {mx : Nat → Nat} {bt : Nat → ByteArray}
variable {B : Nat} {sp : Nat → Value} {sp0 : Nat → Option xC} {D : va_G} {aC : Nat → ClassId} {adK adV : Nat → Nat} {b L : Nat} {sc : Nat → Int32}
variable {p : Program} {l : Launch} {e : Env} {R : Room} {s : State} {mid : MethodId} {args : Array Value} {below : List Frame} {meth : Method} {c : Code} {H : Heap} {locs : List Loc} {cells slots : Nat} {Q : State → Prop}
variable {G : Nat → Nat → Option (Instr × Nat)} {na np rc : Nat → Nat} {rk : Nat → FieldType} {rt : Nat → Option FieldType}
theorem xE.kept {U : State} {H H1 : Heap} (h : xE cls acl nst strs lens byt B sp D aC adK adV b L sc U H) (hbH : b < H.size) (hbB : b < B) (hq : ∀ a : Nat, a < H.size → ¬ (fun q => B ≤ q) a → H1[a]? = H[a]?) : xE cls acl nst strs lens byt B sp D aC adK adV b L sc U H1 := by
  obtain ⟨h1, h2, h3, h4, h5, h6, h7, h8⟩ := h
  exact ⟨h1, h2, h3, h4.kept hq, h5, h6.kept hq, h7.kept hq, h8.kept (hq b hbH (Nat.not_le.mpr hbB))⟩
theorem xE.warm {u U : State} {H : Heap} (hw : xWd gt nst) (h : xE cls acl nst strs lens byt B sp D aC adK adV b L sc u H) (hW : u.WarmedH U.vm) : xE cls acl nst strs lens byt B sp D aC adK adV b L sc U H := by
  obtain ⟨h1, h2, h3, h4, h5, h6, h7, h8⟩ := h
  have ha := hW.alike
  refine ⟨h1.moved ha, fun w hwn => ?_, fun t a1 a2 r a3 => (h3 t a1 a2 r a3).moved ha, h4.moved ha, fun q hq => (h5 q hq).warm hW, h6.moved ha, h7.moved ha, h8.moved ha⟩
  rcases hw.2.1 w hwn with ⟨a, i, y, hh, rfl⟩ | rfl
  · exact va_Nw.warmM hW (h2 _ hwn)
  · exact va_Nw.warmC hW (h2 _ hwn)
theorem xE.same {u U : State} {H : Heap} (hw : xWd gt nst) (h : xE cls acl nst strs lens byt B sp D aC adK adV b L sc u H) (hv : u.vm = U.vm) : xE cls acl nst strs lens byt B sp D aC adK adV b L sc U H := by
  obtain ⟨h1, h2, h3, h4, h5, h6, h7, h8⟩ := h
  have ha : u.vm.Alike U.vm := hv ▸ Vm.Alike.refl u.vm
  refine ⟨h1.moved ha, fun w hwn => ?_, fun t a1 a2 r a3 => (h3 t a1 a2 r a3).moved ha, h4.moved ha, fun q hq => (h5 q hq).same hv.symm, h6.moved ha, h7.moved ha, h8.moved ha⟩
  rcases hw.2.1 w hwn with ⟨a, i, y, hh, rfl⟩ | rfl
  · exact va_Nw.same rfl hv (h2 _ hwn)
  · exact va_Nw.same rfl hv (h2 _ hwn)
/-- a call's end -/
def xQ (cls : List vw_C) (B : Nat) (sp : Nat → Value) (D : va_G) (aC : Nat → ClassId) (r : Option Value) (m' : xM) : Array Value → State → Outcome → State → Prop := fun _ st oc t => (oc = .returned (r.map (cv B sp)) ∧ va_P D cls (pw B sp aC m') t.heap ∧ t.heap.size = B + m'.1) ∧ va_F (fun q => B ≤ q) st t
/-- a call's beginning -/
def xPc (cls : List vw_C) (acl : Nat → Nat) (nst : List Cond) (strs : List (Nat × String × Nat × String)) (lens : List Nat) (byt : List (List Int32)) (B : Nat) (sp : Nat → Value) (D : va_G) (aC : Nat → ClassId) (adK adV : Nat → Nat) (b L : Nat) (sc : Nat → Int32) (as : List Value) (m : xM) : Array Value → State → Prop := va_Pc (as.map (cv B sp)) (fun U => xE cls acl nst strs lens byt B sp D aC adK adV b L sc U U.heap ∧ B ≤ U.heap.size ∧ va_P D cls (pw B sp aC m) U.heap ∧ U.heap.size = B + m.1)
theorem xPc.blind (hw : xWd gt nst) {as : List Value} {m : xM} : FrameBlind (xPc cls acl nst strs lens byt B sp D aC adK adV b L sc as m) := fun a U g mk q => by
  obtain ⟨q0, q1, q2, q3, q4⟩ := q
  exact ⟨q0, xE.same hw (u := U) (U := U.calling g mk a) q1 rfl, q2, q3, q4⟩
theorem x_call {mc ms : Nat} {pc : Nat} {ls : Array Slot} {rest st0 : List Value} {a : Array Value} {m' : xM} {r : Option Value} {free : Addr → Prop} (hr : va_Run p l e R s mid args below meth c H locs cells slots mc ms (F0 mid pc ls st0) rest (xQ cls B sp D aC r m' a) free) (hS : va_S (fun q => B ≤ q) s.heap H locs) (hf : ∀ q, free q → B ≤ q) (hO : xOk sp0 m')
    (kk : ∀ (H1 : Heap) (locs1 : List Loc), xH cls B sp sp0 D aC s m' H1 locs1 → W p l e R s mid args below meth c H1 locs1 (cells + mc) (slots + ms) Q (F0 mid (pc + 3) ls ((r.map (cv B sp)).toList ++ rest))) : W p l e R s mid args below meth c H locs cells slots Q (F0 mid pc ls st0) := by
  intro T hT X
  obtain ⟨v, st₀, t, T', L, h0, X', hL, e1, e2, ⟨⟨hv, hP, hz0⟩, hz, hk⟩, st⟩ := hr T hT X
  cases hv
  rw [h0] at hz hk
  obtain ⟨t2, a1, b1⟩ := kk T'.heap (locs ++ L) ⟨by rw [e1]; exact hP, by rw [e1]; exact hz0, ⟨Nat.le_trans hS.1 (by rw [e1]; exact hz), fun q h1 h2 => by rw [e1, hk q (Nat.lt_of_lt_of_le h1 hS.1) h2]; exact hS.2.1 q h1 h2, fun q hq => by
      rcases List.mem_append.mp hq with h | h
      · exact hS.2.2 q h
      · exact hf _ (hL q h)⟩, hO⟩ T' rfl X'
  exact ⟨t2, st t2 a1, b1⟩
/-- arraycopy of ints -/
theorem sx_copy {j pc q1 : Nat} {ls st ls' st' : List Value} {m m' : xM} {pc' : Nat} {lsA : Array Slot} (hw : xWd gt nst) (hsp : xSp strs lens byt B sp adK adV b L sc sp0) (C0 : xAct gt mx bt yn j p s mid args meth c) (hE : xE cls acl nst strs lens byt B sp D aC adK adV b L sc s s.heap) (hd : decode (bt j) pc = .ok (.invokestatic q1, 3)) (hk : Cond.methodLink (yn j).cls q1 arraycopyName ∈ gt) (h : x_copy (pc + 3) ls st m = some (pc', ls', st', m')) (hH : xH cls B sp sp0 D aC s m H locs) (hL : xLs B sp lsA (mx j) ls) (hfr : 1 ≤ R.frames) (hlo : 64 ≤ R.locals)
    (kk : ∀ (H' : Heap) (locs' : List Loc), xH cls B sp sp0 D aC s m' H' locs' → W p l e R s mid args below meth c H' locs' cells slots Q (F0 mid pc' lsA (st'.map (cv B sp)))) : W p l e R s mid args below meth c H locs cells slots Q (F0 mid pc lsA (st.map (cv B sp))) := by
  obtain ⟨hx, hb, hml, hown, hts, hnm⟩ := C0
  simp only [x_copy] at h
  split at h
  · rename_i n dp a spx a0 r
    split at h
    · rename_i hh
      obtain ⟨ha, ha0, hcat, h1, h2, h3⟩ := hh
      split at h
      · rename_i n0 f hc0
        split at h
        · rename_i n1 g hc1
          split at h
          · rename_i hle
            obtain ⟨h4, h5⟩ := hle
            cases h
            simp only [List.map_cons, cv_int, cv_ref ha, cv_ref ha0] at kk ⊢
            have w0 := pw_get (B := B) (sp := sp) (aC := aC) hH.2.2.2 ha0 hc0
            have w1 := pw_get (B := B) (sp := sp) (aC := aC) hH.2.2.2 ha hc1
            have nn : ∀ z : Int32, ¬ z < 0 → z.toInt = (z.toNatClampNeg : Int) := by
              intro z hz
              have hz0 : (0 : Int) ≤ z.toInt := by
                have := Int32.not_lt.mp hz
                simpa using Int32.le_iff_toInt_le.mp this
              show z.toInt = ((z.toInt.toNat : Nat) : Int)
              omega
            intro T hT X
            have e0 : H[B + a0]? = some (vp_cell (aC 0) (n0, .inl f)) := hH.1 a0 _ w0
            have e1 : H[B + a]? = some (vp_cell (aC 0) (n1, .inl g)) := hH.1 a _ w1
            obtain ⟨-, k0, hk0, cm0, hkk0⟩ := (xE.arr hE 0 (by decide)).1 n0 (fun j => .int (f j))
            obtain ⟨-, k1, hk1, cm1, hkk1⟩ := (xE.arr hE 0 (by decide)).1 n1 (fun j => .int (g j))
            obtain ⟨vm', X', step⟩ := X.arraycopy hx hown (hts _ hk) (hts _ hw.2.2.2.2.2.1) (hts _ hw.2.2.2.2.2.2.1) (hts _ hw.2.2.2.2.2.2.2.1) (src := B + a0) (dst := B + a) (cs := vp_cell (aC 0) (n0, .inl f)) (cd := vp_cell (aC 0) (n1, .inl g)) (srcPos := spx) (destPos := dp) (n := n) (by rw [hT]; exact e0) (by rw [hT]; exact e1)
              (fun _ h => by cases h) (fun _ h => by cases h) (fun h => by cases h) (fun h => by cases h) hk0 hk1 hkk0 hkk1 (by simp [xat, refKind]) h1 h2 h3
              (by rw [nn spx h1, nn n h3]; show ¬ _ > ((arrV (aC 0) n0 (fun j => .int (f j))).slots.size : Int); rw [arrV_size]; omega)
              (by rw [nn dp h2, nn n h3]; show ¬ _ > ((arrV (aC 0) n1 (fun j => .int (g j))).slots.size : Int); rw [arrV_size]; omega)
              (fun vm₁ _ i hi => by
                have e : (vp_cell (aC 0) (n0, .inl f)).slots.getD (spx.toNatClampNeg + i) .null = .int (f (spx.toNatClampNeg + i)) := by
                  show (arrV (aC 0) n0 (fun j => .int (f j))).slots.getD _ _ = _
                  rw [Array.getD_eq_getD_getElem?, arrV_read _ _ (by omega)]
                  rfl
                refine ⟨?_, ?_⟩
                · rw [e]
                  rfl
                · rw [e]
                  exact trivial)
              (g := F0 mid pc lsA (.int n :: .int dp :: .ref (B + a) :: .int spx :: .ref (B + a0) :: List.map (cv B sp) st')) rfl (by rw [hml]; exact hL.2.1) (rest := List.map (cv B sp) st') rfl (by rw [hb]; exact hd) hfr (by
                rw [cv_cats hsp.1]
                show 2 * 0 + _ + (7 + 11) ≤ _
                omega)
            have e2 : copied (vp_cell (aC 0) (n0, .inl f)) (vp_cell (aC 0) (n1, .inl g)) spx dp n = vp_cell (aC 0) (n1, .inl (va_cpy f g spx.toNatClampNeg dp.toNatClampNeg n.toNatClampNeg)) := va_copied (fun z => .int z) (aC 0) (aC 0) f g h4
            rw [e2] at X' step
            have hl : B + a < H.size := (Array.getElem?_eq_some_iff.mp e1).1
            have hheap : ((T.setVm vm').setCell (B + a) (vp_cell (aC 0) (n1, .inl (va_cpy f g spx.toNatClampNeg dp.toNatClampNeg n.toNatClampNeg)))).heap = H.setIfInBounds (B + a) (vp_cell (aC 0) (n1, .inl (va_cpy f g spx.toNatClampNeg dp.toNatClampNeg n.toNatClampNeg))) := by rw [← hT]; rfl
            have oq : ∀ q : Nat, q ≠ B + a → (H.setIfInBounds (B + a) (vp_cell (aC 0) (n1, .inl (va_cpy f g spx.toNatClampNeg dp.toNatClampNeg n.toNatClampNeg))))[q]? = H[q]? := fun q hq => by simp [Array.getElem?_setIfInBounds, Ne.symm hq]
            have hx1 := hH.set (k := 0) (c1 := .inl (0, n1, xints (va_cpy f g spx.toNatClampNeg dp.toNatClampNeg n.toNatClampNeg))) ha hc1 (H1 := H.setIfInBounds (B + a) (vp_cell (aC 0) (n1, .inl (va_cpy f g spx.toNatClampNeg dp.toNatClampNeg n.toNatClampNeg)))) (by simp) oq (show (H.setIfInBounds (B + a) _)[B + a]? = some _ by simp [Array.getElem?_setIfInBounds, hl]; rfl)
            obtain ⟨t, a1, b1⟩ := kk _ _ ⟨hx1.1, hx1.2.1, ⟨hx1.2.2.1.1, hx1.2.2.1.2.1, fun q hq => by
                rcases List.mem_append.mp hq with h | h
                · exact hH.2.2.1.2.2 q h
                · obtain ⟨z, -, hz⟩ := List.mem_map.mp h
                  rw [← hz]
                  show B ≤ B + a
                  omega⟩, hx1.2.2.2⟩ _ hheap X'
            exact ⟨t, step t a1, b1⟩
          · cases h
        · cases h
      · cases h
    · cases h
  · cases h
/-- the clone of an array of ints -/
theorem sx_clone {j pc q1 : Nat} {ls st ls' st' : List Value} {m m' : xM} {pc' : Nat} {lsA : Array Slot} (hw : xWd gt nst) (hsp : xSp strs lens byt B sp adK adV b L sc sp0) (C0 : xAct gt mx bt yn j p s mid args meth c) (hE : xE cls acl nst strs lens byt B sp D aC adK adV b L sc s s.heap) (hB : B ≤ s.heap.size) (hd : decode (bt j) pc = .ok (.invokevirtual q1, 3)) (hk : Cond.methodLink (yn j).cls q1 ⟨"[I", "clone", "()Ljava/lang/Object;"⟩ ∈ gt) (h : x_clone (pc + 3) ls st m = some (pc', ls', st', m')) (hH : xH cls B sp sp0 D aC s m H locs) (hL : xLs B sp lsA (mx j) ls) (hfr : 1 ≤ R.frames) (hlo : 64 ≤ R.locals) (hc : cells + (m'.1 - m.1) ≤ R.cells) (hs : slots + (m'.2.1 - m.2.1) ≤ R.slots)
    (kk : ∀ (H' : Heap) (locs' : List Loc), xH cls B sp sp0 D aC s m' H' locs' → ls' = ls → W p l e R s mid args below meth c H' locs' (cells + (m'.1 - m.1)) (slots + (m'.2.1 - m.2.1)) Q (F0 mid pc' lsA (st'.map (cv B sp)))) : W p l e R s mid args below meth c H locs cells slots Q (F0 mid pc lsA (st.map (cv B sp))) := by
  obtain ⟨hx, hb, hml, hown, hts, hnm⟩ := C0
  obtain ⟨w1, w2, w3, w4, w5⟩ := hw.2.2.2.2.2.2.2.2
  simp only [x_clone] at h
  split at h
  · rename_i a r
    split at h
    · rename_i hh
      obtain ⟨ha, hm, hcat⟩ := hh
      split at h
      · rename_i n f hca
        cases h
        simp only [xnew, List.map_cons, cv_ref ha, cv_ref hm, Nat.add_sub_cancel_left] at kk hc hs ⊢
        have w0 := pw_get (B := B) (sp := sp) (aC := aC) hH.2.2.2 ha hca
        have hnm2 : s.vm.findClass "[I" = some (aC 0) := (xE.arr hE 0 (by decide)).2
        have hfit : ∀ (i : Nat) (v : Value), (vp_cell (aC 0) (n, .inl f)).slots[i]? = some v → fits .int v = true := by
          intro i v hv
          have hi : i < n := by
            have := (Array.getElem?_eq_some_iff.mp hv).1
            rw [vp_cell_i, arrV_size] at this
            exact this
          rw [vp_cell_i, arrV_read _ _ hi] at hv
          cases hv
          rfl
        obtain ⟨c0, t0', f1, f2, f3⟩ := Cond.castable_spec (va_Nw.use (A := args) rfl (hE.2.1 _ w5))
        cases hnm2.symm.trans f1
        intro T hT X
        have hcellT : T.heap[B + a]? = some (vp_cell (aC 0) (n, .inl f)) := by rw [hT]; exact hH.1 a _ w0
        obtain ⟨-, kA, hkA, comp, hkind⟩ := State.isArrayOf_alike X.warmed.alike ((xE.arr hE 0 (by decide)).1 0 (fun _ => .null))
        obtain ⟨-, kS, hkS, compS, hkindS⟩ := (xE.arr hE 0 (by decide)).1 0 (fun _ => .null)
        obtain ⟨vm', X', st⟩ := X.cloneArray hx hown (hts _ hk) (hts _ w1) (hts _ w2) (hts _ w3) (hts _ w4) (a := B + a) (cell := vp_cell (aC 0) (n, .inl f)) hcellT (fun k h => by cases h) (fun h => by cases h) hnm2 f2 f3
          (fun i v hv => by
            have hk' : T.vm.classes[aC 0]? = some kA := hkA
            have := hfit i v hv
            simpa [State.fitsSlot, State.slotType?, vp_cell, arrV, hk', hkind, xat] using this)
          (g := F0 mid pc lsA (.ref (B + a) :: List.map (cv B sp) r)) rfl (by rw [hml]; exact hL.2.1) rfl (by rw [hb]; exact hd) hfr (by
            rw [cv_cats hsp.1]
            show 2 * 0 + _ + 14 ≤ _
            omega) hc (by rw [show (vp_cell (aC 0) (n, .inl f)).slots.size = n from arrV_size _ _ _]; exact hs) (hloader := Vm.clonesLoader_of_array hkS hkindS)
        rw [show (vp_cell (aC 0) (n, .inl f)).slots.size = n from arrV_size _ _ _] at X'
        have hx1 := xH.new (c1 := .inl (0, n, xints f)) (sl := n) (H1 := H.push (vp_cell (aC 0) (n, .inl f))) hB hH hm (by rw [Array.size_push]) (fun q hq => by rw [Array.getElem?_push, if_neg (Nat.ne_of_lt hq)]) (show (H.push _)[B + m.1]? = some _ by rw [← hH.2.1, Array.getElem?_push_size]; rfl)
        obtain ⟨t, b1, b2⟩ := kk _ _ hx1 trivial ((T.setVm vm').pushCell (vp_cell (aC 0) (n, .inl f))) (by rw [← hT]; rfl) X'
        refine ⟨t, st t ?_, b2⟩
        rw [hT, hH.2.1]
        exact b1
      · cases h
    · cases h
  · cases h
end XO
