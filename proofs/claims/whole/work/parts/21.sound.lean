/-! EACH INSTRUCTION OF THE INTERPRETER IS ONE OF THE MACHINE. -/
section XO
variable {gt nst : List Cond} {cls : List vw_C} {acl : Nat → Nat} {fty : Nat → List FieldType} {nM : Nat} {yn : Nat → MethodName} {strs : List (Nat × String × Nat × String)} {lens : List Nat} {byt : List (List Int32)}
variable {mx : Nat → Nat} {bt : Nat → ByteArray}
variable {B : Nat} {sp : Nat → Value} {sp0 : Nat → Option xC} {D : va_G} {aC : Nat → ClassId} {adK adV : Nat → Nat} {b L : Nat} {sc : Nat → Int32}
variable {p : Program} {l : Launch} {e : Env} {R : Room} {s : State} {mid : MethodId} {args : Array Value} {below : List Frame} {meth : Method} {c : Code} {H : Heap} {locs : List Loc} {cells slots : Nat} {Q : State → Prop}
theorem cv_int {x : Int32} : cv B sp (.int x) = .int x := rfl
theorem cv_long {x : Int64} : cv B sp (.long x) = .long x := rfl
theorem cv_null : cv B sp .null = .null := rfl
/-- an activation: the machine, the code, the tables -/
def xAct (gt : List Cond) (mx : Nat → Nat) (bt : Nat → ByteArray) (yn : Nat → MethodName) (j : Nat) (p : Program) (s : State) (mid : MethodId) (args : Array Value) (meth : Method) (c : Code) : Prop := p.tables.exec = Jvm.exec ∧ c.code = bt j ∧ c.maxLocals = mx j ∧ s.vm.findClass (yn j).cls = some mid.cls ∧ (∀ w ∈ gt, w.before args s = true) ∧ ((yn j).name = "<init>" → meth.name = "<init>")
/-- the heap holds the memory -/
def xH (cls : List vw_C) (B : Nat) (sp : Nat → Value) (sp0 : Nat → Option xC) (D : va_G) (aC : Nat → ClassId) (s : State) (m : xM) (H : Heap) (locs : List Loc) : Prop := va_P D cls (pw B sp aC m) H ∧ H.size = B + m.1 ∧ va_S (fun q => B ≤ q) s.heap H locs ∧ xOk sp0 m
theorem xH.A {q : Nat} (hB : B ≤ s.heap.size) (h : s.heap.size ≤ q) : (fun q => B ≤ q) q := Nat.le_trans hB h

theorem sx_iadd {j pc len : Nat} {raw : Instr}  {ls st ls' st' : List Value} {m m' : xM} {pc' : Nat} {lsA : Array Slot} (hsp : xSp strs lens byt B sp adK adV b L sc sp0) (hcl : xCl gt cls fty) (C0 : xAct gt mx bt yn j p s mid args meth c) (hE : xE cls acl nst strs lens byt B sp D aC adK adV b L sc s s.heap) (hB : B ≤ s.heap.size) (hd : decode (bt j) pc = .ok (raw, len)) (hk : xlk gt nst cls acl nM yn strs j pc len raw (.iadd)) (h : xs fty acl (.iadd) (pc + len) ls st m = some (pc', ls', st', m')) (hH : xH cls B sp sp0 D aC s m H locs) (hL : xLs B sp lsA (mx j) ls) (hc : cells + (m'.1 - m.1) ≤ R.cells) (hs : slots + (m'.2.1 - m.2.1) ≤ R.slots)
    (kk : ∀ (H' : Heap) (locs' : List Loc) (lsA' : Array Slot), xH cls B sp sp0 D aC s m' H' locs' → xLs B sp lsA' (mx j) ls' → W p l e R s mid args below meth c H' locs' (cells + (m'.1 - m.1)) (slots + (m'.2.1 - m.2.1)) Q (F0 mid pc' lsA' (st'.map (cv B sp)))) : W p l e R s mid args below meth c H locs cells slots Q (F0 mid pc lsA (st.map (cv B sp))) := by
  obtain ⟨hx, hb, hml, hown, hts, hnm⟩ := C0
  obtain ⟨rfl, rfl⟩ := hk
  simp only [xs, x_bin] at h
  split at h
  · cases h
    simp only [Nat.sub_self, Nat.add_zero, List.map_cons, cv_int, cv_long, cv_null] at kk ⊢
    exact lv_iadd hx hb hd (kk H locs lsA hH hL)
  · cases h
theorem sx_isub {j pc len : Nat} {raw : Instr}  {ls st ls' st' : List Value} {m m' : xM} {pc' : Nat} {lsA : Array Slot} (hsp : xSp strs lens byt B sp adK adV b L sc sp0) (hcl : xCl gt cls fty) (C0 : xAct gt mx bt yn j p s mid args meth c) (hE : xE cls acl nst strs lens byt B sp D aC adK adV b L sc s s.heap) (hB : B ≤ s.heap.size) (hd : decode (bt j) pc = .ok (raw, len)) (hk : xlk gt nst cls acl nM yn strs j pc len raw (.isub)) (h : xs fty acl (.isub) (pc + len) ls st m = some (pc', ls', st', m')) (hH : xH cls B sp sp0 D aC s m H locs) (hL : xLs B sp lsA (mx j) ls) (hc : cells + (m'.1 - m.1) ≤ R.cells) (hs : slots + (m'.2.1 - m.2.1) ≤ R.slots)
    (kk : ∀ (H' : Heap) (locs' : List Loc) (lsA' : Array Slot), xH cls B sp sp0 D aC s m' H' locs' → xLs B sp lsA' (mx j) ls' → W p l e R s mid args below meth c H' locs' (cells + (m'.1 - m.1)) (slots + (m'.2.1 - m.2.1)) Q (F0 mid pc' lsA' (st'.map (cv B sp)))) : W p l e R s mid args below meth c H locs cells slots Q (F0 mid pc lsA (st.map (cv B sp))) := by
  obtain ⟨hx, hb, hml, hown, hts, hnm⟩ := C0
  obtain ⟨rfl, rfl⟩ := hk
  simp only [xs, x_bin] at h
  split at h
  · cases h
    simp only [Nat.sub_self, Nat.add_zero, List.map_cons, cv_int, cv_long, cv_null] at kk ⊢
    exact lv_isub hx hb hd (kk H locs lsA hH hL)
  · cases h
theorem sx_imul {j pc len : Nat} {raw : Instr}  {ls st ls' st' : List Value} {m m' : xM} {pc' : Nat} {lsA : Array Slot} (hsp : xSp strs lens byt B sp adK adV b L sc sp0) (hcl : xCl gt cls fty) (C0 : xAct gt mx bt yn j p s mid args meth c) (hE : xE cls acl nst strs lens byt B sp D aC adK adV b L sc s s.heap) (hB : B ≤ s.heap.size) (hd : decode (bt j) pc = .ok (raw, len)) (hk : xlk gt nst cls acl nM yn strs j pc len raw (.imul)) (h : xs fty acl (.imul) (pc + len) ls st m = some (pc', ls', st', m')) (hH : xH cls B sp sp0 D aC s m H locs) (hL : xLs B sp lsA (mx j) ls) (hc : cells + (m'.1 - m.1) ≤ R.cells) (hs : slots + (m'.2.1 - m.2.1) ≤ R.slots)
    (kk : ∀ (H' : Heap) (locs' : List Loc) (lsA' : Array Slot), xH cls B sp sp0 D aC s m' H' locs' → xLs B sp lsA' (mx j) ls' → W p l e R s mid args below meth c H' locs' (cells + (m'.1 - m.1)) (slots + (m'.2.1 - m.2.1)) Q (F0 mid pc' lsA' (st'.map (cv B sp)))) : W p l e R s mid args below meth c H locs cells slots Q (F0 mid pc lsA (st.map (cv B sp))) := by
  obtain ⟨hx, hb, hml, hown, hts, hnm⟩ := C0
  obtain ⟨rfl, rfl⟩ := hk
  simp only [xs, x_bin] at h
  split at h
  · cases h
    simp only [Nat.sub_self, Nat.add_zero, List.map_cons, cv_int, cv_long, cv_null] at kk ⊢
    exact lv_imul hx hb hd (kk H locs lsA hH hL)
  · cases h
theorem sx_iand {j pc len : Nat} {raw : Instr}  {ls st ls' st' : List Value} {m m' : xM} {pc' : Nat} {lsA : Array Slot} (hsp : xSp strs lens byt B sp adK adV b L sc sp0) (hcl : xCl gt cls fty) (C0 : xAct gt mx bt yn j p s mid args meth c) (hE : xE cls acl nst strs lens byt B sp D aC adK adV b L sc s s.heap) (hB : B ≤ s.heap.size) (hd : decode (bt j) pc = .ok (raw, len)) (hk : xlk gt nst cls acl nM yn strs j pc len raw (.iand)) (h : xs fty acl (.iand) (pc + len) ls st m = some (pc', ls', st', m')) (hH : xH cls B sp sp0 D aC s m H locs) (hL : xLs B sp lsA (mx j) ls) (hc : cells + (m'.1 - m.1) ≤ R.cells) (hs : slots + (m'.2.1 - m.2.1) ≤ R.slots)
    (kk : ∀ (H' : Heap) (locs' : List Loc) (lsA' : Array Slot), xH cls B sp sp0 D aC s m' H' locs' → xLs B sp lsA' (mx j) ls' → W p l e R s mid args below meth c H' locs' (cells + (m'.1 - m.1)) (slots + (m'.2.1 - m.2.1)) Q (F0 mid pc' lsA' (st'.map (cv B sp)))) : W p l e R s mid args below meth c H locs cells slots Q (F0 mid pc lsA (st.map (cv B sp))) := by
  obtain ⟨hx, hb, hml, hown, hts, hnm⟩ := C0
  obtain ⟨rfl, rfl⟩ := hk
  simp only [xs, x_bin] at h
  split at h
  · cases h
    simp only [Nat.sub_self, Nat.add_zero, List.map_cons, cv_int, cv_long, cv_null] at kk ⊢
    exact lv_iand hx hb hd (kk H locs lsA hH hL)
  · cases h
theorem sx_ior {j pc len : Nat} {raw : Instr}  {ls st ls' st' : List Value} {m m' : xM} {pc' : Nat} {lsA : Array Slot} (hsp : xSp strs lens byt B sp adK adV b L sc sp0) (hcl : xCl gt cls fty) (C0 : xAct gt mx bt yn j p s mid args meth c) (hE : xE cls acl nst strs lens byt B sp D aC adK adV b L sc s s.heap) (hB : B ≤ s.heap.size) (hd : decode (bt j) pc = .ok (raw, len)) (hk : xlk gt nst cls acl nM yn strs j pc len raw (.ior)) (h : xs fty acl (.ior) (pc + len) ls st m = some (pc', ls', st', m')) (hH : xH cls B sp sp0 D aC s m H locs) (hL : xLs B sp lsA (mx j) ls) (hc : cells + (m'.1 - m.1) ≤ R.cells) (hs : slots + (m'.2.1 - m.2.1) ≤ R.slots)
    (kk : ∀ (H' : Heap) (locs' : List Loc) (lsA' : Array Slot), xH cls B sp sp0 D aC s m' H' locs' → xLs B sp lsA' (mx j) ls' → W p l e R s mid args below meth c H' locs' (cells + (m'.1 - m.1)) (slots + (m'.2.1 - m.2.1)) Q (F0 mid pc' lsA' (st'.map (cv B sp)))) : W p l e R s mid args below meth c H locs cells slots Q (F0 mid pc lsA (st.map (cv B sp))) := by
  obtain ⟨hx, hb, hml, hown, hts, hnm⟩ := C0
  obtain ⟨rfl, rfl⟩ := hk
  simp only [xs, x_bin] at h
  split at h
  · cases h
    simp only [Nat.sub_self, Nat.add_zero, List.map_cons, cv_int, cv_long, cv_null] at kk ⊢
    exact lv_ior hx hb hd (kk H locs lsA hH hL)
  · cases h
theorem sx_ishl {j pc len : Nat} {raw : Instr}  {ls st ls' st' : List Value} {m m' : xM} {pc' : Nat} {lsA : Array Slot} (hsp : xSp strs lens byt B sp adK adV b L sc sp0) (hcl : xCl gt cls fty) (C0 : xAct gt mx bt yn j p s mid args meth c) (hE : xE cls acl nst strs lens byt B sp D aC adK adV b L sc s s.heap) (hB : B ≤ s.heap.size) (hd : decode (bt j) pc = .ok (raw, len)) (hk : xlk gt nst cls acl nM yn strs j pc len raw (.ishl)) (h : xs fty acl (.ishl) (pc + len) ls st m = some (pc', ls', st', m')) (hH : xH cls B sp sp0 D aC s m H locs) (hL : xLs B sp lsA (mx j) ls) (hc : cells + (m'.1 - m.1) ≤ R.cells) (hs : slots + (m'.2.1 - m.2.1) ≤ R.slots)
    (kk : ∀ (H' : Heap) (locs' : List Loc) (lsA' : Array Slot), xH cls B sp sp0 D aC s m' H' locs' → xLs B sp lsA' (mx j) ls' → W p l e R s mid args below meth c H' locs' (cells + (m'.1 - m.1)) (slots + (m'.2.1 - m.2.1)) Q (F0 mid pc' lsA' (st'.map (cv B sp)))) : W p l e R s mid args below meth c H locs cells slots Q (F0 mid pc lsA (st.map (cv B sp))) := by
  obtain ⟨hx, hb, hml, hown, hts, hnm⟩ := C0
  obtain ⟨rfl, rfl⟩ := hk
  simp only [xs, x_bin] at h
  split at h
  · cases h
    simp only [Nat.sub_self, Nat.add_zero, List.map_cons, cv_int, cv_long, cv_null] at kk ⊢
    exact lv_ishl hx hb hd (kk H locs lsA hH hL)
  · cases h
theorem sx_ishr {j pc len : Nat} {raw : Instr}  {ls st ls' st' : List Value} {m m' : xM} {pc' : Nat} {lsA : Array Slot} (hsp : xSp strs lens byt B sp adK adV b L sc sp0) (hcl : xCl gt cls fty) (C0 : xAct gt mx bt yn j p s mid args meth c) (hE : xE cls acl nst strs lens byt B sp D aC adK adV b L sc s s.heap) (hB : B ≤ s.heap.size) (hd : decode (bt j) pc = .ok (raw, len)) (hk : xlk gt nst cls acl nM yn strs j pc len raw (.ishr)) (h : xs fty acl (.ishr) (pc + len) ls st m = some (pc', ls', st', m')) (hH : xH cls B sp sp0 D aC s m H locs) (hL : xLs B sp lsA (mx j) ls) (hc : cells + (m'.1 - m.1) ≤ R.cells) (hs : slots + (m'.2.1 - m.2.1) ≤ R.slots)
    (kk : ∀ (H' : Heap) (locs' : List Loc) (lsA' : Array Slot), xH cls B sp sp0 D aC s m' H' locs' → xLs B sp lsA' (mx j) ls' → W p l e R s mid args below meth c H' locs' (cells + (m'.1 - m.1)) (slots + (m'.2.1 - m.2.1)) Q (F0 mid pc' lsA' (st'.map (cv B sp)))) : W p l e R s mid args below meth c H locs cells slots Q (F0 mid pc lsA (st.map (cv B sp))) := by
  obtain ⟨hx, hb, hml, hown, hts, hnm⟩ := C0
  obtain ⟨rfl, rfl⟩ := hk
  simp only [xs, x_bin] at h
  split at h
  · cases h
    simp only [Nat.sub_self, Nat.add_zero, List.map_cons, cv_int, cv_long, cv_null] at kk ⊢
    exact lv_ishr hx hb hd (kk H locs lsA hH hL)
  · cases h
theorem sx_iushr {j pc len : Nat} {raw : Instr}  {ls st ls' st' : List Value} {m m' : xM} {pc' : Nat} {lsA : Array Slot} (hsp : xSp strs lens byt B sp adK adV b L sc sp0) (hcl : xCl gt cls fty) (C0 : xAct gt mx bt yn j p s mid args meth c) (hE : xE cls acl nst strs lens byt B sp D aC adK adV b L sc s s.heap) (hB : B ≤ s.heap.size) (hd : decode (bt j) pc = .ok (raw, len)) (hk : xlk gt nst cls acl nM yn strs j pc len raw (.iushr)) (h : xs fty acl (.iushr) (pc + len) ls st m = some (pc', ls', st', m')) (hH : xH cls B sp sp0 D aC s m H locs) (hL : xLs B sp lsA (mx j) ls) (hc : cells + (m'.1 - m.1) ≤ R.cells) (hs : slots + (m'.2.1 - m.2.1) ≤ R.slots)
    (kk : ∀ (H' : Heap) (locs' : List Loc) (lsA' : Array Slot), xH cls B sp sp0 D aC s m' H' locs' → xLs B sp lsA' (mx j) ls' → W p l e R s mid args below meth c H' locs' (cells + (m'.1 - m.1)) (slots + (m'.2.1 - m.2.1)) Q (F0 mid pc' lsA' (st'.map (cv B sp)))) : W p l e R s mid args below meth c H locs cells slots Q (F0 mid pc lsA (st.map (cv B sp))) := by
  obtain ⟨hx, hb, hml, hown, hts, hnm⟩ := C0
  obtain ⟨rfl, rfl⟩ := hk
  simp only [xs, x_bin] at h
  split at h
  · cases h
    simp only [Nat.sub_self, Nat.add_zero, List.map_cons, cv_int, cv_long, cv_null] at kk ⊢
    exact lv_iushr hx hb hd rfl (kk H locs lsA hH hL)
  · cases h
theorem sx_ladd {j pc len : Nat} {raw : Instr}  {ls st ls' st' : List Value} {m m' : xM} {pc' : Nat} {lsA : Array Slot} (hsp : xSp strs lens byt B sp adK adV b L sc sp0) (hcl : xCl gt cls fty) (C0 : xAct gt mx bt yn j p s mid args meth c) (hE : xE cls acl nst strs lens byt B sp D aC adK adV b L sc s s.heap) (hB : B ≤ s.heap.size) (hd : decode (bt j) pc = .ok (raw, len)) (hk : xlk gt nst cls acl nM yn strs j pc len raw (.ladd)) (h : xs fty acl (.ladd) (pc + len) ls st m = some (pc', ls', st', m')) (hH : xH cls B sp sp0 D aC s m H locs) (hL : xLs B sp lsA (mx j) ls) (hc : cells + (m'.1 - m.1) ≤ R.cells) (hs : slots + (m'.2.1 - m.2.1) ≤ R.slots)
    (kk : ∀ (H' : Heap) (locs' : List Loc) (lsA' : Array Slot), xH cls B sp sp0 D aC s m' H' locs' → xLs B sp lsA' (mx j) ls' → W p l e R s mid args below meth c H' locs' (cells + (m'.1 - m.1)) (slots + (m'.2.1 - m.2.1)) Q (F0 mid pc' lsA' (st'.map (cv B sp)))) : W p l e R s mid args below meth c H locs cells slots Q (F0 mid pc lsA (st.map (cv B sp))) := by
  obtain ⟨hx, hb, hml, hown, hts, hnm⟩ := C0
  obtain ⟨rfl, rfl⟩ := hk
  simp only [xs, x_binL] at h
  split at h
  · cases h
    simp only [Nat.sub_self, Nat.add_zero, List.map_cons, cv_int, cv_long, cv_null] at kk ⊢
    exact lv_ladd hx hb hd (kk H locs lsA hH hL)
  · cases h
theorem sx_lsub {j pc len : Nat} {raw : Instr}  {ls st ls' st' : List Value} {m m' : xM} {pc' : Nat} {lsA : Array Slot} (hsp : xSp strs lens byt B sp adK adV b L sc sp0) (hcl : xCl gt cls fty) (C0 : xAct gt mx bt yn j p s mid args meth c) (hE : xE cls acl nst strs lens byt B sp D aC adK adV b L sc s s.heap) (hB : B ≤ s.heap.size) (hd : decode (bt j) pc = .ok (raw, len)) (hk : xlk gt nst cls acl nM yn strs j pc len raw (.lsub)) (h : xs fty acl (.lsub) (pc + len) ls st m = some (pc', ls', st', m')) (hH : xH cls B sp sp0 D aC s m H locs) (hL : xLs B sp lsA (mx j) ls) (hc : cells + (m'.1 - m.1) ≤ R.cells) (hs : slots + (m'.2.1 - m.2.1) ≤ R.slots)
    (kk : ∀ (H' : Heap) (locs' : List Loc) (lsA' : Array Slot), xH cls B sp sp0 D aC s m' H' locs' → xLs B sp lsA' (mx j) ls' → W p l e R s mid args below meth c H' locs' (cells + (m'.1 - m.1)) (slots + (m'.2.1 - m.2.1)) Q (F0 mid pc' lsA' (st'.map (cv B sp)))) : W p l e R s mid args below meth c H locs cells slots Q (F0 mid pc lsA (st.map (cv B sp))) := by
  obtain ⟨hx, hb, hml, hown, hts, hnm⟩ := C0
  obtain ⟨rfl, rfl⟩ := hk
  simp only [xs, x_binL] at h
  split at h
  · cases h
    simp only [Nat.sub_self, Nat.add_zero, List.map_cons, cv_int, cv_long, cv_null] at kk ⊢
    exact lv_lsub hx hb hd (kk H locs lsA hH hL)
  · cases h
theorem sx_lmul {j pc len : Nat} {raw : Instr}  {ls st ls' st' : List Value} {m m' : xM} {pc' : Nat} {lsA : Array Slot} (hsp : xSp strs lens byt B sp adK adV b L sc sp0) (hcl : xCl gt cls fty) (C0 : xAct gt mx bt yn j p s mid args meth c) (hE : xE cls acl nst strs lens byt B sp D aC adK adV b L sc s s.heap) (hB : B ≤ s.heap.size) (hd : decode (bt j) pc = .ok (raw, len)) (hk : xlk gt nst cls acl nM yn strs j pc len raw (.lmul)) (h : xs fty acl (.lmul) (pc + len) ls st m = some (pc', ls', st', m')) (hH : xH cls B sp sp0 D aC s m H locs) (hL : xLs B sp lsA (mx j) ls) (hc : cells + (m'.1 - m.1) ≤ R.cells) (hs : slots + (m'.2.1 - m.2.1) ≤ R.slots)
    (kk : ∀ (H' : Heap) (locs' : List Loc) (lsA' : Array Slot), xH cls B sp sp0 D aC s m' H' locs' → xLs B sp lsA' (mx j) ls' → W p l e R s mid args below meth c H' locs' (cells + (m'.1 - m.1)) (slots + (m'.2.1 - m.2.1)) Q (F0 mid pc' lsA' (st'.map (cv B sp)))) : W p l e R s mid args below meth c H locs cells slots Q (F0 mid pc lsA (st.map (cv B sp))) := by
  obtain ⟨hx, hb, hml, hown, hts, hnm⟩ := C0
  obtain ⟨rfl, rfl⟩ := hk
  simp only [xs, x_binL] at h
  split at h
  · cases h
    simp only [Nat.sub_self, Nat.add_zero, List.map_cons, cv_int, cv_long, cv_null] at kk ⊢
    exact lv_lmul hx hb hd (kk H locs lsA hH hL)
  · cases h
theorem sx_land {j pc len : Nat} {raw : Instr}  {ls st ls' st' : List Value} {m m' : xM} {pc' : Nat} {lsA : Array Slot} (hsp : xSp strs lens byt B sp adK adV b L sc sp0) (hcl : xCl gt cls fty) (C0 : xAct gt mx bt yn j p s mid args meth c) (hE : xE cls acl nst strs lens byt B sp D aC adK adV b L sc s s.heap) (hB : B ≤ s.heap.size) (hd : decode (bt j) pc = .ok (raw, len)) (hk : xlk gt nst cls acl nM yn strs j pc len raw (.land)) (h : xs fty acl (.land) (pc + len) ls st m = some (pc', ls', st', m')) (hH : xH cls B sp sp0 D aC s m H locs) (hL : xLs B sp lsA (mx j) ls) (hc : cells + (m'.1 - m.1) ≤ R.cells) (hs : slots + (m'.2.1 - m.2.1) ≤ R.slots)
    (kk : ∀ (H' : Heap) (locs' : List Loc) (lsA' : Array Slot), xH cls B sp sp0 D aC s m' H' locs' → xLs B sp lsA' (mx j) ls' → W p l e R s mid args below meth c H' locs' (cells + (m'.1 - m.1)) (slots + (m'.2.1 - m.2.1)) Q (F0 mid pc' lsA' (st'.map (cv B sp)))) : W p l e R s mid args below meth c H locs cells slots Q (F0 mid pc lsA (st.map (cv B sp))) := by
  obtain ⟨hx, hb, hml, hown, hts, hnm⟩ := C0
  obtain ⟨rfl, rfl⟩ := hk
  simp only [xs, x_binL] at h
  split at h
  · cases h
    simp only [Nat.sub_self, Nat.add_zero, List.map_cons, cv_int, cv_long, cv_null] at kk ⊢
    exact lv_land hx hb hd (kk H locs lsA hH hL)
  · cases h
theorem sx_lor {j pc len : Nat} {raw : Instr}  {ls st ls' st' : List Value} {m m' : xM} {pc' : Nat} {lsA : Array Slot} (hsp : xSp strs lens byt B sp adK adV b L sc sp0) (hcl : xCl gt cls fty) (C0 : xAct gt mx bt yn j p s mid args meth c) (hE : xE cls acl nst strs lens byt B sp D aC adK adV b L sc s s.heap) (hB : B ≤ s.heap.size) (hd : decode (bt j) pc = .ok (raw, len)) (hk : xlk gt nst cls acl nM yn strs j pc len raw (.lor)) (h : xs fty acl (.lor) (pc + len) ls st m = some (pc', ls', st', m')) (hH : xH cls B sp sp0 D aC s m H locs) (hL : xLs B sp lsA (mx j) ls) (hc : cells + (m'.1 - m.1) ≤ R.cells) (hs : slots + (m'.2.1 - m.2.1) ≤ R.slots)
    (kk : ∀ (H' : Heap) (locs' : List Loc) (lsA' : Array Slot), xH cls B sp sp0 D aC s m' H' locs' → xLs B sp lsA' (mx j) ls' → W p l e R s mid args below meth c H' locs' (cells + (m'.1 - m.1)) (slots + (m'.2.1 - m.2.1)) Q (F0 mid pc' lsA' (st'.map (cv B sp)))) : W p l e R s mid args below meth c H locs cells slots Q (F0 mid pc lsA (st.map (cv B sp))) := by
  obtain ⟨hx, hb, hml, hown, hts, hnm⟩ := C0
  obtain ⟨rfl, rfl⟩ := hk
  simp only [xs, x_binL] at h
  split at h
  · cases h
    simp only [Nat.sub_self, Nat.add_zero, List.map_cons, cv_int, cv_long, cv_null] at kk ⊢
    exact lv_lor hx hb hd (kk H locs lsA hH hL)
  · cases h
theorem sx_lshl {j pc len : Nat} {raw : Instr}  {ls st ls' st' : List Value} {m m' : xM} {pc' : Nat} {lsA : Array Slot} (hsp : xSp strs lens byt B sp adK adV b L sc sp0) (hcl : xCl gt cls fty) (C0 : xAct gt mx bt yn j p s mid args meth c) (hE : xE cls acl nst strs lens byt B sp D aC adK adV b L sc s s.heap) (hB : B ≤ s.heap.size) (hd : decode (bt j) pc = .ok (raw, len)) (hk : xlk gt nst cls acl nM yn strs j pc len raw (.lshl)) (h : xs fty acl (.lshl) (pc + len) ls st m = some (pc', ls', st', m')) (hH : xH cls B sp sp0 D aC s m H locs) (hL : xLs B sp lsA (mx j) ls) (hc : cells + (m'.1 - m.1) ≤ R.cells) (hs : slots + (m'.2.1 - m.2.1) ≤ R.slots)
    (kk : ∀ (H' : Heap) (locs' : List Loc) (lsA' : Array Slot), xH cls B sp sp0 D aC s m' H' locs' → xLs B sp lsA' (mx j) ls' → W p l e R s mid args below meth c H' locs' (cells + (m'.1 - m.1)) (slots + (m'.2.1 - m.2.1)) Q (F0 mid pc' lsA' (st'.map (cv B sp)))) : W p l e R s mid args below meth c H locs cells slots Q (F0 mid pc lsA (st.map (cv B sp))) := by
  obtain ⟨hx, hb, hml, hown, hts, hnm⟩ := C0
  obtain ⟨rfl, rfl⟩ := hk
  simp only [xs] at h
  split at h
  · cases h
    simp only [Nat.sub_self, Nat.add_zero, List.map_cons, cv_int, cv_long, cv_null] at kk ⊢
    exact lv_lshl hx hb hd rfl (kk H locs lsA hH hL)
  · cases h
theorem sx_lcmp {j pc len : Nat} {raw : Instr}  {ls st ls' st' : List Value} {m m' : xM} {pc' : Nat} {lsA : Array Slot} (hsp : xSp strs lens byt B sp adK adV b L sc sp0) (hcl : xCl gt cls fty) (C0 : xAct gt mx bt yn j p s mid args meth c) (hE : xE cls acl nst strs lens byt B sp D aC adK adV b L sc s s.heap) (hB : B ≤ s.heap.size) (hd : decode (bt j) pc = .ok (raw, len)) (hk : xlk gt nst cls acl nM yn strs j pc len raw (.lcmp)) (h : xs fty acl (.lcmp) (pc + len) ls st m = some (pc', ls', st', m')) (hH : xH cls B sp sp0 D aC s m H locs) (hL : xLs B sp lsA (mx j) ls) (hc : cells + (m'.1 - m.1) ≤ R.cells) (hs : slots + (m'.2.1 - m.2.1) ≤ R.slots)
    (kk : ∀ (H' : Heap) (locs' : List Loc) (lsA' : Array Slot), xH cls B sp sp0 D aC s m' H' locs' → xLs B sp lsA' (mx j) ls' → W p l e R s mid args below meth c H' locs' (cells + (m'.1 - m.1)) (slots + (m'.2.1 - m.2.1)) Q (F0 mid pc' lsA' (st'.map (cv B sp)))) : W p l e R s mid args below meth c H locs cells slots Q (F0 mid pc lsA (st.map (cv B sp))) := by
  obtain ⟨hx, hb, hml, hown, hts, hnm⟩ := C0
  obtain ⟨rfl, rfl⟩ := hk
  simp only [xs] at h
  split at h
  · cases h
    simp only [Nat.sub_self, Nat.add_zero, List.map_cons, cv_int, cv_long, cv_null] at kk ⊢
    exact W.lcmp hx hb hd (kk H locs lsA hH hL)
  · cases h
theorem sx_i2l {j pc len : Nat} {raw : Instr}  {ls st ls' st' : List Value} {m m' : xM} {pc' : Nat} {lsA : Array Slot} (hsp : xSp strs lens byt B sp adK adV b L sc sp0) (hcl : xCl gt cls fty) (C0 : xAct gt mx bt yn j p s mid args meth c) (hE : xE cls acl nst strs lens byt B sp D aC adK adV b L sc s s.heap) (hB : B ≤ s.heap.size) (hd : decode (bt j) pc = .ok (raw, len)) (hk : xlk gt nst cls acl nM yn strs j pc len raw (.i2l)) (h : xs fty acl (.i2l) (pc + len) ls st m = some (pc', ls', st', m')) (hH : xH cls B sp sp0 D aC s m H locs) (hL : xLs B sp lsA (mx j) ls) (hc : cells + (m'.1 - m.1) ≤ R.cells) (hs : slots + (m'.2.1 - m.2.1) ≤ R.slots)
    (kk : ∀ (H' : Heap) (locs' : List Loc) (lsA' : Array Slot), xH cls B sp sp0 D aC s m' H' locs' → xLs B sp lsA' (mx j) ls' → W p l e R s mid args below meth c H' locs' (cells + (m'.1 - m.1)) (slots + (m'.2.1 - m.2.1)) Q (F0 mid pc' lsA' (st'.map (cv B sp)))) : W p l e R s mid args below meth c H locs cells slots Q (F0 mid pc lsA (st.map (cv B sp))) := by
  obtain ⟨hx, hb, hml, hown, hts, hnm⟩ := C0
  obtain ⟨rfl, rfl⟩ := hk
  simp only [xs] at h
  split at h
  · cases h
    simp only [Nat.sub_self, Nat.add_zero, List.map_cons, cv_int, cv_long, cv_null] at kk ⊢
    exact lv_i2l hx hb hd rfl (kk H locs lsA hH hL)
  · cases h
theorem sx_l2i {j pc len : Nat} {raw : Instr}  {ls st ls' st' : List Value} {m m' : xM} {pc' : Nat} {lsA : Array Slot} (hsp : xSp strs lens byt B sp adK adV b L sc sp0) (hcl : xCl gt cls fty) (C0 : xAct gt mx bt yn j p s mid args meth c) (hE : xE cls acl nst strs lens byt B sp D aC adK adV b L sc s s.heap) (hB : B ≤ s.heap.size) (hd : decode (bt j) pc = .ok (raw, len)) (hk : xlk gt nst cls acl nM yn strs j pc len raw (.l2i)) (h : xs fty acl (.l2i) (pc + len) ls st m = some (pc', ls', st', m')) (hH : xH cls B sp sp0 D aC s m H locs) (hL : xLs B sp lsA (mx j) ls) (hc : cells + (m'.1 - m.1) ≤ R.cells) (hs : slots + (m'.2.1 - m.2.1) ≤ R.slots)
    (kk : ∀ (H' : Heap) (locs' : List Loc) (lsA' : Array Slot), xH cls B sp sp0 D aC s m' H' locs' → xLs B sp lsA' (mx j) ls' → W p l e R s mid args below meth c H' locs' (cells + (m'.1 - m.1)) (slots + (m'.2.1 - m.2.1)) Q (F0 mid pc' lsA' (st'.map (cv B sp)))) : W p l e R s mid args below meth c H locs cells slots Q (F0 mid pc lsA (st.map (cv B sp))) := by
  obtain ⟨hx, hb, hml, hown, hts, hnm⟩ := C0
  obtain ⟨rfl, rfl⟩ := hk
  simp only [xs] at h
  split at h
  · cases h
    simp only [Nat.sub_self, Nat.add_zero, List.map_cons, cv_int, cv_long, cv_null] at kk ⊢
    exact lv_l2i hx hb hd rfl (kk H locs lsA hH hL)
  · cases h
theorem sx_i2b {j pc len : Nat} {raw : Instr}  {ls st ls' st' : List Value} {m m' : xM} {pc' : Nat} {lsA : Array Slot} (hsp : xSp strs lens byt B sp adK adV b L sc sp0) (hcl : xCl gt cls fty) (C0 : xAct gt mx bt yn j p s mid args meth c) (hE : xE cls acl nst strs lens byt B sp D aC adK adV b L sc s s.heap) (hB : B ≤ s.heap.size) (hd : decode (bt j) pc = .ok (raw, len)) (hk : xlk gt nst cls acl nM yn strs j pc len raw (.i2b)) (h : xs fty acl (.i2b) (pc + len) ls st m = some (pc', ls', st', m')) (hH : xH cls B sp sp0 D aC s m H locs) (hL : xLs B sp lsA (mx j) ls) (hc : cells + (m'.1 - m.1) ≤ R.cells) (hs : slots + (m'.2.1 - m.2.1) ≤ R.slots)
    (kk : ∀ (H' : Heap) (locs' : List Loc) (lsA' : Array Slot), xH cls B sp sp0 D aC s m' H' locs' → xLs B sp lsA' (mx j) ls' → W p l e R s mid args below meth c H' locs' (cells + (m'.1 - m.1)) (slots + (m'.2.1 - m.2.1)) Q (F0 mid pc' lsA' (st'.map (cv B sp)))) : W p l e R s mid args below meth c H locs cells slots Q (F0 mid pc lsA (st.map (cv B sp))) := by
  obtain ⟨hx, hb, hml, hown, hts, hnm⟩ := C0
  obtain ⟨rfl, rfl⟩ := hk
  simp only [xs] at h
  split at h
  · cases h
    simp only [Nat.sub_self, Nat.add_zero, List.map_cons, cv_int, cv_long, cv_null] at kk ⊢
    exact lv_i2b hx hb hd rfl (kk H locs lsA hH hL)
  · cases h
theorem sx_i2c {j pc len : Nat} {raw : Instr}  {ls st ls' st' : List Value} {m m' : xM} {pc' : Nat} {lsA : Array Slot} (hsp : xSp strs lens byt B sp adK adV b L sc sp0) (hcl : xCl gt cls fty) (C0 : xAct gt mx bt yn j p s mid args meth c) (hE : xE cls acl nst strs lens byt B sp D aC adK adV b L sc s s.heap) (hB : B ≤ s.heap.size) (hd : decode (bt j) pc = .ok (raw, len)) (hk : xlk gt nst cls acl nM yn strs j pc len raw (.i2c)) (h : xs fty acl (.i2c) (pc + len) ls st m = some (pc', ls', st', m')) (hH : xH cls B sp sp0 D aC s m H locs) (hL : xLs B sp lsA (mx j) ls) (hc : cells + (m'.1 - m.1) ≤ R.cells) (hs : slots + (m'.2.1 - m.2.1) ≤ R.slots)
    (kk : ∀ (H' : Heap) (locs' : List Loc) (lsA' : Array Slot), xH cls B sp sp0 D aC s m' H' locs' → xLs B sp lsA' (mx j) ls' → W p l e R s mid args below meth c H' locs' (cells + (m'.1 - m.1)) (slots + (m'.2.1 - m.2.1)) Q (F0 mid pc' lsA' (st'.map (cv B sp)))) : W p l e R s mid args below meth c H locs cells slots Q (F0 mid pc lsA (st.map (cv B sp))) := by
  obtain ⟨hx, hb, hml, hown, hts, hnm⟩ := C0
  obtain ⟨rfl, rfl⟩ := hk
  simp only [xs] at h
  split at h
  · cases h
    simp only [Nat.sub_self, Nat.add_zero, List.map_cons, cv_int, cv_long, cv_null] at kk ⊢
    exact lv_i2c hx hb hd rfl (kk H locs lsA hH hL)
  · cases h
theorem sx_idiv {j pc len : Nat} {raw : Instr}  {ls st ls' st' : List Value} {m m' : xM} {pc' : Nat} {lsA : Array Slot} (hsp : xSp strs lens byt B sp adK adV b L sc sp0) (hcl : xCl gt cls fty) (C0 : xAct gt mx bt yn j p s mid args meth c) (hE : xE cls acl nst strs lens byt B sp D aC adK adV b L sc s s.heap) (hB : B ≤ s.heap.size) (hd : decode (bt j) pc = .ok (raw, len)) (hk : xlk gt nst cls acl nM yn strs j pc len raw (.idiv)) (h : xs fty acl (.idiv) (pc + len) ls st m = some (pc', ls', st', m')) (hH : xH cls B sp sp0 D aC s m H locs) (hL : xLs B sp lsA (mx j) ls) (hc : cells + (m'.1 - m.1) ≤ R.cells) (hs : slots + (m'.2.1 - m.2.1) ≤ R.slots)
    (kk : ∀ (H' : Heap) (locs' : List Loc) (lsA' : Array Slot), xH cls B sp sp0 D aC s m' H' locs' → xLs B sp lsA' (mx j) ls' → W p l e R s mid args below meth c H' locs' (cells + (m'.1 - m.1)) (slots + (m'.2.1 - m.2.1)) Q (F0 mid pc' lsA' (st'.map (cv B sp)))) : W p l e R s mid args below meth c H locs cells slots Q (F0 mid pc lsA (st.map (cv B sp))) := by
  obtain ⟨hx, hb, hml, hown, hts, hnm⟩ := C0
  obtain ⟨rfl, rfl⟩ := hk
  simp only [xs] at h
  split at h
  · split at h
    · cases h
    · rename_i hne
      cases h
      simp only [Nat.sub_self, Nat.add_zero, List.map_cons, cv_int, cv_long, cv_null] at kk ⊢
      exact lv_idiv hx hb hd hne (kk H locs lsA hH hL)
  · cases h
theorem sx_irem {j pc len : Nat} {raw : Instr}  {ls st ls' st' : List Value} {m m' : xM} {pc' : Nat} {lsA : Array Slot} (hsp : xSp strs lens byt B sp adK adV b L sc sp0) (hcl : xCl gt cls fty) (C0 : xAct gt mx bt yn j p s mid args meth c) (hE : xE cls acl nst strs lens byt B sp D aC adK adV b L sc s s.heap) (hB : B ≤ s.heap.size) (hd : decode (bt j) pc = .ok (raw, len)) (hk : xlk gt nst cls acl nM yn strs j pc len raw (.irem)) (h : xs fty acl (.irem) (pc + len) ls st m = some (pc', ls', st', m')) (hH : xH cls B sp sp0 D aC s m H locs) (hL : xLs B sp lsA (mx j) ls) (hc : cells + (m'.1 - m.1) ≤ R.cells) (hs : slots + (m'.2.1 - m.2.1) ≤ R.slots)
    (kk : ∀ (H' : Heap) (locs' : List Loc) (lsA' : Array Slot), xH cls B sp sp0 D aC s m' H' locs' → xLs B sp lsA' (mx j) ls' → W p l e R s mid args below meth c H' locs' (cells + (m'.1 - m.1)) (slots + (m'.2.1 - m.2.1)) Q (F0 mid pc' lsA' (st'.map (cv B sp)))) : W p l e R s mid args below meth c H locs cells slots Q (F0 mid pc lsA (st.map (cv B sp))) := by
  obtain ⟨hx, hb, hml, hown, hts, hnm⟩ := C0
  obtain ⟨rfl, rfl⟩ := hk
  simp only [xs] at h
  split at h
  · split at h
    · cases h
    · rename_i hne
      cases h
      simp only [Nat.sub_self, Nat.add_zero, List.map_cons, cv_int, cv_long, cv_null] at kk ⊢
      exact lv_irem hx hb hd hne (kk H locs lsA hH hL)
  · cases h
theorem sx_ldiv {j pc len : Nat} {raw : Instr}  {ls st ls' st' : List Value} {m m' : xM} {pc' : Nat} {lsA : Array Slot} (hsp : xSp strs lens byt B sp adK adV b L sc sp0) (hcl : xCl gt cls fty) (C0 : xAct gt mx bt yn j p s mid args meth c) (hE : xE cls acl nst strs lens byt B sp D aC adK adV b L sc s s.heap) (hB : B ≤ s.heap.size) (hd : decode (bt j) pc = .ok (raw, len)) (hk : xlk gt nst cls acl nM yn strs j pc len raw (.ldiv)) (h : xs fty acl (.ldiv) (pc + len) ls st m = some (pc', ls', st', m')) (hH : xH cls B sp sp0 D aC s m H locs) (hL : xLs B sp lsA (mx j) ls) (hc : cells + (m'.1 - m.1) ≤ R.cells) (hs : slots + (m'.2.1 - m.2.1) ≤ R.slots)
    (kk : ∀ (H' : Heap) (locs' : List Loc) (lsA' : Array Slot), xH cls B sp sp0 D aC s m' H' locs' → xLs B sp lsA' (mx j) ls' → W p l e R s mid args below meth c H' locs' (cells + (m'.1 - m.1)) (slots + (m'.2.1 - m.2.1)) Q (F0 mid pc' lsA' (st'.map (cv B sp)))) : W p l e R s mid args below meth c H locs cells slots Q (F0 mid pc lsA (st.map (cv B sp))) := by
  obtain ⟨hx, hb, hml, hown, hts, hnm⟩ := C0
  obtain ⟨rfl, rfl⟩ := hk
  simp only [xs] at h
  split at h
  · split at h
    · cases h
    · rename_i hne
      cases h
      simp only [Nat.sub_self, Nat.add_zero, List.map_cons, cv_int, cv_long, cv_null] at kk ⊢
      exact lv_ldiv hx hb hd hne (kk H locs lsA hH hL)
  · cases h
theorem sx_lrem {j pc len : Nat} {raw : Instr}  {ls st ls' st' : List Value} {m m' : xM} {pc' : Nat} {lsA : Array Slot} (hsp : xSp strs lens byt B sp adK adV b L sc sp0) (hcl : xCl gt cls fty) (C0 : xAct gt mx bt yn j p s mid args meth c) (hE : xE cls acl nst strs lens byt B sp D aC adK adV b L sc s s.heap) (hB : B ≤ s.heap.size) (hd : decode (bt j) pc = .ok (raw, len)) (hk : xlk gt nst cls acl nM yn strs j pc len raw (.lrem)) (h : xs fty acl (.lrem) (pc + len) ls st m = some (pc', ls', st', m')) (hH : xH cls B sp sp0 D aC s m H locs) (hL : xLs B sp lsA (mx j) ls) (hc : cells + (m'.1 - m.1) ≤ R.cells) (hs : slots + (m'.2.1 - m.2.1) ≤ R.slots)
    (kk : ∀ (H' : Heap) (locs' : List Loc) (lsA' : Array Slot), xH cls B sp sp0 D aC s m' H' locs' → xLs B sp lsA' (mx j) ls' → W p l e R s mid args below meth c H' locs' (cells + (m'.1 - m.1)) (slots + (m'.2.1 - m.2.1)) Q (F0 mid pc' lsA' (st'.map (cv B sp)))) : W p l e R s mid args below meth c H locs cells slots Q (F0 mid pc lsA (st.map (cv B sp))) := by
  obtain ⟨hx, hb, hml, hown, hts, hnm⟩ := C0
  obtain ⟨rfl, rfl⟩ := hk
  simp only [xs] at h
  split at h
  · split at h
    · cases h
    · rename_i hne
      cases h
      simp only [Nat.sub_self, Nat.add_zero, List.map_cons, cv_int, cv_long, cv_null] at kk ⊢
      exact lv_lrem hx hb hd hne (kk H locs lsA hH hL)
  · cases h
theorem sx_dup {j pc len : Nat} {raw : Instr}  {ls st ls' st' : List Value} {m m' : xM} {pc' : Nat} {lsA : Array Slot} (hsp : xSp strs lens byt B sp adK adV b L sc sp0) (hcl : xCl gt cls fty) (C0 : xAct gt mx bt yn j p s mid args meth c) (hE : xE cls acl nst strs lens byt B sp D aC adK adV b L sc s s.heap) (hB : B ≤ s.heap.size) (hd : decode (bt j) pc = .ok (raw, len)) (hk : xlk gt nst cls acl nM yn strs j pc len raw (.dup)) (h : xs fty acl (.dup) (pc + len) ls st m = some (pc', ls', st', m')) (hH : xH cls B sp sp0 D aC s m H locs) (hL : xLs B sp lsA (mx j) ls) (hc : cells + (m'.1 - m.1) ≤ R.cells) (hs : slots + (m'.2.1 - m.2.1) ≤ R.slots)
    (kk : ∀ (H' : Heap) (locs' : List Loc) (lsA' : Array Slot), xH cls B sp sp0 D aC s m' H' locs' → xLs B sp lsA' (mx j) ls' → W p l e R s mid args below meth c H' locs' (cells + (m'.1 - m.1)) (slots + (m'.2.1 - m.2.1)) Q (F0 mid pc' lsA' (st'.map (cv B sp)))) : W p l e R s mid args below meth c H locs cells slots Q (F0 mid pc lsA (st.map (cv B sp))) := by
  obtain ⟨hx, hb, hml, hown, hts, hnm⟩ := C0
  obtain ⟨rfl, rfl⟩ := hk
  simp only [xs] at h
  split at h
  · split at h
    · rename_i hne
      cases h
      simp only [Nat.sub_self, Nat.add_zero, List.map_cons, cv_int, cv_long, cv_null] at kk ⊢
      exact lv_dup hx hb hd (by rw [cv_cat hsp.1]; exact hne) (kk H locs lsA hH hL)
    · cases h
  · cases h
theorem sx_pop {j pc len : Nat} {raw : Instr}  {ls st ls' st' : List Value} {m m' : xM} {pc' : Nat} {lsA : Array Slot} (hsp : xSp strs lens byt B sp adK adV b L sc sp0) (hcl : xCl gt cls fty) (C0 : xAct gt mx bt yn j p s mid args meth c) (hE : xE cls acl nst strs lens byt B sp D aC adK adV b L sc s s.heap) (hB : B ≤ s.heap.size) (hd : decode (bt j) pc = .ok (raw, len)) (hk : xlk gt nst cls acl nM yn strs j pc len raw (.pop)) (h : xs fty acl (.pop) (pc + len) ls st m = some (pc', ls', st', m')) (hH : xH cls B sp sp0 D aC s m H locs) (hL : xLs B sp lsA (mx j) ls) (hc : cells + (m'.1 - m.1) ≤ R.cells) (hs : slots + (m'.2.1 - m.2.1) ≤ R.slots)
    (kk : ∀ (H' : Heap) (locs' : List Loc) (lsA' : Array Slot), xH cls B sp sp0 D aC s m' H' locs' → xLs B sp lsA' (mx j) ls' → W p l e R s mid args below meth c H' locs' (cells + (m'.1 - m.1)) (slots + (m'.2.1 - m.2.1)) Q (F0 mid pc' lsA' (st'.map (cv B sp)))) : W p l e R s mid args below meth c H locs cells slots Q (F0 mid pc lsA (st.map (cv B sp))) := by
  obtain ⟨hx, hb, hml, hown, hts, hnm⟩ := C0
  obtain ⟨rfl, rfl⟩ := hk
  simp only [xs] at h
  split at h
  · split at h
    · rename_i hne
      cases h
      simp only [Nat.sub_self, Nat.add_zero, List.map_cons, cv_int, cv_long, cv_null] at kk ⊢
      exact lv_pop hx hb hd (by rw [cv_cat hsp.1]; exact hne) (kk H locs lsA hH hL)
    · cases h
  · cases h
theorem sx_dup2 {j pc len : Nat} {raw : Instr}  {ls st ls' st' : List Value} {m m' : xM} {pc' : Nat} {lsA : Array Slot} (hsp : xSp strs lens byt B sp adK adV b L sc sp0) (hcl : xCl gt cls fty) (C0 : xAct gt mx bt yn j p s mid args meth c) (hE : xE cls acl nst strs lens byt B sp D aC adK adV b L sc s s.heap) (hB : B ≤ s.heap.size) (hd : decode (bt j) pc = .ok (raw, len)) (hk : xlk gt nst cls acl nM yn strs j pc len raw (.dup2)) (h : xs fty acl (.dup2) (pc + len) ls st m = some (pc', ls', st', m')) (hH : xH cls B sp sp0 D aC s m H locs) (hL : xLs B sp lsA (mx j) ls) (hc : cells + (m'.1 - m.1) ≤ R.cells) (hs : slots + (m'.2.1 - m.2.1) ≤ R.slots)
    (kk : ∀ (H' : Heap) (locs' : List Loc) (lsA' : Array Slot), xH cls B sp sp0 D aC s m' H' locs' → xLs B sp lsA' (mx j) ls' → W p l e R s mid args below meth c H' locs' (cells + (m'.1 - m.1)) (slots + (m'.2.1 - m.2.1)) Q (F0 mid pc' lsA' (st'.map (cv B sp)))) : W p l e R s mid args below meth c H locs cells slots Q (F0 mid pc lsA (st.map (cv B sp))) := by
  obtain ⟨hx, hb, hml, hown, hts, hnm⟩ := C0
  obtain ⟨rfl, rfl⟩ := hk
  simp only [xs] at h
  split at h
  · split at h
    · rename_i hne
      cases h
      simp only [Nat.sub_self, Nat.add_zero, List.map_cons, cv_int, cv_long, cv_null] at kk ⊢
      exact lv_dup2_11 hx hb hd (by rw [cv_cat hsp.1]; exact hne.1) (by rw [cv_cat hsp.1]; exact hne.2) (kk H locs lsA hH hL)
    · cases h
  · cases h
theorem sx_aconst_null {j pc len : Nat} {raw : Instr}  {ls st ls' st' : List Value} {m m' : xM} {pc' : Nat} {lsA : Array Slot} (hsp : xSp strs lens byt B sp adK adV b L sc sp0) (hcl : xCl gt cls fty) (C0 : xAct gt mx bt yn j p s mid args meth c) (hE : xE cls acl nst strs lens byt B sp D aC adK adV b L sc s s.heap) (hB : B ≤ s.heap.size) (hd : decode (bt j) pc = .ok (raw, len)) (hk : xlk gt nst cls acl nM yn strs j pc len raw (.aconst_null)) (h : xs fty acl (.aconst_null) (pc + len) ls st m = some (pc', ls', st', m')) (hH : xH cls B sp sp0 D aC s m H locs) (hL : xLs B sp lsA (mx j) ls) (hc : cells + (m'.1 - m.1) ≤ R.cells) (hs : slots + (m'.2.1 - m.2.1) ≤ R.slots)
    (kk : ∀ (H' : Heap) (locs' : List Loc) (lsA' : Array Slot), xH cls B sp sp0 D aC s m' H' locs' → xLs B sp lsA' (mx j) ls' → W p l e R s mid args below meth c H' locs' (cells + (m'.1 - m.1)) (slots + (m'.2.1 - m.2.1)) Q (F0 mid pc' lsA' (st'.map (cv B sp)))) : W p l e R s mid args below meth c H locs cells slots Q (F0 mid pc lsA (st.map (cv B sp))) := by
  obtain ⟨hx, hb, hml, hown, hts, hnm⟩ := C0
  obtain ⟨rfl, rfl⟩ := hk
  simp only [xs] at h
  cases h
  simp only [Nat.sub_self, Nat.add_zero, List.map_cons, cv_int, cv_long, cv_null] at kk ⊢
  exact lv_null hx hb hd (kk H locs lsA hH hL)
theorem sx_iconst {j pc len : Nat} {raw : Instr} {v : Int} {ls st ls' st' : List Value} {m m' : xM} {pc' : Nat} {lsA : Array Slot} (hsp : xSp strs lens byt B sp adK adV b L sc sp0) (hcl : xCl gt cls fty) (C0 : xAct gt mx bt yn j p s mid args meth c) (hE : xE cls acl nst strs lens byt B sp D aC adK adV b L sc s s.heap) (hB : B ≤ s.heap.size) (hd : decode (bt j) pc = .ok (raw, len)) (hk : xlk gt nst cls acl nM yn strs j pc len raw (.iconst v)) (h : xs fty acl (.iconst v) (pc + len) ls st m = some (pc', ls', st', m')) (hH : xH cls B sp sp0 D aC s m H locs) (hL : xLs B sp lsA (mx j) ls) (hc : cells + (m'.1 - m.1) ≤ R.cells) (hs : slots + (m'.2.1 - m.2.1) ≤ R.slots)
    (kk : ∀ (H' : Heap) (locs' : List Loc) (lsA' : Array Slot), xH cls B sp sp0 D aC s m' H' locs' → xLs B sp lsA' (mx j) ls' → W p l e R s mid args below meth c H' locs' (cells + (m'.1 - m.1)) (slots + (m'.2.1 - m.2.1)) Q (F0 mid pc' lsA' (st'.map (cv B sp)))) : W p l e R s mid args below meth c H locs cells slots Q (F0 mid pc lsA (st.map (cv B sp))) := by
  obtain ⟨hx, hb, hml, hown, hts, hnm⟩ := C0
  simp only [xs] at h
  cases h
  simp only [Nat.sub_self, Nat.add_zero, List.map_cons, cv_int, cv_long, cv_null] at kk ⊢
  rcases hk with ⟨n, rfl, rfl, hv⟩ | ⟨n, rfl, rfl, hv⟩ | ⟨n, rfl, rfl, hv⟩ | ⟨q, rfl, rfl, hv⟩ | ⟨q, rfl, rfl, hv⟩
  · exact lv_iconst hx hb hd hv (kk H locs lsA hH hL)
  · exact lv_bipush hx hb hd hv (kk H locs lsA hH hL)
  · exact lv_sipush hx hb hd hv (kk H locs lsA hH hL)
  · exact lv_ldc hx hb hown (hts _ hv) hd (kk H locs lsA hH hL)
  · exact lv_ldcw hx hb hown (hts _ hv) hd (kk H locs lsA hH hL)
theorem sx_ldc2_w {j pc len : Nat} {raw : Instr} {z : Nat} {ls st ls' st' : List Value} {m m' : xM} {pc' : Nat} {lsA : Array Slot} (hsp : xSp strs lens byt B sp adK adV b L sc sp0) (hcl : xCl gt cls fty) (C0 : xAct gt mx bt yn j p s mid args meth c) (hE : xE cls acl nst strs lens byt B sp D aC adK adV b L sc s s.heap) (hB : B ≤ s.heap.size) (hd : decode (bt j) pc = .ok (raw, len)) (hk : xlk gt nst cls acl nM yn strs j pc len raw (.ldc2_w z)) (h : xs fty acl (.ldc2_w z) (pc + len) ls st m = some (pc', ls', st', m')) (hH : xH cls B sp sp0 D aC s m H locs) (hL : xLs B sp lsA (mx j) ls) (hc : cells + (m'.1 - m.1) ≤ R.cells) (hs : slots + (m'.2.1 - m.2.1) ≤ R.slots)
    (kk : ∀ (H' : Heap) (locs' : List Loc) (lsA' : Array Slot), xH cls B sp sp0 D aC s m' H' locs' → xLs B sp lsA' (mx j) ls' → W p l e R s mid args below meth c H' locs' (cells + (m'.1 - m.1)) (slots + (m'.2.1 - m.2.1)) Q (F0 mid pc' lsA' (st'.map (cv B sp)))) : W p l e R s mid args below meth c H locs cells slots Q (F0 mid pc lsA (st.map (cv B sp))) := by
  obtain ⟨hx, hb, hml, hown, hts, hnm⟩ := C0
  simp only [xs] at h
  cases h
  simp only [Nat.sub_self, Nat.add_zero, List.map_cons, cv_int, cv_long, cv_null] at kk ⊢
  rcases hk with ⟨n, rfl, rfl, rfl⟩ | ⟨q, rfl, rfl, hv⟩
  · exact lv_lconst hx hb hd rfl (kk H locs lsA hH hL)
  · exact lv_ldc2 hx hb hown (hts _ hv) hd (kk H locs lsA hH hL)
theorem sx_iload {j pc len : Nat} {raw : Instr} {k : Nat} {ls st ls' st' : List Value} {m m' : xM} {pc' : Nat} {lsA : Array Slot} (hsp : xSp strs lens byt B sp adK adV b L sc sp0) (hcl : xCl gt cls fty) (C0 : xAct gt mx bt yn j p s mid args meth c) (hE : xE cls acl nst strs lens byt B sp D aC adK adV b L sc s s.heap) (hB : B ≤ s.heap.size) (hd : decode (bt j) pc = .ok (raw, len)) (hk : xlk gt nst cls acl nM yn strs j pc len raw (.iload k)) (h : xs fty acl (.iload k) (pc + len) ls st m = some (pc', ls', st', m')) (hH : xH cls B sp sp0 D aC s m H locs) (hL : xLs B sp lsA (mx j) ls) (hc : cells + (m'.1 - m.1) ≤ R.cells) (hs : slots + (m'.2.1 - m.2.1) ≤ R.slots)
    (kk : ∀ (H' : Heap) (locs' : List Loc) (lsA' : Array Slot), xH cls B sp sp0 D aC s m' H' locs' → xLs B sp lsA' (mx j) ls' → W p l e R s mid args below meth c H' locs' (cells + (m'.1 - m.1)) (slots + (m'.2.1 - m.2.1)) Q (F0 mid pc' lsA' (st'.map (cv B sp)))) : W p l e R s mid args below meth c H locs cells slots Q (F0 mid pc lsA (st.map (cv B sp))) := by
  obtain ⟨hx, hb, hml, hown, hts, hnm⟩ := C0
  simp only [xs] at h
  split at h
  · rename_i x hx1
    cases h
    simp only [Nat.sub_self, Nat.add_zero, List.map_cons, cv_int, cv_long, cv_null] at kk ⊢
    have h1 := hL.at hx1 (by simp)
    rcases hk with ⟨rfl, rfl⟩ | ⟨f, rfl, rfl, hf⟩
    · exact lv_iload hx hb hd h1 (kk H locs lsA hH hL)
    · exact lv_iload_n hx hb hd hf h1 (kk H locs lsA hH hL)
  · cases h
theorem sx_lload {j pc len : Nat} {raw : Instr} {k : Nat} {ls st ls' st' : List Value} {m m' : xM} {pc' : Nat} {lsA : Array Slot} (hsp : xSp strs lens byt B sp adK adV b L sc sp0) (hcl : xCl gt cls fty) (C0 : xAct gt mx bt yn j p s mid args meth c) (hE : xE cls acl nst strs lens byt B sp D aC adK adV b L sc s s.heap) (hB : B ≤ s.heap.size) (hd : decode (bt j) pc = .ok (raw, len)) (hk : xlk gt nst cls acl nM yn strs j pc len raw (.lload k)) (h : xs fty acl (.lload k) (pc + len) ls st m = some (pc', ls', st', m')) (hH : xH cls B sp sp0 D aC s m H locs) (hL : xLs B sp lsA (mx j) ls) (hc : cells + (m'.1 - m.1) ≤ R.cells) (hs : slots + (m'.2.1 - m.2.1) ≤ R.slots)
    (kk : ∀ (H' : Heap) (locs' : List Loc) (lsA' : Array Slot), xH cls B sp sp0 D aC s m' H' locs' → xLs B sp lsA' (mx j) ls' → W p l e R s mid args below meth c H' locs' (cells + (m'.1 - m.1)) (slots + (m'.2.1 - m.2.1)) Q (F0 mid pc' lsA' (st'.map (cv B sp)))) : W p l e R s mid args below meth c H locs cells slots Q (F0 mid pc lsA (st.map (cv B sp))) := by
  obtain ⟨hx, hb, hml, hown, hts, hnm⟩ := C0
  simp only [xs] at h
  split at h
  · rename_i x hx1
    cases h
    simp only [Nat.sub_self, Nat.add_zero, List.map_cons, cv_int, cv_long, cv_null] at kk ⊢
    have h1 := hL.at hx1 (by simp)
    rcases hk with ⟨rfl, rfl⟩ | ⟨f, rfl, rfl, hf⟩
    · exact lv_lload hx hb hd h1 (kk H locs lsA hH hL)
    · exact lv_lload_n hx hb hd hf h1 (kk H locs lsA hH hL)
  · cases h
theorem x_any {v : Value} (hv : v.category = 1) (hv2 : (∃ a, v = .ref a) ∨ v = .null) {lsA : Array Slot} {k : Nat} {cc : ByteArray} {pc : Nat} {rest : List Value} (hx : p.tables.exec = Jvm.exec) (hb : c.code = cc) (hd : decode cc pc = .ok (.aload k, 2)) (h1 : lsA[k]? = some (.val v)) (kk : W p l e R s mid args below meth c H locs cells slots Q (F0 mid (pc + 2) lsA (v :: rest))) : W p l e R s mid args below meth c H locs cells slots Q (F0 mid pc lsA rest) := by
  rcases hv2 with ⟨a, rfl⟩ | rfl
  · exact lv_aload hx hb hd h1 kk
  · exact lv_aloadN hx hb hd h1 kk
theorem x_anyn {v : Value} (hv2 : (∃ a, v = .ref a) ∨ v = .null) {lsA : Array Slot} {f : Fin 4} {k : Nat} {cc : ByteArray} {pc : Nat} {rest : List Value} (hx : p.tables.exec = Jvm.exec) (hb : c.code = cc) (hd : decode cc pc = .ok (.aload_n f, 1)) (hf : (f : Nat) = k) (h1 : lsA[k]? = some (.val v)) (kk : W p l e R s mid args below meth c H locs cells slots Q (F0 mid (pc + 1) lsA (v :: rest))) : W p l e R s mid args below meth c H locs cells slots Q (F0 mid pc lsA rest) := by
  rcases hv2 with ⟨a, rfl⟩ | rfl
  · exact lv_aload_n hx hb hd hf h1 kk
  · exact lv_aload_nN hx hb hd hf h1 kk

theorem cv_rn (hsp : ∀ i, (∃ a, sp i = .ref a) ∨ sp i = .null) (k : Nat) : (∃ a, cv B sp (.ref k) = .ref a) ∨ cv B sp (.ref k) = .null := by
  by_cases h : k < xS
  · exact Or.inl ⟨_, cv_ref h⟩
  · rw [show cv B sp (.ref k) = sp (k - xS) from if_neg h]
    exact hsp _
theorem cv_sp {k : Nat} : cv B sp (.ref (xS + k)) = sp k := by
  rw [show cv B sp (.ref (xS + k)) = sp (xS + k - xS) from if_neg (Nat.not_lt.mpr (Nat.le_add_right _ _)), Nat.add_sub_cancel_left]
theorem cv_nf (hsp : ∀ i, (∃ a, sp i = .ref a) ∨ sp i = .null) {ty : FieldType} {v : Value} (h : narrow ty v = v ∧ fits ty v = true) : narrow ty (cv B sp v) = cv B sp v ∧ fits ty (cv B sp v) = true := by
  cases v <;> try exact h
  case ref k =>
    have h2 := h.2
    rcases cv_rn (B := B) hsp k with ⟨a, e⟩ | e <;> rw [e] <;> (cases ty <;> first | (simp [fits] at h2; done) | exact ⟨rfl, rfl⟩)
theorem xty_at (t : Nat) (h : t < 7) : (xty cls acl aC)[t]? = some (aC t, xat cls acl t) := by simp [xty, h]
/-- a cell of the memory is written -/
theorem xH.set {m : xM} {a k : Nat} {c0 c1 : xC} {H1 : Heap} (hH : xH cls B sp sp0 D aC s m H locs) (ha : a < xS) (hc0 : m.2.2 a = some c0) (z : H1.size = H.size) (oq : ∀ q : Nat, q ≠ B + a → H1[q]? = H[q]?) (hat : va_at D cls (B + a, cC B sp aC c1) H1) : xH cls B sp sp0 D aC s (xset m a c1) H1 (locs ++ [⟨B + a, k⟩]) := by
  obtain ⟨hP, hz, hS, hO⟩ := hH
  have hD : va_D (fun q => B ≤ q) (pw B sp aC m) := pw_D (fun _ h => h)
  refine ⟨?_, by rw [z, hz]; rfl, hS.put z oq (by show B ≤ B + a; omega), hO.set ha hc0⟩
  rw [← pw_set hO ha hc0]
  exact hP.set hD (pw_get hO ha hc0) hat oq
theorem x_not {i : Int32} {n : Nat} (h : ¬ xout i n = true) : vp_in i n := by
  intro q
  exact h (by simpa [xout] using q)
theorem xOk.spec {m : xM} (hO : xOk sp0 m) {a : Nat} {c0 : xC} (ha : ¬ a < xS) (hc : m.2.2 a = some c0) : sp0 a = some c0 := by
  rw [← hO.2.2 a (by omega)]
  exact hc

theorem sx_aload {j pc len : Nat} {raw : Instr} {k : Nat} {ls st ls' st' : List Value} {m m' : xM} {pc' : Nat} {lsA : Array Slot} (hsp : xSp strs lens byt B sp adK adV b L sc sp0) (hcl : xCl gt cls fty) (C0 : xAct gt mx bt yn j p s mid args meth c) (hE : xE cls acl nst strs lens byt B sp D aC adK adV b L sc s s.heap) (hB : B ≤ s.heap.size) (hd : decode (bt j) pc = .ok (raw, len)) (hk : xlk gt nst cls acl nM yn strs j pc len raw (.aload k)) (h : xs fty acl (.aload k) (pc + len) ls st m = some (pc', ls', st', m')) (hH : xH cls B sp sp0 D aC s m H locs) (hL : xLs B sp lsA (mx j) ls) (hc : cells + (m'.1 - m.1) ≤ R.cells) (hs : slots + (m'.2.1 - m.2.1) ≤ R.slots)
    (kk : ∀ (H' : Heap) (locs' : List Loc) (lsA' : Array Slot), xH cls B sp sp0 D aC s m' H' locs' → xLs B sp lsA' (mx j) ls' → W p l e R s mid args below meth c H' locs' (cells + (m'.1 - m.1)) (slots + (m'.2.1 - m.2.1)) Q (F0 mid pc' lsA' (st'.map (cv B sp)))) : W p l e R s mid args below meth c H locs cells slots Q (F0 mid pc lsA (st.map (cv B sp))) := by
  obtain ⟨hx, hb, hml, hown, hts, hnm⟩ := C0
  simp only [xs] at h
  split at h
  · rename_i x hx1
    cases h
    simp only [Nat.sub_self, Nat.add_zero, List.map_cons, cv_int, cv_long, cv_null] at kk ⊢
    have h1 := hL.at hx1 (by simp)
    have h2 := cv_rn (B := B) hsp.2.1 x
    rcases hk with ⟨rfl, rfl⟩ | ⟨f, rfl, rfl, hf⟩
    · rcases h2 with ⟨a, e2⟩ | e2 <;> rw [e2] at h1 kk
      · exact lv_aload hx hb hd h1 (kk H locs lsA hH hL)
      · exact lv_aloadN hx hb hd h1 (kk H locs lsA hH hL)
    · rcases h2 with ⟨a, e2⟩ | e2 <;> rw [e2] at h1 kk
      · exact lv_aload_n hx hb hd hf h1 (kk H locs lsA hH hL)
      · exact lv_aload_nN hx hb hd hf h1 (kk H locs lsA hH hL)
  · rename_i hx1
    cases h
    simp only [Nat.sub_self, Nat.add_zero, List.map_cons, cv_int, cv_long, cv_null] at kk ⊢
    have h1 := hL.at hx1 (by simp)
    rcases hk with ⟨rfl, rfl⟩ | ⟨f, rfl, rfl, hf⟩
    · exact lv_aloadN hx hb hd h1 (kk H locs lsA hH hL)
    · exact lv_aload_nN hx hb hd hf h1 (kk H locs lsA hH hL)
  · cases h
theorem sx_istore {j pc len : Nat} {raw : Instr} {k : Nat} {ls st ls' st' : List Value} {m m' : xM} {pc' : Nat} {lsA : Array Slot} (hsp : xSp strs lens byt B sp adK adV b L sc sp0) (hcl : xCl gt cls fty) (C0 : xAct gt mx bt yn j p s mid args meth c) (hE : xE cls acl nst strs lens byt B sp D aC adK adV b L sc s s.heap) (hB : B ≤ s.heap.size) (hd : decode (bt j) pc = .ok (raw, len)) (hk : xlk gt nst cls acl nM yn strs j pc len raw (.istore k)) (h : xs fty acl (.istore k) (pc + len) ls st m = some (pc', ls', st', m')) (hH : xH cls B sp sp0 D aC s m H locs) (hL : xLs B sp lsA (mx j) ls) (hc : cells + (m'.1 - m.1) ≤ R.cells) (hs : slots + (m'.2.1 - m.2.1) ≤ R.slots)
    (kk : ∀ (H' : Heap) (locs' : List Loc) (lsA' : Array Slot), xH cls B sp sp0 D aC s m' H' locs' → xLs B sp lsA' (mx j) ls' → W p l e R s mid args below meth c H' locs' (cells + (m'.1 - m.1)) (slots + (m'.2.1 - m.2.1)) Q (F0 mid pc' lsA' (st'.map (cv B sp)))) : W p l e R s mid args below meth c H locs cells slots Q (F0 mid pc lsA (st.map (cv B sp))) := by
  obtain ⟨hx, hb, hml, hown, hts, hnm⟩ := C0
  simp only [xs] at h
  split at h
  · split at h
    · rename_i x r hlt
      cases h
      simp only [Nat.sub_self, Nat.add_zero, List.map_cons, cv_int, cv_long, cv_null] at kk ⊢
      rw [hL.1] at hlt
      rcases hk with ⟨rfl, rfl⟩ | ⟨f, rfl, rfl, hf⟩
      · exact lv_istore hx hb hd hL.2 hlt rfl (fun ls' hl' => kk H locs ls' hH (xLs.st1 hsp.1 hL.1 rfl hl'))
      · exact lv_istore_n hx hb hd hf hL.2 hlt rfl (fun ls' hl' => kk H locs ls' hH (xLs.st1 hsp.1 hL.1 rfl hl'))
    · cases h
  · cases h
theorem sx_lstore {j pc len : Nat} {raw : Instr} {k : Nat} {ls st ls' st' : List Value} {m m' : xM} {pc' : Nat} {lsA : Array Slot} (hsp : xSp strs lens byt B sp adK adV b L sc sp0) (hcl : xCl gt cls fty) (C0 : xAct gt mx bt yn j p s mid args meth c) (hE : xE cls acl nst strs lens byt B sp D aC adK adV b L sc s s.heap) (hB : B ≤ s.heap.size) (hd : decode (bt j) pc = .ok (raw, len)) (hk : xlk gt nst cls acl nM yn strs j pc len raw (.lstore k)) (h : xs fty acl (.lstore k) (pc + len) ls st m = some (pc', ls', st', m')) (hH : xH cls B sp sp0 D aC s m H locs) (hL : xLs B sp lsA (mx j) ls) (hc : cells + (m'.1 - m.1) ≤ R.cells) (hs : slots + (m'.2.1 - m.2.1) ≤ R.slots)
    (kk : ∀ (H' : Heap) (locs' : List Loc) (lsA' : Array Slot), xH cls B sp sp0 D aC s m' H' locs' → xLs B sp lsA' (mx j) ls' → W p l e R s mid args below meth c H' locs' (cells + (m'.1 - m.1)) (slots + (m'.2.1 - m.2.1)) Q (F0 mid pc' lsA' (st'.map (cv B sp)))) : W p l e R s mid args below meth c H locs cells slots Q (F0 mid pc lsA (st.map (cv B sp))) := by
  obtain ⟨hx, hb, hml, hown, hts, hnm⟩ := C0
  simp only [xs] at h
  split at h
  · split at h
    · rename_i x r hlt
      cases h
      simp only [Nat.sub_self, Nat.add_zero, List.map_cons, cv_int, cv_long, cv_null] at kk ⊢
      rw [hL.1] at hlt
      rcases hk with ⟨rfl, rfl⟩ | ⟨f, rfl, rfl, hf⟩
      · exact lv_lstore hx hb hd hL.2 hlt rfl (fun ls' hl' => kk H locs ls' hH (xLs.st2 hsp.1 hL.1 hl'))
      · exact lv_lstore_n hx hb hd hf hL.2 hlt rfl (fun ls' hl' => kk H locs ls' hH (xLs.st2 hsp.1 hL.1 hl'))
    · cases h
  · cases h
theorem sx_astore {j pc len : Nat} {raw : Instr} {k : Nat} {ls st ls' st' : List Value} {m m' : xM} {pc' : Nat} {lsA : Array Slot} (hsp : xSp strs lens byt B sp adK adV b L sc sp0) (hcl : xCl gt cls fty) (C0 : xAct gt mx bt yn j p s mid args meth c) (hE : xE cls acl nst strs lens byt B sp D aC adK adV b L sc s s.heap) (hB : B ≤ s.heap.size) (hd : decode (bt j) pc = .ok (raw, len)) (hk : xlk gt nst cls acl nM yn strs j pc len raw (.astore k)) (h : xs fty acl (.astore k) (pc + len) ls st m = some (pc', ls', st', m')) (hH : xH cls B sp sp0 D aC s m H locs) (hL : xLs B sp lsA (mx j) ls) (hc : cells + (m'.1 - m.1) ≤ R.cells) (hs : slots + (m'.2.1 - m.2.1) ≤ R.slots)
    (kk : ∀ (H' : Heap) (locs' : List Loc) (lsA' : Array Slot), xH cls B sp sp0 D aC s m' H' locs' → xLs B sp lsA' (mx j) ls' → W p l e R s mid args below meth c H' locs' (cells + (m'.1 - m.1)) (slots + (m'.2.1 - m.2.1)) Q (F0 mid pc' lsA' (st'.map (cv B sp)))) : W p l e R s mid args below meth c H locs cells slots Q (F0 mid pc lsA (st.map (cv B sp))) := by
  obtain ⟨hx, hb, hml, hown, hts, hnm⟩ := C0
  simp only [xs] at h
  split at h
  · split at h
    · rename_i x r hlt
      cases h
      simp only [Nat.sub_self, Nat.add_zero, List.map_cons, cv_int, cv_long, cv_null] at kk ⊢
      rw [hL.1] at hlt
      have h2 := cv_rn (B := B) hsp.2.1 x
      have h3 : ∀ ls' : Array Slot, lv_has ls' (mx j) ((k, cv B sp (.ref x)) :: (xla B sp ls).filter (fun q => !(q.1 == k) && !(q.1 + 1 == k && q.2.category == 2))) → xLs B sp ls' (mx j) (xst ls k (.ref x)) := fun ls' hl' => xLs.st1 hsp.1 hL.1 rfl hl'
      rcases hk with ⟨rfl, rfl⟩ | ⟨f, rfl, rfl, hf⟩
      · rcases h2 with ⟨a, e2⟩ | e2 <;> rw [e2] at h3 ⊢
        · exact lv_astore hx hb hd hL.2 hlt rfl (fun ls' hl' => kk H locs ls' hH (h3 ls' hl'))
        · exact lv_astoreN hx hb hd hL.2 hlt rfl (fun ls' hl' => kk H locs ls' hH (h3 ls' hl'))
      · rcases h2 with ⟨a, e2⟩ | e2 <;> rw [e2] at h3 ⊢
        · exact lv_astore_n hx hb hd hf hL.2 hlt rfl (fun ls' hl' => kk H locs ls' hH (h3 ls' hl'))
        · exact lv_astore_nN hx hb hd hf hL.2 hlt rfl (fun ls' hl' => kk H locs ls' hH (h3 ls' hl'))
    · cases h
  · split at h
    · rename_i r hlt
      cases h
      simp only [Nat.sub_self, Nat.add_zero, List.map_cons, cv_int, cv_long, cv_null] at kk ⊢
      rw [hL.1] at hlt
      rcases hk with ⟨rfl, rfl⟩ | ⟨f, rfl, rfl, hf⟩
      · exact lv_astoreN hx hb hd hL.2 hlt rfl (fun ls' hl' => kk H locs ls' hH (xLs.st1 hsp.1 hL.1 rfl hl'))
      · exact lv_astore_nN hx hb hd hf hL.2 hlt rfl (fun ls' hl' => kk H locs ls' hH (xLs.st1 hsp.1 hL.1 rfl hl'))
    · cases h
  · cases h
theorem sx_iinc {j pc len : Nat} {raw : Instr} {k : Nat} {n : Int} {ls st ls' st' : List Value} {m m' : xM} {pc' : Nat} {lsA : Array Slot} (hsp : xSp strs lens byt B sp adK adV b L sc sp0) (hcl : xCl gt cls fty) (C0 : xAct gt mx bt yn j p s mid args meth c) (hE : xE cls acl nst strs lens byt B sp D aC adK adV b L sc s s.heap) (hB : B ≤ s.heap.size) (hd : decode (bt j) pc = .ok (raw, len)) (hk : xlk gt nst cls acl nM yn strs j pc len raw (.iinc k n)) (h : xs fty acl (.iinc k n) (pc + len) ls st m = some (pc', ls', st', m')) (hH : xH cls B sp sp0 D aC s m H locs) (hL : xLs B sp lsA (mx j) ls) (hc : cells + (m'.1 - m.1) ≤ R.cells) (hs : slots + (m'.2.1 - m.2.1) ≤ R.slots)
    (kk : ∀ (H' : Heap) (locs' : List Loc) (lsA' : Array Slot), xH cls B sp sp0 D aC s m' H' locs' → xLs B sp lsA' (mx j) ls' → W p l e R s mid args below meth c H' locs' (cells + (m'.1 - m.1)) (slots + (m'.2.1 - m.2.1)) Q (F0 mid pc' lsA' (st'.map (cv B sp)))) : W p l e R s mid args below meth c H locs cells slots Q (F0 mid pc lsA (st.map (cv B sp))) := by
  obtain ⟨hx, hb, hml, hown, hts, hnm⟩ := C0
  obtain ⟨rfl, rfl⟩ := hk
  simp only [xs] at h
  split at h
  · rename_i x hx1
    cases h
    simp only [Nat.sub_self, Nat.add_zero, List.map_cons, cv_int, cv_long, cv_null] at kk ⊢
    have hlt : k < mx j := by rw [← hL.1]; exact (List.getElem?_eq_some_iff.mp hx1).1
    obtain ⟨q, hq⟩ := List.getElem?_of_mem (xla_mem.mpr ⟨.int x, hx1, by simp, rfl⟩ : (k, cv B sp (.int x)) ∈ xla B sp ls)
    exact lv_iinc hx hb hd hL.2 hq rfl hlt rfl (fun ls' hl' => kk H locs ls' hH (xLs.st1 hsp.1 hL.1 rfl hl'))
  · cases h
theorem x_tgt {pc : Nat} {off t : Int} (h : (pc : Int) + off = t) (h0 : 0 ≤ t) : (pc : Int) + off = ((t.toNat : Nat) : Int) := by omega
theorem sx_goto {j pc len : Nat} {raw : Instr} {t : Int} {ls st ls' st' : List Value} {m m' : xM} {pc' : Nat} {lsA : Array Slot} (hsp : xSp strs lens byt B sp adK adV b L sc sp0) (hcl : xCl gt cls fty) (C0 : xAct gt mx bt yn j p s mid args meth c) (hE : xE cls acl nst strs lens byt B sp D aC adK adV b L sc s s.heap) (hB : B ≤ s.heap.size) (hd : decode (bt j) pc = .ok (raw, len)) (hk : xlk gt nst cls acl nM yn strs j pc len raw (.goto t)) (h : xs fty acl (.goto t) (pc + len) ls st m = some (pc', ls', st', m')) (hH : xH cls B sp sp0 D aC s m H locs) (hL : xLs B sp lsA (mx j) ls) (hc : cells + (m'.1 - m.1) ≤ R.cells) (hs : slots + (m'.2.1 - m.2.1) ≤ R.slots)
    (kk : ∀ (H' : Heap) (locs' : List Loc) (lsA' : Array Slot), xH cls B sp sp0 D aC s m' H' locs' → xLs B sp lsA' (mx j) ls' → W p l e R s mid args below meth c H' locs' (cells + (m'.1 - m.1)) (slots + (m'.2.1 - m.2.1)) Q (F0 mid pc' lsA' (st'.map (cv B sp)))) : W p l e R s mid args below meth c H locs cells slots Q (F0 mid pc lsA (st.map (cv B sp))) := by
  obtain ⟨hx, hb, hml, hown, hts, hnm⟩ := C0
  obtain ⟨off, rfl, rfl, ht, ht0⟩ := hk
  simp only [xs] at h
  cases h
  simp only [Nat.sub_self, Nat.add_zero, List.map_cons, cv_int, cv_long, cv_null] at kk ⊢
  exact lv_goto hx hb hd (x_tgt ht ht0) (kk H locs lsA hH hL)
theorem sx_ifCond {j pc len : Nat} {raw : Instr} {cn : Jvm.ClassFile.Cond} {t : Int} {ls st ls' st' : List Value} {m m' : xM} {pc' : Nat} {lsA : Array Slot} (hsp : xSp strs lens byt B sp adK adV b L sc sp0) (hcl : xCl gt cls fty) (C0 : xAct gt mx bt yn j p s mid args meth c) (hE : xE cls acl nst strs lens byt B sp D aC adK adV b L sc s s.heap) (hB : B ≤ s.heap.size) (hd : decode (bt j) pc = .ok (raw, len)) (hk : xlk gt nst cls acl nM yn strs j pc len raw (.ifCond cn t)) (h : xs fty acl (.ifCond cn t) (pc + len) ls st m = some (pc', ls', st', m')) (hH : xH cls B sp sp0 D aC s m H locs) (hL : xLs B sp lsA (mx j) ls) (hc : cells + (m'.1 - m.1) ≤ R.cells) (hs : slots + (m'.2.1 - m.2.1) ≤ R.slots)
    (kk : ∀ (H' : Heap) (locs' : List Loc) (lsA' : Array Slot), xH cls B sp sp0 D aC s m' H' locs' → xLs B sp lsA' (mx j) ls' → W p l e R s mid args below meth c H' locs' (cells + (m'.1 - m.1)) (slots + (m'.2.1 - m.2.1)) Q (F0 mid pc' lsA' (st'.map (cv B sp)))) : W p l e R s mid args below meth c H locs cells slots Q (F0 mid pc lsA (st.map (cv B sp))) := by
  obtain ⟨hx, hb, hml, hown, hts, hnm⟩ := C0
  obtain ⟨off, rfl, rfl, ht, ht0⟩ := hk
  simp only [xs] at h
  split at h
  · rename_i x r
    cases cn with
      | eq =>
        by_cases hq : xcndB .eq x 0 = true
        · rw [if_pos hq] at h
          cases h
          simp only [Nat.sub_self, Nat.add_zero, List.map_cons, cv_int, cv_long, cv_null] at kk ⊢
          simp only [xcndB, decide_eq_true_eq, decide_not, Bool.not_eq_true', decide_eq_false_iff_not] at hq
          refine lv_if_eq hx hb hd (x_tgt ht ht0) (fun _ => kk H locs lsA hH hL) (fun hn => ?_)
          first | exact absurd hq hn | exact absurd hn hq
        · rw [if_neg hq] at h
          cases h
          simp only [Nat.sub_self, Nat.add_zero, List.map_cons, cv_int, cv_long, cv_null] at kk ⊢
          simp only [xcndB, decide_eq_true_eq, decide_not, Bool.not_eq_true', decide_eq_false_iff_not, Decidable.not_not] at hq
          refine lv_if_eq hx hb hd (x_tgt ht ht0) (fun hn => ?_) (fun _ => kk H locs lsA hH hL)
          first | exact absurd hn hq | exact absurd hq hn
      | ne =>
        by_cases hq : xcndB .ne x 0 = true
        · rw [if_pos hq] at h
          cases h
          simp only [Nat.sub_self, Nat.add_zero, List.map_cons, cv_int, cv_long, cv_null] at kk ⊢
          simp only [xcndB, decide_eq_true_eq, decide_not, Bool.not_eq_true', decide_eq_false_iff_not] at hq
          refine lv_if_ne hx hb hd (x_tgt ht ht0) (fun _ => kk H locs lsA hH hL) (fun hn => ?_)
          first | exact absurd hq hn | exact absurd hn hq
        · rw [if_neg hq] at h
          cases h
          simp only [Nat.sub_self, Nat.add_zero, List.map_cons, cv_int, cv_long, cv_null] at kk ⊢
          simp only [xcndB, decide_eq_true_eq, decide_not, Bool.not_eq_true', decide_eq_false_iff_not, Decidable.not_not] at hq
          refine lv_if_ne hx hb hd (x_tgt ht ht0) (fun hn => ?_) (fun _ => kk H locs lsA hH hL)
          first | exact absurd hn hq | exact absurd hq hn
      | lt =>
        by_cases hq : xcndB .lt x 0 = true
        · rw [if_pos hq] at h
          cases h
          simp only [Nat.sub_self, Nat.add_zero, List.map_cons, cv_int, cv_long, cv_null] at kk ⊢
          simp only [xcndB, decide_eq_true_eq, decide_not, Bool.not_eq_true', decide_eq_false_iff_not] at hq
          refine lv_if_lt hx hb hd (x_tgt ht ht0) (fun _ => kk H locs lsA hH hL) (fun hn => ?_)
          first | exact absurd hq hn | exact absurd hn hq
        · rw [if_neg hq] at h
          cases h
          simp only [Nat.sub_self, Nat.add_zero, List.map_cons, cv_int, cv_long, cv_null] at kk ⊢
          simp only [xcndB, decide_eq_true_eq, decide_not, Bool.not_eq_true', decide_eq_false_iff_not, Decidable.not_not] at hq
          refine lv_if_lt hx hb hd (x_tgt ht ht0) (fun hn => ?_) (fun _ => kk H locs lsA hH hL)
          first | exact absurd hn hq | exact absurd hq hn
      | ge =>
        by_cases hq : xcndB .ge x 0 = true
        · rw [if_pos hq] at h
          cases h
          simp only [Nat.sub_self, Nat.add_zero, List.map_cons, cv_int, cv_long, cv_null] at kk ⊢
          simp only [xcndB, decide_eq_true_eq, decide_not, Bool.not_eq_true', decide_eq_false_iff_not] at hq
          refine lv_if_ge hx hb hd (x_tgt ht ht0) (fun _ => kk H locs lsA hH hL) (fun hn => ?_)
          first | exact absurd hq hn | exact absurd hn hq
        · rw [if_neg hq] at h
          cases h
          simp only [Nat.sub_self, Nat.add_zero, List.map_cons, cv_int, cv_long, cv_null] at kk ⊢
          simp only [xcndB, decide_eq_true_eq, decide_not, Bool.not_eq_true', decide_eq_false_iff_not, Decidable.not_not] at hq
          refine lv_if_ge hx hb hd (x_tgt ht ht0) (fun hn => ?_) (fun _ => kk H locs lsA hH hL)
          first | exact absurd hn hq | exact absurd hq hn
      | gt =>
        by_cases hq : xcndB .gt x 0 = true
        · rw [if_pos hq] at h
          cases h
          simp only [Nat.sub_self, Nat.add_zero, List.map_cons, cv_int, cv_long, cv_null] at kk ⊢
          simp only [xcndB, decide_eq_true_eq, decide_not, Bool.not_eq_true', decide_eq_false_iff_not] at hq
          refine lv_if_gt hx hb hd (x_tgt ht ht0) (fun _ => kk H locs lsA hH hL) (fun hn => ?_)
          first | exact absurd hq hn | exact absurd hn hq
        · rw [if_neg hq] at h
          cases h
          simp only [Nat.sub_self, Nat.add_zero, List.map_cons, cv_int, cv_long, cv_null] at kk ⊢
          simp only [xcndB, decide_eq_true_eq, decide_not, Bool.not_eq_true', decide_eq_false_iff_not, Decidable.not_not] at hq
          refine lv_if_gt hx hb hd (x_tgt ht ht0) (fun hn => ?_) (fun _ => kk H locs lsA hH hL)
          first | exact absurd hn hq | exact absurd hq hn
      | le =>
        by_cases hq : xcndB .le x 0 = true
        · rw [if_pos hq] at h
          cases h
          simp only [Nat.sub_self, Nat.add_zero, List.map_cons, cv_int, cv_long, cv_null] at kk ⊢
          simp only [xcndB, decide_eq_true_eq, decide_not, Bool.not_eq_true', decide_eq_false_iff_not] at hq
          refine lv_if_le hx hb hd (x_tgt ht ht0) (fun _ => kk H locs lsA hH hL) (fun hn => ?_)
          first | exact absurd hq hn | exact absurd hn hq
        · rw [if_neg hq] at h
          cases h
          simp only [Nat.sub_self, Nat.add_zero, List.map_cons, cv_int, cv_long, cv_null] at kk ⊢
          simp only [xcndB, decide_eq_true_eq, decide_not, Bool.not_eq_true', decide_eq_false_iff_not, Decidable.not_not] at hq
          refine lv_if_le hx hb hd (x_tgt ht ht0) (fun hn => ?_) (fun _ => kk H locs lsA hH hL)
          first | exact absurd hn hq | exact absurd hq hn
  · cases h
theorem sx_if_icmp {j pc len : Nat} {raw : Instr} {cn : Jvm.ClassFile.Cond} {t : Int} {ls st ls' st' : List Value} {m m' : xM} {pc' : Nat} {lsA : Array Slot} (hsp : xSp strs lens byt B sp adK adV b L sc sp0) (hcl : xCl gt cls fty) (C0 : xAct gt mx bt yn j p s mid args meth c) (hE : xE cls acl nst strs lens byt B sp D aC adK adV b L sc s s.heap) (hB : B ≤ s.heap.size) (hd : decode (bt j) pc = .ok (raw, len)) (hk : xlk gt nst cls acl nM yn strs j pc len raw (.if_icmp cn t)) (h : xs fty acl (.if_icmp cn t) (pc + len) ls st m = some (pc', ls', st', m')) (hH : xH cls B sp sp0 D aC s m H locs) (hL : xLs B sp lsA (mx j) ls) (hc : cells + (m'.1 - m.1) ≤ R.cells) (hs : slots + (m'.2.1 - m.2.1) ≤ R.slots)
    (kk : ∀ (H' : Heap) (locs' : List Loc) (lsA' : Array Slot), xH cls B sp sp0 D aC s m' H' locs' → xLs B sp lsA' (mx j) ls' → W p l e R s mid args below meth c H' locs' (cells + (m'.1 - m.1)) (slots + (m'.2.1 - m.2.1)) Q (F0 mid pc' lsA' (st'.map (cv B sp)))) : W p l e R s mid args below meth c H locs cells slots Q (F0 mid pc lsA (st.map (cv B sp))) := by
  obtain ⟨hx, hb, hml, hown, hts, hnm⟩ := C0
  obtain ⟨off, rfl, rfl, ht, ht0⟩ := hk
  simp only [xs] at h
  split at h
  · rename_i y x r
    cases cn with
      | eq =>
        by_cases hq : xcndB .eq x y = true
        · rw [if_pos hq] at h
          cases h
          simp only [Nat.sub_self, Nat.add_zero, List.map_cons, cv_int, cv_long, cv_null] at kk ⊢
          simp only [xcndB, decide_eq_true_eq, decide_not, Bool.not_eq_true', decide_eq_false_iff_not] at hq
          refine lv_icmp_eq hx hb hd (x_tgt ht ht0) (fun _ => kk H locs lsA hH hL) (fun hn => ?_)
          first | exact absurd hq hn | exact absurd hn hq
        · rw [if_neg hq] at h
          cases h
          simp only [Nat.sub_self, Nat.add_zero, List.map_cons, cv_int, cv_long, cv_null] at kk ⊢
          simp only [xcndB, decide_eq_true_eq, decide_not, Bool.not_eq_true', decide_eq_false_iff_not, Decidable.not_not] at hq
          refine lv_icmp_eq hx hb hd (x_tgt ht ht0) (fun hn => ?_) (fun _ => kk H locs lsA hH hL)
          first | exact absurd hn hq | exact absurd hq hn
      | ne =>
        by_cases hq : xcndB .ne x y = true
        · rw [if_pos hq] at h
          cases h
          simp only [Nat.sub_self, Nat.add_zero, List.map_cons, cv_int, cv_long, cv_null] at kk ⊢
          simp only [xcndB, decide_eq_true_eq, decide_not, Bool.not_eq_true', decide_eq_false_iff_not] at hq
          refine lv_icmp_ne hx hb hd (x_tgt ht ht0) (fun _ => kk H locs lsA hH hL) (fun hn => ?_)
          first | exact absurd hq hn | exact absurd hn hq
        · rw [if_neg hq] at h
          cases h
          simp only [Nat.sub_self, Nat.add_zero, List.map_cons, cv_int, cv_long, cv_null] at kk ⊢
          simp only [xcndB, decide_eq_true_eq, decide_not, Bool.not_eq_true', decide_eq_false_iff_not, Decidable.not_not] at hq
          refine lv_icmp_ne hx hb hd (x_tgt ht ht0) (fun hn => ?_) (fun _ => kk H locs lsA hH hL)
          first | exact absurd hn hq | exact absurd hq hn
      | lt =>
        by_cases hq : xcndB .lt x y = true
        · rw [if_pos hq] at h
          cases h
          simp only [Nat.sub_self, Nat.add_zero, List.map_cons, cv_int, cv_long, cv_null] at kk ⊢
          simp only [xcndB, decide_eq_true_eq, decide_not, Bool.not_eq_true', decide_eq_false_iff_not] at hq
          refine lv_icmp_lt hx hb hd (x_tgt ht ht0) (fun _ => kk H locs lsA hH hL) (fun hn => ?_)
          first | exact absurd hq hn | exact absurd hn hq
        · rw [if_neg hq] at h
          cases h
          simp only [Nat.sub_self, Nat.add_zero, List.map_cons, cv_int, cv_long, cv_null] at kk ⊢
          simp only [xcndB, decide_eq_true_eq, decide_not, Bool.not_eq_true', decide_eq_false_iff_not, Decidable.not_not] at hq
          refine lv_icmp_lt hx hb hd (x_tgt ht ht0) (fun hn => ?_) (fun _ => kk H locs lsA hH hL)
          first | exact absurd hn hq | exact absurd hq hn
      | ge =>
        by_cases hq : xcndB .ge x y = true
        · rw [if_pos hq] at h
          cases h
          simp only [Nat.sub_self, Nat.add_zero, List.map_cons, cv_int, cv_long, cv_null] at kk ⊢
          simp only [xcndB, decide_eq_true_eq, decide_not, Bool.not_eq_true', decide_eq_false_iff_not] at hq
          refine lv_icmp_ge hx hb hd (x_tgt ht ht0) (fun _ => kk H locs lsA hH hL) (fun hn => ?_)
          first | exact absurd hq hn | exact absurd hn hq
        · rw [if_neg hq] at h
          cases h
          simp only [Nat.sub_self, Nat.add_zero, List.map_cons, cv_int, cv_long, cv_null] at kk ⊢
          simp only [xcndB, decide_eq_true_eq, decide_not, Bool.not_eq_true', decide_eq_false_iff_not, Decidable.not_not] at hq
          refine lv_icmp_ge hx hb hd (x_tgt ht ht0) (fun hn => ?_) (fun _ => kk H locs lsA hH hL)
          first | exact absurd hn hq | exact absurd hq hn
      | gt =>
        by_cases hq : xcndB .gt x y = true
        · rw [if_pos hq] at h
          cases h
          simp only [Nat.sub_self, Nat.add_zero, List.map_cons, cv_int, cv_long, cv_null] at kk ⊢
          simp only [xcndB, decide_eq_true_eq, decide_not, Bool.not_eq_true', decide_eq_false_iff_not] at hq
          refine lv_icmp_gt hx hb hd (x_tgt ht ht0) (fun _ => kk H locs lsA hH hL) (fun hn => ?_)
          first | exact absurd hq hn | exact absurd hn hq
        · rw [if_neg hq] at h
          cases h
          simp only [Nat.sub_self, Nat.add_zero, List.map_cons, cv_int, cv_long, cv_null] at kk ⊢
          simp only [xcndB, decide_eq_true_eq, decide_not, Bool.not_eq_true', decide_eq_false_iff_not, Decidable.not_not] at hq
          refine lv_icmp_gt hx hb hd (x_tgt ht ht0) (fun hn => ?_) (fun _ => kk H locs lsA hH hL)
          first | exact absurd hn hq | exact absurd hq hn
      | le =>
        by_cases hq : xcndB .le x y = true
        · rw [if_pos hq] at h
          cases h
          simp only [Nat.sub_self, Nat.add_zero, List.map_cons, cv_int, cv_long, cv_null] at kk ⊢
          simp only [xcndB, decide_eq_true_eq, decide_not, Bool.not_eq_true', decide_eq_false_iff_not] at hq
          refine lv_icmp_le hx hb hd (x_tgt ht ht0) (fun _ => kk H locs lsA hH hL) (fun hn => ?_)
          first | exact absurd hq hn | exact absurd hn hq
        · rw [if_neg hq] at h
          cases h
          simp only [Nat.sub_self, Nat.add_zero, List.map_cons, cv_int, cv_long, cv_null] at kk ⊢
          simp only [xcndB, decide_eq_true_eq, decide_not, Bool.not_eq_true', decide_eq_false_iff_not, Decidable.not_not] at hq
          refine lv_icmp_le hx hb hd (x_tgt ht ht0) (fun hn => ?_) (fun _ => kk H locs lsA hH hL)
          first | exact absurd hn hq | exact absurd hq hn
  · cases h
theorem sx_ifnonnull {j pc len : Nat} {raw : Instr} {t : Int} {ls st ls' st' : List Value} {m m' : xM} {pc' : Nat} {lsA : Array Slot} (hsp : xSp strs lens byt B sp adK adV b L sc sp0) (hcl : xCl gt cls fty) (C0 : xAct gt mx bt yn j p s mid args meth c) (hE : xE cls acl nst strs lens byt B sp D aC adK adV b L sc s s.heap) (hB : B ≤ s.heap.size) (hd : decode (bt j) pc = .ok (raw, len)) (hk : xlk gt nst cls acl nM yn strs j pc len raw (.ifnonnull t)) (h : xs fty acl (.ifnonnull t) (pc + len) ls st m = some (pc', ls', st', m')) (hH : xH cls B sp sp0 D aC s m H locs) (hL : xLs B sp lsA (mx j) ls) (hc : cells + (m'.1 - m.1) ≤ R.cells) (hs : slots + (m'.2.1 - m.2.1) ≤ R.slots)
    (kk : ∀ (H' : Heap) (locs' : List Loc) (lsA' : Array Slot), xH cls B sp sp0 D aC s m' H' locs' → xLs B sp lsA' (mx j) ls' → W p l e R s mid args below meth c H' locs' (cells + (m'.1 - m.1)) (slots + (m'.2.1 - m.2.1)) Q (F0 mid pc' lsA' (st'.map (cv B sp)))) : W p l e R s mid args below meth c H locs cells slots Q (F0 mid pc lsA (st.map (cv B sp))) := by
  obtain ⟨hx, hb, hml, hown, hts, hnm⟩ := C0
  obtain ⟨off, rfl, rfl, ht, ht0⟩ := hk
  simp only [xs] at h
  split at h
  · split at h
    · rename_i a r ha
      cases h
      simp only [Nat.sub_self, Nat.add_zero, List.map_cons, cv_int, cv_long, cv_null] at kk ⊢
      rw [cv_ref ha]
      exact lv_ifnonnull hx hb hd (x_tgt ht ht0) (kk H locs lsA hH hL)
    · cases h
  · cases h
    simp only [Nat.sub_self, Nat.add_zero, List.map_cons, cv_int, cv_long, cv_null] at kk ⊢
    exact lv_ifnonnullN hx hb hd (kk H locs lsA hH hL)
  · cases h
theorem sx_ifnull {j pc len : Nat} {raw : Instr} {t : Int} {ls st ls' st' : List Value} {m m' : xM} {pc' : Nat} {lsA : Array Slot} (hsp : xSp strs lens byt B sp adK adV b L sc sp0) (hcl : xCl gt cls fty) (C0 : xAct gt mx bt yn j p s mid args meth c) (hE : xE cls acl nst strs lens byt B sp D aC adK adV b L sc s s.heap) (hB : B ≤ s.heap.size) (hd : decode (bt j) pc = .ok (raw, len)) (hk : xlk gt nst cls acl nM yn strs j pc len raw (.ifnull t)) (h : xs fty acl (.ifnull t) (pc + len) ls st m = some (pc', ls', st', m')) (hH : xH cls B sp sp0 D aC s m H locs) (hL : xLs B sp lsA (mx j) ls) (hc : cells + (m'.1 - m.1) ≤ R.cells) (hs : slots + (m'.2.1 - m.2.1) ≤ R.slots)
    (kk : ∀ (H' : Heap) (locs' : List Loc) (lsA' : Array Slot), xH cls B sp sp0 D aC s m' H' locs' → xLs B sp lsA' (mx j) ls' → W p l e R s mid args below meth c H' locs' (cells + (m'.1 - m.1)) (slots + (m'.2.1 - m.2.1)) Q (F0 mid pc' lsA' (st'.map (cv B sp)))) : W p l e R s mid args below meth c H locs cells slots Q (F0 mid pc lsA (st.map (cv B sp))) := by
  obtain ⟨hx, hb, hml, hown, hts, hnm⟩ := C0
  obtain ⟨off, rfl, rfl, ht, ht0⟩ := hk
  simp only [xs] at h
  split at h
  · split at h
    · rename_i a r ha
      cases h
      simp only [Nat.sub_self, Nat.add_zero, List.map_cons, cv_int, cv_long, cv_null] at kk ⊢
      rw [cv_ref ha]
      exact lv_ifnull hx hb hd (kk H locs lsA hH hL)
    · cases h
  · cases h
    simp only [Nat.sub_self, Nat.add_zero, List.map_cons, cv_int, cv_long, cv_null] at kk ⊢
    exact lv_ifnullN hx hb hd (x_tgt ht ht0) (kk H locs lsA hH hL)
  · cases h
theorem sx_tableswitch {j pc len : Nat} {raw : Instr} {dd lo hi : Int} {offs : Array Int} {ls st ls' st' : List Value} {m m' : xM} {pc' : Nat} {lsA : Array Slot} (hsp : xSp strs lens byt B sp adK adV b L sc sp0) (hcl : xCl gt cls fty) (C0 : xAct gt mx bt yn j p s mid args meth c) (hE : xE cls acl nst strs lens byt B sp D aC adK adV b L sc s s.heap) (hB : B ≤ s.heap.size) (hd : decode (bt j) pc = .ok (raw, len)) (hk : xlk gt nst cls acl nM yn strs j pc len raw (.tableswitch dd lo hi offs)) (h : xs fty acl (.tableswitch dd lo hi offs) (pc + len) ls st m = some (pc', ls', st', m')) (hH : xH cls B sp sp0 D aC s m H locs) (hL : xLs B sp lsA (mx j) ls) (hc : cells + (m'.1 - m.1) ≤ R.cells) (hs : slots + (m'.2.1 - m.2.1) ≤ R.slots)
    (kk : ∀ (H' : Heap) (locs' : List Loc) (lsA' : Array Slot), xH cls B sp sp0 D aC s m' H' locs' → xLs B sp lsA' (mx j) ls' → W p l e R s mid args below meth c H' locs' (cells + (m'.1 - m.1)) (slots + (m'.2.1 - m.2.1)) Q (F0 mid pc' lsA' (st'.map (cv B sp)))) : W p l e R s mid args below meth c H locs cells slots Q (F0 mid pc lsA (st.map (cv B sp))) := by
  obtain ⟨hx, hb, hml, hown, hts, hnm⟩ := C0
  obtain ⟨d', offs', rfl, hd', hd0, rfl, hoffs⟩ := hk
  simp only [xs] at h
  split at h
  · rename_i x r
    split at h
    · rename_i hq
      cases h
      simp only [Nat.sub_self, Nat.add_zero, List.map_cons, cv_int, cv_long, cv_null] at kk ⊢
      exact lv_tableOut hx hb hd hq (x_tgt hd' hd0) (kk H locs lsA hH hL)
    · rename_i hq
      split at h
      · rename_i t ht
        cases h
        simp only [Nat.sub_self, Nat.add_zero, List.map_cons, cv_int, cv_long, cv_null] at kk ⊢
        have h0 : 0 ≤ t := hoffs t (by rw [← Array.getElem?_toList] at ht; exact List.mem_of_getElem? ht)
        rw [Array.getElem?_map] at ht
        obtain ⟨o, ho1, ho2⟩ := Option.map_eq_some_iff.mp ht
        exact lv_tableIn hx hb hd (fun q => hq (Or.inl q)) (fun q => hq (Or.inr q)) ho1 (x_tgt ho2 h0) (kk H locs lsA hH hL)
      · cases h
  · cases h
theorem x_look (pc d x : Int) : ∀ (ps : List (Int × Int)), Op.lookupswitch.offset (ps.map (fun q => (q.1, pc + q.2))) (pc + d) x = pc + Op.lookupswitch.offset ps d x
  | [] => by simp [Op.lookupswitch.offset]
  | a :: r => by
    rw [List.map_cons, Op.lookupswitch.offset_cons, show a = (a.1, a.2) from rfl, Op.lookupswitch.offset_cons]
    split
    · rfl
    · exact x_look pc d x r
theorem x_look0 (d x : Int) (h0 : 0 ≤ d) : ∀ (ps : List (Int × Int)), (∀ q ∈ ps, 0 ≤ q.2) → 0 ≤ Op.lookupswitch.offset ps d x
  | [], _ => by simpa [Op.lookupswitch.offset] using h0
  | a :: r, h => by
    rw [show a = (a.1, a.2) from rfl, Op.lookupswitch.offset_cons]
    split
    · exact h a List.mem_cons_self
    · exact x_look0 d x h0 r (fun q hq => h q (List.mem_cons_of_mem _ hq))
theorem sx_lookupswitch {j pc len : Nat} {raw : Instr} {dd : Int} {ps : Array (Int × Int)} {ls st ls' st' : List Value} {m m' : xM} {pc' : Nat} {lsA : Array Slot} (hsp : xSp strs lens byt B sp adK adV b L sc sp0) (hcl : xCl gt cls fty) (C0 : xAct gt mx bt yn j p s mid args meth c) (hE : xE cls acl nst strs lens byt B sp D aC adK adV b L sc s s.heap) (hB : B ≤ s.heap.size) (hd : decode (bt j) pc = .ok (raw, len)) (hk : xlk gt nst cls acl nM yn strs j pc len raw (.lookupswitch dd ps)) (h : xs fty acl (.lookupswitch dd ps) (pc + len) ls st m = some (pc', ls', st', m')) (hH : xH cls B sp sp0 D aC s m H locs) (hL : xLs B sp lsA (mx j) ls) (hc : cells + (m'.1 - m.1) ≤ R.cells) (hs : slots + (m'.2.1 - m.2.1) ≤ R.slots)
    (kk : ∀ (H' : Heap) (locs' : List Loc) (lsA' : Array Slot), xH cls B sp sp0 D aC s m' H' locs' → xLs B sp lsA' (mx j) ls' → W p l e R s mid args below meth c H' locs' (cells + (m'.1 - m.1)) (slots + (m'.2.1 - m.2.1)) Q (F0 mid pc' lsA' (st'.map (cv B sp)))) : W p l e R s mid args below meth c H locs cells slots Q (F0 mid pc lsA (st.map (cv B sp))) := by
  obtain ⟨hx, hb, hml, hown, hts, hnm⟩ := C0
  obtain ⟨d', ps', rfl, hsrt, rfl, hd0, rfl, hoffs⟩ := hk
  simp only [xs] at h
  split at h
  · rename_i x r
    cases h
    simp only [Nat.sub_self, Nat.add_zero, List.map_cons, cv_int, cv_long, cv_null] at kk ⊢
    have h0 := x_look0 _ x.toInt hd0 _ hoffs
    rw [Array.toList_map] at h0
    rw [Array.toList_map] at kk
    exact lv_lookup hx hb hd hsrt rfl (x_tgt (x_look pc d' x.toInt ps'.toList).symm h0) (kk H locs lsA hH hL)
  · cases h
theorem sx_ldc {j pc len : Nat} {raw : Instr} {q : Nat} {ls st ls' st' : List Value} {m m' : xM} {pc' : Nat} {lsA : Array Slot} (hsp : xSp strs lens byt B sp adK adV b L sc sp0) (hcl : xCl gt cls fty) (C0 : xAct gt mx bt yn j p s mid args meth c) (hE : xE cls acl nst strs lens byt B sp D aC adK adV b L sc s s.heap) (hB : B ≤ s.heap.size) (hd : decode (bt j) pc = .ok (raw, len)) (hk : xlk gt nst cls acl nM yn strs j pc len raw (.ldc q)) (h : xs fty acl (.ldc q) (pc + len) ls st m = some (pc', ls', st', m')) (hH : xH cls B sp sp0 D aC s m H locs) (hL : xLs B sp lsA (mx j) ls) (hc : cells + (m'.1 - m.1) ≤ R.cells) (hs : slots + (m'.2.1 - m.2.1) ≤ R.slots)
    (kk : ∀ (H' : Heap) (locs' : List Loc) (lsA' : Array Slot), xH cls B sp sp0 D aC s m' H' locs' → xLs B sp lsA' (mx j) ls' → W p l e R s mid args below meth c H' locs' (cells + (m'.1 - m.1)) (slots + (m'.2.1 - m.2.1)) Q (F0 mid pc' lsA' (st'.map (cv B sp)))) : W p l e R s mid args below meth c H locs cells slots Q (F0 mid pc lsA (st.map (cv B sp))) := by
  obtain ⟨hx, hb, hml, hown, hts, hnm⟩ := C0
  obtain ⟨q1, tx, rfl, rfl, hq⟩ := hk
  simp only [xs] at h
  cases h
  simp only [Nat.sub_self, Nat.add_zero, List.map_cons] at kk
  rw [cv_sp] at kk
  obtain ⟨h0, h1⟩ := hsp.2.2.2.1 _ hq
  have h2 := (hsp.2.2.2.2.1 (q / 2) h1).1
  dsimp only at h0 h1
  rw [show 2 * (q / 2) = q by omega] at h2
  rw [h2] at kk
  exact va_ldcS hx hb hown (hE.2.2.2.2.1 _ hq) hd (kk H locs lsA hH hL)
theorem sx_getstatic {j pc len : Nat} {raw : Instr} {q : Nat} {ls st ls' st' : List Value} {m m' : xM} {pc' : Nat} {lsA : Array Slot} (hsp : xSp strs lens byt B sp adK adV b L sc sp0) (hcl : xCl gt cls fty) (C0 : xAct gt mx bt yn j p s mid args meth c) (hE : xE cls acl nst strs lens byt B sp D aC adK adV b L sc s s.heap) (hB : B ≤ s.heap.size) (hd : decode (bt j) pc = .ok (raw, len)) (hk : xlk gt nst cls acl nM yn strs j pc len raw (.getstatic q)) (h : xs fty acl (.getstatic q) (pc + len) ls st m = some (pc', ls', st', m')) (hH : xH cls B sp sp0 D aC s m H locs) (hL : xLs B sp lsA (mx j) ls) (hc : cells + (m'.1 - m.1) ≤ R.cells) (hs : slots + (m'.2.1 - m.2.1) ≤ R.slots)
    (kk : ∀ (H' : Heap) (locs' : List Loc) (lsA' : Array Slot), xH cls B sp sp0 D aC s m' H' locs' → xLs B sp lsA' (mx j) ls' → W p l e R s mid args below meth c H' locs' (cells + (m'.1 - m.1)) (slots + (m'.2.1 - m.2.1)) Q (F0 mid pc' lsA' (st'.map (cv B sp)))) : W p l e R s mid args below meth c H locs cells slots Q (F0 mid pc lsA (st.map (cv B sp))) := by
  obtain ⟨hx, hb, hml, hown, hts, hnm⟩ := C0
  obtain ⟨q1, rfl, rfl, hq⟩ := hk
  simp only [xs] at h
  cases h
  simp only [Nat.sub_self, Nat.add_zero, List.map_cons] at kk
  rcases hq with ⟨rfl, hq⟩ | ⟨rfl, hq⟩
  · rw [if_pos rfl] at kk
    exact va_gets hx hb hE.2.2.2.2.2.1 hH.2.2.1 hown (hts _ hq) (fun _ h9 => h9) hd (kk H locs lsA hH hL)
  · rw [if_neg (by decide), cv_sp] at kk
    exact va_gets hx hb hE.2.2.2.2.2.2.1 hH.2.2.1 hown (hts _ hq) (fun _ h9 => h9) hd (kk H locs lsA hH hL)
end XO
