/-! THE PICTURE OF A MEMORY IN THE MACHINE'S HEAP: cell k lies at B + k. -/
def cv (B : Nat) (sp : Nat → Value) : Value → Value
  | .ref k => if k < xS then .ref (B + k) else sp (k - xS)
  | v => v
theorem cv_ref {B : Nat} {sp : Nat → Value} {k : Nat} (h : k < xS) : cv B sp (.ref k) = .ref (B + k) := if_pos h
def cA (B : Nat) : ((Nat → Int32) ⊕ (Nat → Int64) ⊕ (Nat → UInt32) ⊕ (Nat → UInt64) ⊕ (Nat → Option Nat)) → ((Nat → Int32) ⊕ (Nat → Int64) ⊕ (Nat → UInt32) ⊕ (Nat → UInt64) ⊕ (Nat → Option Nat))
  | .inr (.inr (.inr (.inr f))) => .inr (.inr (.inr (.inr fun j => (f j).map (B + ·))))
  | x => x
def cC (B : Nat) (sp : Nat → Value) (aC : Nat → ClassId) : xC → va_E
  | .inl a => .inl (aC a.1, a.2.1, cA B a.2.2)
  | .inr o => .inr (o.1, o.2.map (cv B sp))
def pwc (B : Nat) (sp : Nat → Value) (aC : Nat → ClassId) (f : Nat → Option xC) (k : Nat) : Nat × va_E := (B + k, match f k with
  | some c => cC B sp aC c
  | none => .inr (0, []))
def pw (B : Nat) (sp : Nat → Value) (aC : Nat → ClassId) (m : xM) : va_W := (List.range m.1).map (pwc B sp aC m.2.2)
def xOk (sp0 : Nat → Option xC) (m : xM) : Prop := m.1 ≤ xS ∧ (∀ k, k < xS → ((m.2.2 k).isSome = true ↔ k < m.1)) ∧ ∀ k, xS ≤ k → m.2.2 k = sp0 k
section PW
variable {B : Nat} {sp : Nat → Value} {aC : Nat → ClassId} {sp0 : Nat → Option xC} {m : xM}
theorem xOk.lt (h : xOk sp0 m) {k : Nat} {c : xC} (hk : k < xS) (hc : m.2.2 k = some c) : k < m.1 := (h.2.1 k hk).mp (by rw [hc]; rfl)
theorem pw_at {k : Nat} (hk : k < m.1) : (pw B sp aC m)[k]? = some (pwc B sp aC m.2.2 k) := by
  simp [pw, hk]
theorem pw_get (h : xOk sp0 m) {k : Nat} {c : xC} (hk : k < xS) (hc : m.2.2 k = some c) : (pw B sp aC m)[k]? = some (B + k, cC B sp aC c) := by
  rw [pw_at (h.lt hk hc)]
  simp [pwc, hc]
theorem pw_set (h : xOk sp0 m) {k : Nat} {c c' : xC} (hk : k < xS) (hc : m.2.2 k = some c) : (pw B sp aC m).set k (B + k, cC B sp aC c') = pw B sp aC (xset m k c') := by
  apply List.ext_getElem?
  intro i
  by_cases hi : i = k
  · subst hi
    have hl := h.lt hk hc
    rw [List.getElem?_set_self (by simp [pw, hl])]
    simp [pw, xset, hl, pwc, va_up]
  · rw [List.getElem?_set_ne (fun q => hi q.symm)]
    by_cases hl : i < m.1
    · simp [pw, xset, hl, pwc, va_up, hi]
    · simp [pw, xset, hl]
theorem pw_new {sl : Nat} {c : xC} : pw B sp aC (xnew m sl c) = pw B sp aC m ++ [(B + m.1, cC B sp aC c)] := by
  simp only [pw, xnew, List.range_succ, List.map_append, List.map_cons, List.map_nil]
  congr 1
  · apply List.map_congr_left
    intro k hk
    have : k ≠ m.1 := Nat.ne_of_lt (List.mem_range.mp hk)
    simp [pwc, va_up, this]
  · simp [pwc, va_up]
theorem pw_D {A : Nat → Prop} (hA : ∀ q, B ≤ q → A q) : va_D A (pw B sp aC m) := by
  have key : ∀ (i : Nat) (p : Nat × va_E), (pw B sp aC m)[i]? = some p → p.1 = B + i := by
    intro i p h
    by_cases hi : i < m.1
    · rw [pw_at hi] at h
      cases h
      rfl
    · simp [pw, hi] at h
  refine ⟨fun i j p q hp hq e => ?_, fun k q hq => hA _ (by rw [key k q hq]; omega)⟩
  have h1 := key i p hp
  have h2 := key j q hq
  omega
theorem xOk.set (h : xOk sp0 m) {k : Nat} {c c' : xC} (hk : k < xS) (hc : m.2.2 k = some c) : xOk sp0 (xset m k c') := by
  refine ⟨h.1, fun i hi => ?_, fun i hi => ?_⟩
  · by_cases e : i = k
    · subst e
      simp [xset, va_up, h.lt hk hc]
    · simp only [xset, va_up, if_neg e]
      exact h.2.1 i hi
  · have e : i ≠ k := by omega
    simp only [xset, va_up, if_neg e]
    exact h.2.2 i hi
theorem xOk.new (h : xOk sp0 m) {sl : Nat} {c : xC} (hm : m.1 < xS) : xOk sp0 (xnew m sl c) := by
  refine ⟨hm, fun i hi => ?_, fun i hi => ?_⟩
  · by_cases e : i = m.1
    · subst e
      simp [xnew, va_up]
    · simp only [xnew, va_up, if_neg e]
      rw [h.2.1 i hi]
      omega
  · have e : i ≠ m.1 := by omega
    simp only [xnew, va_up, if_neg e]
    exact h.2.2 i hi
theorem cv_cat (hsp : ∀ i, (sp i).category = 1) (v : Value) : (cv B sp v).category = v.category := by
  cases v <;> try rfl
  case ref k =>
    by_cases h : k < xS
    · rw [cv_ref h]; rfl
    · rw [show cv B sp (.ref k) = sp (k - xS) from if_neg h]; exact hsp _
theorem cv_cats (hsp : ∀ i, (sp i).category = 1) (st : List Value) : ((st.map (cv B sp)).map fun v => v.category).sum = xcat st := by
  induction st with
  | nil => rfl
  | cons v r ih => simp [xcat, cv_cat hsp] at ih ⊢; omega
/-- locals -/
def xla (B : Nat) (sp : Nat → Value) (ls : List Value) : List (Nat × Value) := (ls.zipIdx.filter (fun q => decide (q.1 ≠ xb))).map (fun q => (q.2, cv B sp q.1))
theorem xla_mem {ls : List Value} {i : Nat} {w : Value} : (i, w) ∈ xla B sp ls ↔ ∃ v, ls[i]? = some v ∧ v ≠ xb ∧ w = cv B sp v := by
  constructor
  · intro h
    obtain ⟨q, hq, e⟩ := List.mem_map.mp h
    obtain ⟨hq1, hq2⟩ := List.mem_filter.mp hq
    have h3 := List.mem_zipIdx_iff_getElem?.mp hq1
    cases e
    exact ⟨q.1, h3, by simpa using hq2, rfl⟩
  · rintro ⟨v, h1, h2, rfl⟩
    exact List.mem_map.mpr ⟨(v, i), List.mem_filter.mpr ⟨List.mem_zipIdx_iff_getElem?.mpr h1, by simpa using h2⟩, rfl⟩
def xLs (B : Nat) (sp : Nat → Value) (lsA : Array Slot) (nL : Nat) (ls : List Value) : Prop := ls.length = nL ∧ lv_has lsA nL (xla B sp ls)
theorem xLs.at {lsA : Array Slot} {nL : Nat} {ls : List Value} (h : xLs B sp lsA nL ls) {i : Nat} {v : Value} (hv : ls[i]? = some v) (hb : v ≠ xb) : lsA[i]? = some (.val (cv B sp v)) := h.2.2.2 (i, cv B sp v) (xla_mem.mpr ⟨v, hv, hb, rfl⟩)
theorem xst_len (ls : List Value) (i : Nat) (v : Value) : (xst ls i v).length = ls.length := by
  unfold xst
  cases i with
  | zero => cases v <;> simp
  | succ k =>
    cases v <;> dsimp only <;> split <;> simp
/-- what the locals are behind a store of a value of one slot -/
theorem xst_at1 {ls : List Value} {i : Nat} {v : Value} (hv : v.category = 1) {j : Nat} {w : Value} (h : (xst ls i v)[j]? = some w) (hb : w ≠ xb) : (j = i ∧ w = v) ∨ (j ≠ i ∧ ls[j]? = some w ∧ ¬ (j + 1 = i ∧ w.category = 2)) := by
  have hx : xst ls i v = ((match i with
    | 0 => ls
    | k + 1 => match ls[k]? with
      | some (.long _) => ls.set k xb
      | some (.double _) => ls.set k xb
      | _ => ls).set i v) := by
    unfold xst
    cases v <;> first | rfl | (exact absurd hv (by simp [Value.category]))
  rw [hx] at h
  clear hx
  by_cases hji : j = i
  · subst hji
    left
    refine ⟨rfl, ?_⟩
    rw [List.getElem?_set] at h
    simp at h
    exact h.2.symm
  · right
    rw [List.getElem?_set_ne (fun q => hji q.symm)] at h
    refine ⟨hji, ?_⟩
    cases i with
    | zero => exact ⟨h, by omega⟩
    | succ k =>
      dsimp only at h
      by_cases hjk : j = k
      · subst hjk
        split at h
        · rw [List.getElem?_set] at h
          simp at h
          exact absurd h.2.symm hb
        · rw [List.getElem?_set] at h
          simp at h
          exact absurd h.2.symm hb
        · rename_i hy hz
          refine ⟨h, fun ⟨_, h2⟩ => ?_⟩
          cases w <;> simp [Value.category] at h2
          · exact hy _ h
          · exact hz _ h
      · refine ⟨?_, by omega⟩
        split at h
        · rw [List.getElem?_set_ne (fun q => hjk q.symm)] at h
          exact h
        · rw [List.getElem?_set_ne (fun q => hjk q.symm)] at h
          exact h
        · exact h
theorem xst_at2 {ls : List Value} {i : Nat} {x : Int64} {j : Nat} {w : Value} (h : (xst ls i (.long x))[j]? = some w) (hb : w ≠ xb) : (j = i ∧ w = .long x) ∨ (j ≠ i ∧ j ≠ i + 1 ∧ ls[j]? = some w ∧ ¬ (j + 1 = i ∧ w.category = 2)) := by
  have hx : xst ls i (.long x) = ((match i with
    | 0 => ls
    | k + 1 => match ls[k]? with
      | some (.long _) => ls.set k xb
      | some (.double _) => ls.set k xb
      | _ => ls).set i (.long x)).set (i + 1) xb := rfl
  rw [hx] at h
  clear hx
  by_cases hj1 : j = i + 1
  · subst hj1
    rw [List.getElem?_set] at h
    simp at h
    exact absurd h.2.symm hb
  rw [List.getElem?_set_ne (fun q => hj1 q.symm)] at h
  by_cases hji : j = i
  · subst hji
    left
    refine ⟨rfl, ?_⟩
    rw [List.getElem?_set] at h
    simp at h
    exact h.2.symm
  · right
    rw [List.getElem?_set_ne (fun q => hji q.symm)] at h
    refine ⟨hji, hj1, ?_⟩
    cases i with
    | zero => exact ⟨h, by omega⟩
    | succ k =>
      dsimp only at h
      by_cases hjk : j = k
      · subst hjk
        split at h
        · rw [List.getElem?_set] at h
          simp at h
          exact absurd h.2.symm hb
        · rw [List.getElem?_set] at h
          simp at h
          exact absurd h.2.symm hb
        · rename_i hy hz
          refine ⟨h, fun ⟨_, h2⟩ => ?_⟩
          cases w <;> simp [Value.category] at h2
          · exact hy _ h
          · exact hz _ h
      · refine ⟨?_, by omega⟩
        split at h
        · rw [List.getElem?_set_ne (fun q => hjk q.symm)] at h
          exact h
        · rw [List.getElem?_set_ne (fun q => hjk q.symm)] at h
          exact h
        · exact h
/-- the machine's locals behind a store hold what the abstract ones do -/
theorem xLs.st1 (hsp : ∀ i, (sp i).category = 1) {ls : List Value} {nL i : Nat} {v : Value} {ls' : Array Slot} (hlen : ls.length = nL) (hv : v.category = 1) (h : lv_has ls' nL ((i, cv B sp v) :: (xla B sp ls).filter (fun q => !(q.1 == i) && !(q.1 + 1 == i && q.2.category == 2)))) : xLs B sp ls' nL (xst ls i v) := by
  refine ⟨by rw [xst_len]; exact hlen, h.1, h.2.1, ?_⟩
  rintro ⟨j, w⟩ hq
  obtain ⟨u, hu, hub, rfl⟩ := xla_mem.mp hq
  rcases xst_at1 hv hu hub with ⟨rfl, rfl⟩ | ⟨h1, h2, h3⟩
  · exact h.2.2 _ List.mem_cons_self
  · refine h.2.2 (j, cv B sp u) (List.mem_cons_of_mem _ (List.mem_filter.mpr ⟨xla_mem.mpr ⟨u, h2, hub, rfl⟩, ?_⟩))
    simp [h1, cv_cat hsp]
    exact Decidable.not_and_iff_or_not.mp h3
theorem xLs.st2 (hsp : ∀ i, (sp i).category = 1) {ls : List Value} {nL i : Nat} {x : Int64} {ls' : Array Slot} (hlen : ls.length = nL) (h : lv_has ls' nL ((i, Value.long x) :: (xla B sp ls).filter (fun q => !(q.1 == i) && (!(q.1 == i + 1) && !(q.1 + 1 == i && q.2.category == 2))))) : xLs B sp ls' nL (xst ls i (.long x)) := by
  refine ⟨by rw [xst_len]; exact hlen, h.1, h.2.1, ?_⟩
  rintro ⟨j, w⟩ hq
  obtain ⟨u, hu, hub, rfl⟩ := xla_mem.mp hq
  rcases xst_at2 hu hub with ⟨rfl, rfl⟩ | ⟨h1, h4, h2, h3⟩
  · exact h.2.2 _ List.mem_cons_self
  · refine h.2.2 (j, cv B sp u) (List.mem_cons_of_mem _ (List.mem_filter.mpr ⟨xla_mem.mpr ⟨u, h2, hub, rfl⟩, ?_⟩))
    simp [h1, h4, cv_cat hsp]
    exact Decidable.not_and_iff_or_not.mp h3
theorem xlo_args (hsp : ∀ i, (sp i).category = 1) : ∀ (as : List Value), (xlo as).length = (lg_sl (as.map (cv B sp))).length ∧ ∀ (k j : Nat) (v : Value), (xlo as)[j]? = some v → v ≠ xb → (k + j, cv B sp v) ∈ lv_args k (as.map (cv B sp))
  | [] => ⟨rfl, fun k j v h => by simp [xlo] at h⟩
  | a :: r => by
    obtain ⟨ih1, ih2⟩ := xlo_args hsp r
    have hc := cv_cat (B := B) hsp a
    by_cases h2 : a.category = 2
    · have e1 : xlo (a :: r) = a :: xb :: xlo r := by simp [xlo, h2]
      have e2 : lg_sl ((a :: r).map (cv B sp)) = [.val (cv B sp a), .second] ++ lg_sl (r.map (cv B sp)) := by simp [lg_sl, hc, h2]
      refine ⟨by rw [e1, e2]; simp [ih1], fun k j v h hb => ?_⟩
      rw [e1] at h
      have e3 : lv_args k ((a :: r).map (cv B sp)) = (k, cv B sp a) :: lv_args (k + 2) (r.map (cv B sp)) := by simp [lv_args, hc, h2]
      rw [e3]
      match j, h with
      | 0, h => simp at h; subst h; exact List.mem_cons_self
      | 1, h => simp at h; exact absurd h.symm hb
      | j + 2, h =>
        have := ih2 (k + 2) j v (by simpa using h) hb
        rw [show k + (j + 2) = k + 2 + j by omega]
        exact List.mem_cons_of_mem _ this
    · have e1 : xlo (a :: r) = a :: xlo r := by simp [xlo, h2]
      have e2 : lg_sl ((a :: r).map (cv B sp)) = [.val (cv B sp a)] ++ lg_sl (r.map (cv B sp)) := by simp [lg_sl, hc, h2]
      refine ⟨by rw [e1, e2]; simp [ih1], fun k j v h hb => ?_⟩
      rw [e1] at h
      have e3 : lv_args k ((a :: r).map (cv B sp)) = (k, cv B sp a) :: lv_args (k + 1) (r.map (cv B sp)) := by simp [lv_args, hc, h2]
      rw [e3]
      match j, h with
      | 0, h => simp at h; subst h; exact List.mem_cons_self
      | j + 1, h =>
        have := ih2 (k + 1) j v (by simpa using h) hb
        rw [show k + (j + 1) = k + 1 + j by omega]
        exact List.mem_cons_of_mem _ this
/-- the locals at a method's entry -/
theorem xLs.entry (hsp : ∀ i, (sp i).category = 1) {as : List Value} {nL : Nat} (h : (xlo as).length ≤ nL) : xLs B sp ((lg_sl (as.map (cv B sp)) ++ List.replicate (nL - (lg_sl (as.map (cv B sp))).length) Slot.unset).toArray) nL (xent nL as) := by
  obtain ⟨h1, h2⟩ := xlo_args (B := B) hsp as
  have h3 := lv_entry (as.map (cv B sp)) (n := nL) (by rw [← h1]; exact h)
  refine ⟨by simp [xent]; omega, h3.1, h3.2.1, ?_⟩
  rintro ⟨j, w⟩ hq
  obtain ⟨u, hu, hub, rfl⟩ := xla_mem.mp hq
  refine h3.2.2 (j, cv B sp u) ?_
  have h4 : (xlo as)[j]? = some u := by
    unfold xent at hu
    by_cases hj : j < (xlo as).length
    · rw [List.getElem?_append_left hj] at hu
      exact hu
    · rw [List.getElem?_append_right (by omega)] at hu
      have := List.mem_of_getElem? hu
      rw [List.mem_replicate] at this
      exact absurd this.2 hub
  have := h2 0 j u h4 hub
  rw [Nat.zero_add] at this
  exact this
end PW
