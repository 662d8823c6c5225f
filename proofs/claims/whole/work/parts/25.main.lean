/-! THE INTERPRETER IS SOUND: what it comes to, the machine comes to. -/
section XO
variable {gt nst : List Cond} {cls : List vw_C} {acl : Nat → Nat} {fty : Nat → List FieldType} {nM : Nat} {yn : Nat → MethodName} {strs : List (Nat × String × Nat × String)} {lens : List Nat} {byt : List (List Int32)}
variable {mx : Nat → Nat} {bt : Nat → ByteArray}
variable {B : Nat} {sp : Nat → Value} {sp0 : Nat → Option xC} {D : va_G} {aC : Nat → ClassId} {adK adV : Nat → Nat} {b L : Nat} {sc : Nat → Int32}
variable {p : Program} {l : Launch} {e : Env} {R : Room} {s : State} {mid : MethodId} {args : Array Value} {below : List Frame} {meth : Method} {c : Code} {H : Heap} {locs : List Loc} {cells slots : Nat} {Q : State → Prop}
variable {G : Nat → Nat → Option (Instr × Nat)} {na np rc : Nat → Nat} {rk : Nat → FieldType} {rt : Nat → Option FieldType}
theorem ix_mono : ∀ (n d j pc : Nat) (ls st : List Value) (m : xM) (r : Option Value) (m' : xM), ix G fty acl na mx rc rk n d j pc ls st m = some (r, m') → m.1 ≤ m'.1 ∧ m.2.1 ≤ m'.2.1 := by
  intro n
  induction n with
  | zero => intro d j pc ls st m r m' h; cases h
  | succ n ih =>
    intro d j pc ls st m r m' h
    have h : ixB G fty acl na mx rc rk (ix G fty acl na mx rc rk n) d j pc ls st m = some (r, m') := h
    unfold ixB at h
    split at h
    · cases h
    · split at h
      · split at h
        · split at h
          · cases h; exact ⟨Nat.le_refl _, Nat.le_refl _⟩
          · cases h
        · cases h
      · split at h
        · cases h; exact ⟨Nat.le_refl _, Nat.le_refl _⟩
        · cases h
      · split at h
        · split at h
          · cases h; exact ⟨Nat.le_refl _, Nat.le_refl _⟩
          · cases h
        · cases h
      · split at h
        · cases h; exact ⟨Nat.le_refl _, Nat.le_refl _⟩
        · cases h
      · split at h
        · cases h
        · split at h
          · split at h
            · cases h
            · rename_i h1
              have a := x_clone_mono h1
              have b := ih _ _ _ _ _ _ _ _ h
              omega
          · split at h
            · cases h
            · split at h
              · split at h
                · cases h
                · rename_i h1
                  have a := ih _ _ _ _ _ _ _ _ h1
                  have b := ih _ _ _ _ _ _ _ _ h
                  omega
              · cases h
      · split at h
        · cases h
        · split at h
          · split at h
            · cases h
            · rename_i h1
              have a := x_copy_mono h1
              have b := ih _ _ _ _ _ _ _ _ h
              omega
          · split at h
            · cases h
            · split at h
              · cases h
              · rename_i h1
                have a := ih _ _ _ _ _ _ _ _ h1
                have b := ih _ _ _ _ _ _ _ _ h
                omega
      · split at h
        · cases h
        · split at h
          · split at h
            · split at h
              · exact ih _ _ _ _ _ _ _ _ h
              · cases h
            · cases h
          · split at h
            · cases h
            · split at h
              · split at h
                · cases h
                · rename_i h1
                  have a := ih _ _ _ _ _ _ _ _ h1
                  have b := ih _ _ _ _ _ _ _ _ h
                  omega
              · cases h
      · split at h
        · cases h
        · rename_i h1
          have a := xs_mono h1
          have b := ih _ _ _ _ _ _ _ _ h
          omega
/-- a return at pc, with the answer r -/
def xRet (bt : Nat → ByteArray) (rk : Nat → FieldType) (rt : Nat → Option FieldType) (j : Nat) (r : Option Value) (pc : Nat) : Prop := match r with
  | none => decode (bt j) pc = .ok (.return_, 1) ∧ rt j = none
  | some (.int v) => decode (bt j) pc = .ok (.ireturn, 1) ∧ rt j = some (rk j) ∧ narrow (rk j) (.int v) = .int v
  | some (.long _) => decode (bt j) pc = .ok (.lreturn, 1) ∧ rt j = some .long
  | some (.ref v) => decode (bt j) pc = .ok (.areturn, 1) ∧ (∃ ty, rt j = some ty ∧ ((∃ n, ty = .object n) ∨ ∃ t, ty = .array t)) ∧ v < xS
  | _ => False
theorem x_arg_spec {k : Nat} {st as rest : List Value} (h : x_arg na mx k st = some (as, rest)) : st = as.reverse ++ rest ∧ as.length = na k ∧ xcat rest ≤ 8 ∧ (xlo as).length ≤ mx k := by
  unfold x_arg at h
  split at h
  · rename_i hh
    cases h
    refine ⟨by rw [List.reverse_reverse, List.take_append_drop], by simp; omega, hh.2.1, hh.2.2⟩
  · cases h
theorem xs_ok {i : Instr} {pc pc' : Nat} {ls st ls' st' : List Value} {m m' : xM} (h : xs fty acl i pc ls st m = some (pc', ls', st', m')) (hO : xOk sp0 m) : xOk sp0 m' := by
  cases i <;> simp only [xs, x_bin, x_binL, x_getf, x_putf, x_iald, x_bald, x_lald, x_aald, x_iast, x_bast, x_last, x_aast, x_alen, x_new, x_newa, x_anew, x_cast, reduceCtorEq] at h
  all_goals (repeat' (first | (cases h; done) | (split at h)))
  all_goals (first
    | (cases h; exact hO)
    | (cases h; exact hO.set (by assumption) (by assumption))
    | (cases h; exact hO.set (And.left (by assumption)) (by assumption))
    | (cases h; exact hO.new (by assumption))
    | (cases h; exact hO.new (And.left (by assumption))))
theorem x_copy_ok {pc pc' : Nat} {ls st ls' st' : List Value} {m m' : xM} (h : x_copy pc ls st m = some (pc', ls', st', m')) (hO : xOk sp0 m) : xOk sp0 m' := by
  simp only [x_copy] at h
  repeat' (first | (cases h; done) | (split at h))
  all_goals (cases h; exact hO.set (And.left (by assumption)) (by assumption))
theorem x_clone_ok {pc pc' : Nat} {ls st ls' st' : List Value} {m m' : xM} (h : x_clone pc ls st m = some (pc', ls', st', m')) (hO : xOk sp0 m) : xOk sp0 m' := by
  simp only [x_clone] at h
  repeat' (first | (cases h; done) | (split at h))
  all_goals (rename_i q _ _ _ _; cases h; exact hO.new q.2.1)
theorem ix_ok : ∀ (n d j pc : Nat) (ls st : List Value) (m : xM) (r : Option Value) (m' : xM), ix G fty acl na mx rc rk n d j pc ls st m = some (r, m') → xOk sp0 m → xOk sp0 m' := by
  intro n
  induction n with
  | zero => intro d j pc ls st m r m' h; cases h
  | succ n ih =>
    intro d j pc ls st m r m' h hO
    have h : ixB G fty acl na mx rc rk (ix G fty acl na mx rc rk n) d j pc ls st m = some (r, m') := h
    unfold ixB at h
    repeat' (first | (cases h; done) | (split at h))
    all_goals (first
      | (cases h; exact hO)
      | (rename_i h1; exact ih _ _ _ _ _ _ _ _ h (ih _ _ _ _ _ _ _ _ h1 hO))
      | (rename_i h1; exact ih _ _ _ _ _ _ _ _ h (xs_ok h1 hO))
      | (rename_i h1; exact ih _ _ _ _ _ _ _ _ h (x_copy_ok h1 hO))
      | (rename_i h1; exact ih _ _ _ _ _ _ _ _ h (x_clone_ok h1 hO))
      | (exact ih _ _ _ _ _ _ _ _ h hO))
end XO
