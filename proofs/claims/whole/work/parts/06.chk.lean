/-! THE RESOLVED CODE IS THE PROGRAM'S: a checker, and what it is worth. -/
def xh3 (l : List (Nat × Nat × Nat × Nat)) (a b c : Nat) : Bool := l.any (fun e => e.1 == a && e.2.1 == b && e.2.2.1 == c)
theorem xh3_mem {l : List (Nat × Nat × Nat × Nat)} {a b c : Nat} (h : xh3 l a b c = true) : ∃ k, (a, b, c, k) ∈ l := by
  obtain ⟨⟨e1, e2, e3, e4⟩, he, h⟩ := List.any_eq_true.mp h
  simp only [Bool.and_eq_true, beq_iff_eq] at h
  obtain ⟨⟨rfl, rfl⟩, rfl⟩ := h
  exact ⟨e4, he⟩
def xFLb (e : Nat × Nat × Nat × Nat) : Bool := match xcls[e.2.2.1 / 64]? with
  | some (C, T, N) => decide (e.2.2.1 % 64 < N) && decide ((T (e.2.2.1 % 64)).1 = C) && xin e.2.2.2 (.fieldLink (xcn e.1) e.2.1 C (T (e.2.2.1 % 64)).2.1 (T (e.2.2.1 % 64)).2.2.1)
  | none => (e.2.2.1 == 5760 && xin e.2.2.2 (.fieldLink (xcn e.1) e.2.1 "java/lang/String" "value" "[B")) || (e.2.2.1 == 5761 && xin e.2.2.2 (.fieldLink (xcn e.1) e.2.1 "java/lang/String" "coder" "B"))
def xMLb (e : Nat × Nat × Nat × Nat) : Bool := decide (e.2.2.1 < xnM) && xin e.2.2.2 (.methodLink (xcn e.1) e.2.1 (xyn e.2.2.1))
def xCLb (e : Nat × Nat × Nat × Nat) : Bool := match xcls[e.2.2.1]? with
  | some (C, _, _) => xin e.2.2.2 (.classLink (xcn e.1) e.2.1 C)
  | none => false
def xALb (e : Nat × Nat × Nat × Nat) : Bool := match xcls[xacl e.2.2.1]? with
  | some (C, _, _) => xin e.2.2.2 (.classLink (xcn e.1) e.2.1 C)
  | none => false
def xOLb (e : Nat × Nat × Nat × Nat) : Bool := (e.2.2.1 == 9999 && xin e.2.2.2 (.methodLink (xcn e.1) e.2.1 objectInit)) || (e.2.2.1 == 9998 && xin e.2.2.2 (.methodLink (xcn e.1) e.2.1 arraycopyName)) || (e.2.2.1 == 9997 && xin e.2.2.2 (.methodLink (xcn e.1) e.2.1 ⟨"[I", "clone", "()Ljava/lang/Object;"⟩))
def xGSb (e : Nat × Nat × Nat × Nat) : Bool := (e.2.2.1 == 0 && xin e.2.2.2 (.fieldLink (xcn e.1) e.2.1 "java/lang/String" "COMPACT_STRINGS" "Z")) || (e.2.2.1 == 1 && xin e.2.2.2 (.fieldLink (xcn e.1) e.2.1 "jdk/internal/util/Preconditions" "SIOOBE_FORMATTER" "Ljava/util/function/BiFunction;"))
def xLCb (e : Nat × Nat × Nat × Nat) : Bool := xin e.2.2.2 (.constantLong (xcn e.1) e.2.1 (Int64.ofNat e.2.2.1))
def xICb (e : Nat × Nat × Int × Nat) : Bool := xin e.2.2.2 (.constant (xcn e.1) e.2.1 (Int32.ofInt e.2.2.1))
def xNLb (e : Nat × Nat × Nat) : Bool := decide (e.2.2 < xnM) && decide (Cond.methodLinkNest (xcn e.1) e.2.1 (xyn e.2.2) "OneBoots" ∈ xnst)
def xSLb (e : Nat × Nat × Nat) : Bool := xstr.any (fun q => q.1 == e.2.2 && q.2.1 == xcn e.1 && q.2.2.1 == e.2.1)
def xkb (k : Nat) : Bool := (xyn k).cls == xcn (xoc k) && match xkd k with
  | 0 => xin (xaux k).2.2.1 (.static (xyn k)) && xna k == xnp k
  | 1 => xin (xaux k).2.2.1 (.instanceMethod (xyn k)) && xin (xaux k).2.2.2 (.selects (xyn k).cls (xyn k) (xyn k)) && xna k == xnp k + 1 && (match xcls[xrc k]? with
    | some r => r.1 == (xyn k).cls
    | none => xrc k == 90 && (xyn k).cls == "java/lang/String")
  | 2 => xin (xaux k).2.2.1 (.instanceMethod (xyn k)) && (xyn k).name == "<init>" && xna k == xnp k + 1 && decide (xrt k = none)
  | _ => true
