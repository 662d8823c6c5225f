/-! WHAT TIES THE RESOLVED CODE TO THE PROGRAM'S BYTES AND TABLES. -/
section XK
variable (gt nst : List Cond) (cls : List vw_C) (acl : Nat → Nat) (nM : Nat) (yn : Nat → MethodName) (strs : List (Nat × String × Nat × String))
/-- raw, of len bytes, at pc of method j, resolves to i -/
def xlk (j pc len : Nat) (raw i : Instr) : Prop := match i with
  | .iconst v => (∃ n, raw = .iconst n ∧ len = 1 ∧ Int32.ofInt n = Int32.ofInt v) ∨ (∃ n, raw = .bipush n ∧ len = 2 ∧ (Int8.ofInt n).toInt32 = Int32.ofInt v) ∨ (∃ n, raw = .sipush n ∧ len = 3 ∧ (Int16.ofInt n).toInt32 = Int32.ofInt v) ∨ (∃ q, raw = .ldc q ∧ len = 2 ∧ Cond.constant (yn j).cls q (Int32.ofInt v) ∈ gt) ∨ (∃ q, raw = .ldc_w q ∧ len = 3 ∧ Cond.constant (yn j).cls q (Int32.ofInt v) ∈ gt)
  | .ldc2_w z => (∃ n : Fin 2, raw = .lconst n ∧ len = 1 ∧ (n : Nat) = z) ∨ (∃ q, raw = .ldc2_w q ∧ len = 3 ∧ Cond.constantLong (yn j).cls q (Int64.ofNat z) ∈ gt)
  | .ldc q => ∃ q1 tx, raw = .ldc q1 ∧ len = 2 ∧ (q, (yn j).cls, q1, tx) ∈ strs
  | .iload k => (raw = .iload k ∧ len = 2) ∨ (∃ f : Fin 4, raw = .iload_n f ∧ len = 1 ∧ (f : Nat) = k)
  | .lload k => (raw = .lload k ∧ len = 2) ∨ (∃ f : Fin 4, raw = .lload_n f ∧ len = 1 ∧ (f : Nat) = k)
  | .aload k => (raw = .aload k ∧ len = 2) ∨ (∃ f : Fin 4, raw = .aload_n f ∧ len = 1 ∧ (f : Nat) = k)
  | .istore k => (raw = .istore k ∧ len = 2) ∨ (∃ f : Fin 4, raw = .istore_n f ∧ len = 1 ∧ (f : Nat) = k)
  | .lstore k => (raw = .lstore k ∧ len = 2) ∨ (∃ f : Fin 4, raw = .lstore_n f ∧ len = 1 ∧ (f : Nat) = k)
  | .astore k => (raw = .astore k ∧ len = 2) ∨ (∃ f : Fin 4, raw = .astore_n f ∧ len = 1 ∧ (f : Nat) = k)
  | .iinc k n => raw = .iinc k n ∧ len = 3
  | .goto t => ∃ off, raw = .goto off ∧ len = 3 ∧ (pc : Int) + off = t ∧ 0 ≤ t
  | .ifCond c t => ∃ off, raw = .ifCond c off ∧ len = 3 ∧ (pc : Int) + off = t ∧ 0 ≤ t
  | .if_icmp c t => ∃ off, raw = .if_icmp c off ∧ len = 3 ∧ (pc : Int) + off = t ∧ 0 ≤ t
  | .ifnonnull t => ∃ off, raw = .ifnonnull off ∧ len = 3 ∧ (pc : Int) + off = t ∧ 0 ≤ t
  | .ifnull t => ∃ off, raw = .ifnull off ∧ len = 3 ∧ (pc : Int) + off = t ∧ 0 ≤ t
  | .tableswitch d lo hi offs => ∃ d' offs', raw = .tableswitch d' lo hi offs' ∧ (pc : Int) + d' = d ∧ 0 ≤ d ∧ offs = offs'.map (fun o => (pc : Int) + o) ∧ ∀ t ∈ offs.toList, 0 ≤ t
  | .lookupswitch d ps => ∃ d' ps', raw = .lookupswitch d' ps' ∧ (ps'.toList.zip (ps'.toList.drop 1)).all (fun (a, next) => a.1 < next.1) = true ∧ (pc : Int) + d' = d ∧ 0 ≤ d ∧ ps = ps'.map (fun q => (q.1, (pc : Int) + q.2)) ∧ ∀ q ∈ ps.toList, 0 ≤ q.2
  | .getfield q => ∃ q1, raw = .getfield q1 ∧ len = 3 ∧ ((∃ C T N, cls[q / 64]? = some (C, T, N) ∧ q % 64 < N ∧ (T (q % 64)).1 = C ∧ Cond.fieldLink (yn j).cls q1 C (T (q % 64)).2.1 (T (q % 64)).2.2.1 ∈ gt) ∨ (q = 90 * 64 ∧ Cond.fieldLink (yn j).cls q1 "java/lang/String" "value" "[B" ∈ gt) ∨ (q = 90 * 64 + 1 ∧ Cond.fieldLink (yn j).cls q1 "java/lang/String" "coder" "B" ∈ gt))
  | .putfield q => ∃ q1, raw = .putfield q1 ∧ len = 3 ∧ (∃ C T N, cls[q / 64]? = some (C, T, N) ∧ q % 64 < N ∧ (T (q % 64)).1 = C ∧ Cond.fieldLink (yn j).cls q1 C (T (q % 64)).2.1 (T (q % 64)).2.2.1 ∈ gt ∧ ((T (q % 64)).2.2.2 = false ∨ ((T (q % 64)).2.2.2 = true ∧ (yn j).name = "<init>" ∧ C = (yn j).cls)))
  | .getstatic q => ∃ q1, raw = .getstatic q1 ∧ len = 3 ∧ ((q = 0 ∧ Cond.fieldLink (yn j).cls q1 "java/lang/String" "COMPACT_STRINGS" "Z" ∈ gt) ∨ (q = 1 ∧ Cond.fieldLink (yn j).cls q1 "jdk/internal/util/Preconditions" "SIOOBE_FORMATTER" "Ljava/util/function/BiFunction;" ∈ gt))
  | .new ci => ∃ q1, raw = .new q1 ∧ len = 3 ∧ ∃ C T N, cls[ci]? = some (C, T, N) ∧ Cond.classLink (yn j).cls q1 C ∈ gt
  | .newarray a => raw = .newarray a ∧ len = 2
  | .anewarray t => ∃ q1, raw = .anewarray q1 ∧ len = 3 ∧ ∃ r : vw_C, cls[acl t]? = some r ∧ Cond.classLink (yn j).cls q1 r.1 ∈ gt
  | .invokevirtual k => ∃ q1, raw = .invokevirtual q1 ∧ len = 3 ∧ ((k = 9997 ∧ Cond.methodLink (yn j).cls q1 ⟨"[I", "clone", "()Ljava/lang/Object;"⟩ ∈ gt) ∨ (k < nM ∧ Cond.methodLink (yn j).cls q1 (yn k) ∈ gt ∧ Cond.instanceMethod (yn k) ∈ gt ∧ Cond.selects (yn k).cls (yn k) (yn k) ∈ gt))
  | .checkcast _ => ∃ q1, raw = .checkcast q1 ∧ len = 3 ∧ Cond.classLink (yn j).cls q1 "[I" ∈ gt
  | .invokespecial k => ∃ q1, raw = .invokespecial q1 ∧ len = 3 ∧ ((k = 9999 ∧ Cond.methodLink (yn j).cls q1 objectInit ∈ gt) ∨ (k < nM ∧ (yn k).name = "<init>" ∧ Cond.instanceMethod (yn k) ∈ gt ∧ (Cond.methodLink (yn j).cls q1 (yn k) ∈ gt ∨ Cond.methodLinkNest (yn j).cls q1 (yn k) "OneBoots" ∈ nst)))
  | .invokestatic k => ∃ q1, raw = .invokestatic q1 ∧ len = 3 ∧ ((k = 9998 ∧ Cond.methodLink (yn j).cls q1 arraycopyName ∈ gt) ∨ (k < nM ∧ Cond.methodLink (yn j).cls q1 (yn k) ∈ gt ∧ Cond.static (yn k) ∈ gt))
  | i => raw = i ∧ len = 1
end XK
section XE
variable (cls : List vw_C) (acl : Nat → Nat) (nst : List Cond) (strs : List (Nat × String × Nat × String)) (lens : List Nat) (byt : List (List Int32))
variable (B : Nat) (sp : Nat → Value) (D : va_G) (aC : Nat → ClassId)
/-- kinds of arrays -/
def xat : Nat → FieldType
  | 0 => .int
  | 1 => .byte
  | 2 => .long
  | 3 => .boolean
  | t => .object ((cls[acl t]?).elim "" (fun r => r.1))
def xty : List (ClassId × FieldType) := (List.range 7).map (fun t => (aC t, xat cls acl t))
/-- what stands around: classes, arrays' classes, strings, the two statics, the script; A: what may be written -/
def xE (adK adV : Nat → Nat) (b L : Nat) (sc : Nat → Int32) (U : State) (H : Heap) : Prop :=
  va_K D cls (xty cls acl aC) U ∧ (∀ w ∈ nst, va_Nw w U) ∧ (∀ t, 4 ≤ t → t < 7 → ∀ r, cls[acl t]? = some r → va_AO r.1 U) ∧ vk_S 6 lens byt adK adV (fun q => B ≤ q) U H ∧ (∀ q ∈ strs, vk_R q.2.1 q.2.2.1 q.2.2.2 (adK (q.1 / 2)) U) ∧
  va_Z "java/lang/String" "COMPACT_STRINGS" "Z" (.int 1) (fun q => B ≤ q) U H ∧ va_Z "jdk/internal/util/Preconditions" "SIOOBE_FORMATTER" "Ljava/util/function/BiFunction;" (sp 50) (fun q => B ≤ q) U H ∧ va_X b L sc U H
/-- the numbers of what stood there before -/
def xSp (adK adV : Nat → Nat) (b L : Nat) (sc : Nat → Int32) (sp0 : Nat → Option xC) : Prop :=
  (∀ i, (sp i).category = 1) ∧ (∀ i, (∃ a, sp i = .ref a) ∨ sp i = .null) ∧ b < B ∧ (∀ q ∈ strs, q.1 % 2 = 0 ∧ q.1 / 2 < 6) ∧ (∀ i, i < 6 → sp (2 * i) = .ref (adK i) ∧ sp (2 * i + 1) = .ref (adV i)) ∧ sp 60 = .ref b ∧
  ∀ k c, sp0 k = some c → xS ≤ k ∧ ((∃ i, i < 6 ∧ k = xS + 2 * i ∧ c = .inr (90, [.ref (xS + (2 * i + 1)), .int 0])) ∨ (∃ i, i < 6 ∧ k = xS + (2 * i + 1) ∧ c = .inl (1, lens.getD i 0, xints fun j => (byt.getD i []).getD j 0)) ∨ (k = xS + 60 ∧ c = .inl (0, L, xints sc)))
end XE
/-- the classes of the program -/
def xCl (gt : List Cond) (cls : List vw_C) (fty : Nat → List FieldType) : Prop := cls.length ≤ 80 ∧ ∀ ci C T N, cls[ci]? = some (C, T, N) → (fty ci).length = N ∧ (∀ w ∈ u_ws C T N, w ∈ gt) ∧ (∀ k, k < N → parseFieldDescriptor (T k).2.2.1 = (fty ci)[k]?) ∧ (∀ a, a < N → ∀ b, b < N → a ≠ b → (T a).2.1 ≠ (T b).2.1) ∧ Cond.instantiable C N ∈ gt ∧ Cond.initialized C ∈ gt
/-- the methods of the program -/
def xMe (gt : List Cond) (mx : Nat → Nat) (bt : Nat → ByteArray) (yn : Nat → MethodName) (nM : Nat) (np : Nat → Nat) (rt : Nat → Option FieldType) : Prop := nM ≤ 9000 ∧ ∀ j, j < nM → Cond.code (yn j) (bt j) (mx j) (rt j) ∈ gt ∧ Cond.initialized (yn j).cls ∈ gt ∧ plainFor (yn j) = true ∧ (yn j).cls ≠ "java/lang/invoke/MethodHandle" ∧ (yn j).cls ≠ "java/lang/invoke/VarHandle" ∧ mx j ≤ 40 ∧ (parseMethodDescriptor (yn j).desc).map (fun d => d.parameters.length) = some (np j)
def xlk2 (cls : List vw_C) (yn : Nat → MethodName) (na np rc : Nat → Nat) (rk : Nat → FieldType) (rt : Nat → Option FieldType) (j : Nat) (i : Instr) : Prop := match i with
  | .ireturn => rt j = some (rk j)
  | .lreturn => rt j = some .long
  | .areturn => ∃ ty, rt j = some ty ∧ ((∃ n, ty = .object n) ∨ ∃ t, ty = .array t)
  | .return_ => rt j = none
  | .invokevirtual k => k = 9997 ∨ na k = np k + 1 ∧ ((∃ r, cls[rc k]? = some r ∧ r.1 = (yn k).cls) ∨ (rc k = 90 ∧ (yn k).cls = "java/lang/String"))
  | .invokespecial k => k = 9999 ∨ (na k = np k + 1 ∧ rt k = none)
  | .invokestatic k => k = 9998 ∨ na k = np k
  | _ => True
def xGo (gt nst : List Cond) (cls : List vw_C) (acl : Nat → Nat) (nM : Nat) (yn : Nat → MethodName) (strs : List (Nat × String × Nat × String)) (bt : Nat → ByteArray) (G : Nat → Nat → Option (Instr × Nat)) (na np rc : Nat → Nat) (rk : Nat → FieldType) (rt : Nat → Option FieldType) : Prop := ∀ j pc i len, j < nM + 1 → G j pc = some (i, len) → ∃ raw, decode (bt j) pc = .ok (raw, len) ∧ xlk gt nst cls acl nM yn strs j pc len raw i ∧ xlk2 cls yn na np rc rk rt j i
/-- words that every activation needs -/
def xWd (gt nst : List Cond) : Prop := (∀ w ∈ gt, goodWord w = true) ∧ (∀ w ∈ nst, (∃ a i y h, w = Cond.methodLinkNest a i y h) ∨ w = Cond.castable "[I" "java/lang/Cloneable") ∧ (∀ ty ∈ [FieldType.int, .byte, .long, .boolean], Cond.arrayClass ty ∈ gt) ∧ Cond.instanceMethod objectInit ∈ gt ∧ Cond.code objectInit ⟨#[0xb1]⟩ 1 none ∈ gt ∧ Cond.native arraycopyName ∈ gt ∧ Cond.static arraycopyName ∈ gt ∧ Cond.initialized "java/lang/System" ∈ gt ∧ (Cond.sameMethod "[I" "java/lang/Object" "clone" "()Ljava/lang/Object;" ∈ gt ∧ Cond.native ⟨"java/lang/Object", "clone", "()Ljava/lang/Object;"⟩ ∈ gt ∧ Cond.instanceMethod ⟨"java/lang/Object", "clone", "()Ljava/lang/Object;"⟩ ∈ gt ∧ Cond.selects "[I" ⟨"[I", "clone", "()Ljava/lang/Object;"⟩ ⟨"java/lang/Object", "clone", "()Ljava/lang/Object;"⟩ ∈ gt ∧ Cond.castable "[I" "java/lang/Cloneable" ∈ nst)
