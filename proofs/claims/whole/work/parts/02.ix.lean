/-! AN INTERPRETER OF THE RESOLVED CODE: a plain function; its soundness over the machine is proved once, in the next part. -/
/-- a cell: an array (its kind, its length and contents), or an object (its class's number, its fields); references are numbers of cells -/
abbrev xC : Type := (Nat × vp_A) ⊕ (Nat × List Value)
/-- a memory: how many cells were made, how many slots, and the cells -/
abbrev xM : Type := Nat × Nat × (Nat → Option xC)
/-- cells from here on were there before the law began: strings, the script -/
def xS : Nat := 1000000
def xset (m : xM) (k : Nat) (c : xC) : xM := (m.1, m.2.1, va_up m.2.2 k (some c))
def xnew (m : xM) (sl : Nat) (c : xC) : xM := (m.1 + 1, m.2.1 + sl, va_up m.2.2 m.1 (some c))
abbrev xb : Value := .retAddr 0
/-- a store into the locals: a long takes two -/
def xst (ls : List Value) (i : Nat) (v : Value) : List Value :=
  let l1 := match i with
    | 0 => ls
    | k + 1 => match ls[k]? with
      | some (.long _) => ls.set k xb
      | some (.double _) => ls.set k xb
      | _ => ls
  match v with
  | .long _ => (l1.set i v).set (i + 1) xb
  | _ => l1.set i v
/-- the locals at a method's entry -/
def xlo : List Value → List Value
  | [] => []
  | v :: r => if v.category = 2 then v :: xb :: xlo r else v :: xlo r
def xent (nL : Nat) (as : List Value) : List Value := xlo as ++ List.replicate (nL - (xlo as).length) xb
def xcat (st : List Value) : Nat := (st.map fun v => v.category).sum
def xcnd (c : Jvm.ClassFile.Cond) (x y : Int32) : Prop := match c with
  | .eq => x = y
  | .ne => ¬ x = y
  | .lt => x < y
  | .ge => y ≤ x
  | .gt => y < x
  | .le => x ≤ y
def xcndB (c : Jvm.ClassFile.Cond) (x y : Int32) : Bool := match c with
  | .eq => decide (x = y)
  | .ne => decide (¬ x = y)
  | .lt => decide (x < y)
  | .ge => decide (y ≤ x)
  | .gt => decide (y < x)
  | .le => decide (x ≤ y)
abbrev xR : Type := Nat × List Value × List Value × xM
abbrev xints (f : Nat → Int32) : (Nat → Int32) ⊕ (Nat → Int64) ⊕ (Nat → UInt32) ⊕ (Nat → UInt64) ⊕ (Nat → Option Nat) := .inl f
abbrev xlongs (f : Nat → Int64) : (Nat → Int32) ⊕ (Nat → Int64) ⊕ (Nat → UInt32) ⊕ (Nat → UInt64) ⊕ (Nat → Option Nat) := .inr (.inl f)
abbrev xrefs (f : Nat → Option Nat) : (Nat → Int32) ⊕ (Nat → Int64) ⊕ (Nat → UInt32) ⊕ (Nat → UInt64) ⊕ (Nat → Option Nat) := .inr (.inr (.inr (.inr f)))
/-- kinds of arrays: 0 int, 1 byte, 2 long, 3 boolean, 4 and on: of references, of the class told -/
def xak : ArrayType → Option (Nat × ((Nat → Int32) ⊕ (Nat → Int64) ⊕ (Nat → UInt32) ⊕ (Nat → UInt64) ⊕ (Nat → Option Nat)))
  | .int => some (0, xints fun _ => 0)
  | .byte => some (1, xints fun _ => 0)
  | .long => some (2, xlongs fun _ => 0)
  | .boolean => some (3, xints fun _ => 0)
  | _ => none
def xout (i : Int32) (n : Nat) : Bool := decide (i < 0 ∨ n ≤ i.toNatClampNeg)
section XS
-- tables of the program: the types of the fields of a class; the class of the objects in a kind of arrays
variable (fty : Nat → List FieldType) (acl : Nat → Nat)
def x_getf (q : Nat) (pc : Nat) (ls st : List Value) (m : xM) : Option xR := match st with
  | .ref a :: r => match m.2.2 a with
    | some (.inr (ci, fs)) => if ci = q / 64 then match fs[q % 64]? with
      | some v => some (pc, ls, v :: r, m)
      | none => none
      else none
    | _ => none
  | _ => none
def x_putf (q : Nat) (pc : Nat) (ls st : List Value) (m : xM) : Option xR := match st with
  | v :: .ref a :: r => if a < xS then match m.2.2 a with
    | some (.inr (ci, fs)) => if ci = q / 64 ∧ q % 64 < fs.length then match (fty ci)[q % 64]? with
      | some ty => if narrow ty v = v ∧ fits ty v = true then some (pc, ls, r, xset m a (.inr (ci, fs.set (q % 64) v))) else none
      | none => none
      else none
    | _ => none
    else none
  | _ => none
def x_iald (pc : Nat) (ls st : List Value) (m : xM) : Option xR := match st with
  | .int i :: .ref a :: r => match m.2.2 a with
    | some (.inl (0, n, .inl f)) => if xout i n then none else some (pc, ls, .int (f i.toNatClampNeg) :: r, m)
    | _ => none
  | _ => none
def x_bald (pc : Nat) (ls st : List Value) (m : xM) : Option xR := match st with
  | .int i :: .ref a :: r => match m.2.2 a with
    | some (.inl (1, n, .inl f)) => if xout i n then none else some (pc, ls, .int (f i.toNatClampNeg) :: r, m)
    | some (.inl (3, n, .inl f)) => if xout i n then none else some (pc, ls, .int (f i.toNatClampNeg) :: r, m)
    | _ => none
  | _ => none
def x_lald (pc : Nat) (ls st : List Value) (m : xM) : Option xR := match st with
  | .int i :: .ref a :: r => match m.2.2 a with
    | some (.inl (2, n, .inr (.inl f))) => if xout i n then none else some (pc, ls, .long (f i.toNatClampNeg) :: r, m)
    | _ => none
  | _ => none
def x_aald (pc : Nat) (ls st : List Value) (m : xM) : Option xR := match st with
  | .int i :: .ref a :: r => match m.2.2 a with
    | some (.inl (t, n, .inr (.inr (.inr (.inr f))))) => if t < 4 ∨ 7 ≤ t ∨ xS ≤ a ∨ xout i n = true then none else match f i.toNatClampNeg with
      | none => some (pc, ls, .null :: r, m)
      | some v => if v < xS then some (pc, ls, .ref v :: r, m) else none
    | _ => none
  | _ => none
def x_iast (pc : Nat) (ls st : List Value) (m : xM) : Option xR := match st with
  | .int x :: .int i :: .ref a :: r => if a < xS then match m.2.2 a with
    | some (.inl (0, n, .inl f)) => if xout i n then none else some (pc, ls, r, xset m a (.inl (0, n, .inl (upd f i.toNatClampNeg x))))
    | _ => none
    else none
  | _ => none
def x_bast (pc : Nat) (ls st : List Value) (m : xM) : Option xR := match st with
  | .int x :: .int i :: .ref a :: r => if a < xS then match m.2.2 a with
    | some (.inl (1, n, .inl f)) => if xout i n then none else some (pc, ls, r, xset m a (.inl (1, n, .inl (upd f i.toNatClampNeg (vp_nar .byte x)))))
    | some (.inl (3, n, .inl f)) => if xout i n then none else some (pc, ls, r, xset m a (.inl (3, n, .inl (upd f i.toNatClampNeg (vp_nar .boolean x)))))
    | _ => none
    else none
  | _ => none
def x_last (pc : Nat) (ls st : List Value) (m : xM) : Option xR := match st with
  | .long x :: .int i :: .ref a :: r => if a < xS then match m.2.2 a with
    | some (.inl (2, n, .inr (.inl f))) => if xout i n then none else some (pc, ls, r, xset m a (.inl (2, n, .inr (.inl (vp_updL f i.toNatClampNeg x)))))
    | _ => none
    else none
  | _ => none
def x_aast (pc : Nat) (ls st : List Value) (m : xM) : Option xR := match st with
  | .ref v :: .int i :: .ref a :: r => if a < xS ∧ v < xS then match m.2.2 a with
    | some (.inl (t, n, .inr (.inr (.inr (.inr f))))) => if t < 4 ∨ 7 ≤ t ∨ xout i n = true then none else match m.2.2 v with
      | some (.inr (ci, _)) => if ci = acl t then some (pc, ls, r, xset m a (.inl (t, n, .inr (.inr (.inr (.inr (va_up f i.toNatClampNeg (some v)))))))) else none
      | _ => none
    | _ => none
    else none
  | _ => none
def x_alen (pc : Nat) (ls st : List Value) (m : xM) : Option xR := match st with
  | .ref a :: r => match m.2.2 a with
    | some (.inl (t, x)) => if t < 7 then some (pc, ls, .int (Int32.ofNat x.1) :: r, m) else none
    | _ => none
  | _ => none
def x_new (ci : Nat) (pc : Nat) (ls st : List Value) (m : xM) : Option xR :=
  if m.1 < xS then some (pc, ls, .ref m.1 :: st, xnew m (fty ci).length (.inr (ci, (fty ci).map defaultValue))) else none
def x_newa (at_ : ArrayType) (pc : Nat) (ls st : List Value) (m : xM) : Option xR := match st with
  | .int n :: r => match xak at_ with
    | some (t, f) => if m.1 < xS ∧ ¬ n < 0 ∧ n.toNatClampNeg ≤ 100000 then some (pc, ls, .ref m.1 :: r, xnew m n.toNatClampNeg (.inl (t, n.toNatClampNeg, f))) else none
    | none => none
  | _ => none
def x_anew (t : Nat) (pc : Nat) (ls st : List Value) (m : xM) : Option xR := match st with
  | .int n :: r => if m.1 < xS ∧ 4 ≤ t ∧ t < 7 ∧ ¬ n < 0 ∧ n.toNatClampNeg ≤ 100000 then some (pc, ls, .ref m.1 :: r, xnew m n.toNatClampNeg (.inl (t, n.toNatClampNeg, xrefs fun _ => none))) else none
  | _ => none
/-- System.arraycopy of ints -/
def x_copy (pc : Nat) (ls st : List Value) (m : xM) : Option xR := match st with
  | .int n :: .int dp :: .ref a :: .int sp :: .ref a0 :: r => if a < xS ∧ a0 < xS ∧ xcat r ≤ 8 ∧ ¬ sp < 0 ∧ ¬ dp < 0 ∧ ¬ n < 0 then match m.2.2 a0 with
    | some (.inl (0, n0, .inl f)) => match m.2.2 a with
      | some (.inl (0, n1, .inl g)) => if sp.toNatClampNeg + n.toNatClampNeg ≤ n0 ∧ dp.toNatClampNeg + n.toNatClampNeg ≤ n1 then some (pc, ls, r, xset m a (.inl (0, n1, .inl (va_cpy f g sp.toNatClampNeg dp.toNatClampNeg n.toNatClampNeg)))) else none
      | _ => none
    | _ => none
    else none
  | _ => none
/-- the clone of an array of ints -/
def x_clone (pc : Nat) (ls st : List Value) (m : xM) : Option xR := match st with
  | .ref a :: r => if a < xS ∧ m.1 < xS ∧ xcat r ≤ 8 then match m.2.2 a with
    | some (.inl (0, n, .inl f)) => some (pc, ls, .ref m.1 :: r, xnew m n (.inl (0, n, .inl f)))
    | _ => none
    else none
  | _ => none
def x_cast (pc : Nat) (ls st : List Value) (m : xM) : Option xR := match st with
  | .ref a :: r => if a < xS then match m.2.2 a with
    | some (.inl (0, _)) => some (pc, ls, .ref a :: r, m)
    | _ => none
    else none
  | _ => none
def x_bin (f : Int32 → Int32 → Int32) (pc : Nat) (ls st : List Value) (m : xM) : Option xR := match st with
  | .int y :: .int x :: r => some (pc, ls, .int (f x y) :: r, m)
  | _ => none
def x_binL (f : Int64 → Int64 → Int64) (pc : Nat) (ls st : List Value) (m : xM) : Option xR := match st with
  | .long y :: .long x :: r => some (pc, ls, .long (f x y) :: r, m)
  | _ => none
/-- one instruction that neither calls nor returns; pc is the next one's -/
def xs (i : Instr) (pc : Nat) (ls st : List Value) (m : xM) : Option xR := match i with
  | .iconst v => some (pc, ls, .int (Int32.ofInt v) :: st, m)
  | .ldc2_w z => some (pc, ls, .long (Int64.ofNat z) :: st, m)
  | .ldc q => some (pc, ls, .ref (xS + q) :: st, m)
  | .aconst_null => some (pc, ls, .null :: st, m)
  | .iload k => match ls[k]? with
    | some (.int x) => some (pc, ls, .int x :: st, m)
    | _ => none
  | .lload k => match ls[k]? with
    | some (.long x) => some (pc, ls, .long x :: st, m)
    | _ => none
  | .aload k => match ls[k]? with
    | some (.ref x) => some (pc, ls, .ref x :: st, m)
    | some .null => some (pc, ls, .null :: st, m)
    | _ => none
  | .istore k => match st with
    | .int x :: r => if k < ls.length then some (pc, xst ls k (.int x), r, m) else none
    | _ => none
  | .lstore k => match st with
    | .long x :: r => if k + 1 < ls.length then some (pc, xst ls k (.long x), r, m) else none
    | _ => none
  | .astore k => match st with
    | .ref x :: r => if k < ls.length then some (pc, xst ls k (.ref x), r, m) else none
    | .null :: r => if k < ls.length then some (pc, xst ls k .null, r, m) else none
    | _ => none
  | .iinc k n => match ls[k]? with
    | some (.int x) => some (pc, xst ls k (.int (x + Int32.ofInt n)), st, m)
    | _ => none
  | .iadd => x_bin (· + ·) pc ls st m
  | .isub => x_bin (· - ·) pc ls st m
  | .imul => x_bin (· * ·) pc ls st m
  | .iand => x_bin (· &&& ·) pc ls st m
  | .ior => x_bin (· ||| ·) pc ls st m
  | .ishl => x_bin (fun x y => x <<< (y &&& 31)) pc ls st m
  | .ishr => x_bin (fun x y => x >>> (y &&& 31)) pc ls st m
  | .iushr => x_bin (fun x y => (x.toUInt32 >>> (y.toUInt32 &&& Int32.toUInt32 31)).toInt32) pc ls st m
  | .idiv => match st with
    | .int y :: .int x :: r => if y = 0 then none else some (pc, ls, .int (x / y) :: r, m)
    | _ => none
  | .irem => match st with
    | .int y :: .int x :: r => if y = 0 then none else some (pc, ls, .int (x - x / y * y) :: r, m)
    | _ => none
  | .ladd => x_binL (· + ·) pc ls st m
  | .lsub => x_binL (· - ·) pc ls st m
  | .lmul => x_binL (· * ·) pc ls st m
  | .land => x_binL (· &&& ·) pc ls st m
  | .lor => x_binL (· ||| ·) pc ls st m
  | .ldiv => match st with
    | .long y :: .long x :: r => if y = 0 then none else some (pc, ls, .long (x / y) :: r, m)
    | _ => none
  | .lrem => match st with
    | .long y :: .long x :: r => if y = 0 then none else some (pc, ls, .long (x - x / y * y) :: r, m)
    | _ => none
  | .lshl => match st with
    | .int y :: .long x :: r => some (pc, ls, .long (x <<< (y.toInt64 &&& 63)) :: r, m)
    | _ => none
  | .lcmp => match st with
    | .long y :: .long x :: r => some (pc, ls, .int (lg_cmp x y) :: r, m)
    | _ => none
  | .i2l => match st with
    | .int x :: r => some (pc, ls, .long x.toInt64 :: r, m)
    | _ => none
  | .l2i => match st with
    | .long x :: r => some (pc, ls, .int x.toInt32 :: r, m)
    | _ => none
  | .i2b => match st with
    | .int x :: r => some (pc, ls, .int x.toInt8.toInt32 :: r, m)
    | _ => none
  | .i2c => match st with
    | .int x :: r => some (pc, ls, .int (x.toUInt32 % 65536).toInt32 :: r, m)
    | _ => none
  | .dup => match st with
    | v :: r => if v.category = 1 then some (pc, ls, v :: v :: r, m) else none
    | _ => none
  | .pop => match st with
    | v :: r => if v.category = 1 then some (pc, ls, r, m) else none
    | _ => none
  | .dup2 => match st with
    | v :: w :: r => if v.category = 1 ∧ w.category = 1 then some (pc, ls, v :: w :: v :: w :: r, m) else none
    | _ => none
  | .goto t => some (t.toNat, ls, st, m)
  | .ifCond c t => match st with
    | .int x :: r => if xcndB c x 0 = true then some (t.toNat, ls, r, m) else some (pc, ls, r, m)
    | _ => none
  | .if_icmp c t => match st with
    | .int y :: .int x :: r => if xcndB c x y = true then some (t.toNat, ls, r, m) else some (pc, ls, r, m)
    | _ => none
  | .ifnonnull t => match st with
    | .ref a :: r => if a < xS then some (t.toNat, ls, r, m) else none
    | .null :: r => some (pc, ls, r, m)
    | _ => none
  | .ifnull t => match st with
    | .ref a :: r => if a < xS then some (pc, ls, r, m) else none
    | .null :: r => some (t.toNat, ls, r, m)
    | _ => none
  | .tableswitch d lo hi offs => match st with
    | .int x :: r => if x.toInt < lo ∨ hi < x.toInt then some (d.toNat, ls, r, m) else match offs[(x.toInt - lo).toNat]? with
      | some t => some (t.toNat, ls, r, m)
      | none => none
    | _ => none
  | .lookupswitch d ps => match st with
    | .int x :: r => some ((Op.lookupswitch.offset ps.toList d x.toInt).toNat, ls, r, m)
    | _ => none
  | .getfield q => x_getf q pc ls st m
  | .putfield q => x_putf fty q pc ls st m
  | .getstatic q => some (pc, ls, (if q = 0 then .int 1 else .ref (xS + 50)) :: st, m)
  | .iaload => x_iald pc ls st m
  | .baload => x_bald pc ls st m
  | .laload => x_lald pc ls st m
  | .aaload => x_aald pc ls st m
  | .iastore => x_iast pc ls st m
  | .bastore => x_bast pc ls st m
  | .lastore => x_last pc ls st m
  | .aastore => x_aast acl pc ls st m
  | .arraylength => x_alen pc ls st m
  | .new ci => x_new fty ci pc ls st m
  | .newarray a => x_newa a pc ls st m
  | .anewarray t => x_anew t pc ls st m
  | .checkcast _ => x_cast pc ls st m
  | _ => none
end XS
section XI
variable (G : Nat → Nat → Option (Instr × Nat)) (fty : Nat → List FieldType) (acl na mx rc : Nat → Nat) (rk : Nat → FieldType)
def x_arg (k : Nat) (st : List Value) : Option (List Value × List Value) :=
  if na k ≤ st.length ∧ xcat (st.drop (na k)) ≤ 8 ∧ (xlo (st.take (na k)).reverse).length ≤ mx k then some ((st.take (na k)).reverse, st.drop (na k)) else none
def x_rcv (k : Nat) (m : xM) (as : List Value) : Bool := match as with
  | .ref b :: _ => match m.2.2 b with
    | some (.inr (ci, _)) => ci == rc k
    | _ => false
  | _ => false
def x_rcs (as : List Value) : Bool := match as with
  | .ref b :: _ => decide (b < xS)
  | _ => false
/-- the interpreter's body, over itself: how many calls may lie above this one, the method, pc, locals, stack, memory -/
def ixB (rec : Nat → Nat → Nat → List Value → List Value → xM → Option (Option Value × xM)) (d j pc : Nat) (ls st : List Value) (m : xM) : Option (Option Value × xM) := match G j pc with
  | none => none
  | some (i, len) => match i with
    | .ireturn => match st with
      | [.int v] => if narrow (rk j) (.int v) = .int v then some (some (.int v), m) else none
      | _ => none
    | .lreturn => match st with
      | [.long v] => some (some (.long v), m)
      | _ => none
    | .areturn => match st with
      | [.ref v] => if v < xS then some (some (.ref v), m) else none
      | _ => none
    | .return_ => match st with
      | [] => some (none, m)
      | _ => none
    | .invokevirtual k => match d with
      | 0 => none
      | d + 1 => if k = 9997 then match x_clone (pc + len) ls st m with
          | none => none
          | some (pc', ls', st', m') => rec (d + 1) j pc' ls' st' m'
        else match x_arg na mx k st with
        | none => none
        | some (as, rest) => if x_rcv rc k m as = true then match rec d k 0 (xent (mx k) as) [] m with
          | none => none
          | some (r, m') => rec (d + 1) j (pc + len) ls (r.toList ++ rest) m'
          else none
    | .invokestatic k => match d with
      | 0 => none
      | d + 1 => if k = 9998 then match x_copy (pc + len) ls st m with
          | none => none
          | some (pc', ls', st', m') => rec (d + 1) j pc' ls' st' m'
        else match x_arg na mx k st with
        | none => none
        | some (as, rest) => match rec d k 0 (xent (mx k) as) [] m with
          | none => none
          | some (r, m') => rec (d + 1) j (pc + len) ls (r.toList ++ rest) m'
    | .invokespecial k => match d with
      | 0 => none
      | d + 1 => if k = 9999 then match st with
          | .ref a :: r => if xcat r ≤ 8 ∧ a < xS then rec (d + 1) j (pc + len) ls r m else none
          | _ => none
        else match x_arg na mx k st with
        | none => none
        | some (as, rest) => if x_rcs as = true then match rec d k 0 (xent (mx k) as) [] m with
          | none => none
          | some (r, m') => rec (d + 1) j (pc + len) ls (r.toList ++ rest) m'
          else none
    | i => match xs fty acl i (pc + len) ls st m with
      | none => none
      | some (pc', ls', st', m') => rec d j pc' ls' st' m'
/-- the interpreter: fuel -/
def ix : Nat → Nat → Nat → Nat → List Value → List Value → xM → Option (Option Value × xM)
  | 0 => fun _ _ _ _ _ _ => none
  | n + 1 => ixB G fty acl na mx rc rk (ix n)
end XI
