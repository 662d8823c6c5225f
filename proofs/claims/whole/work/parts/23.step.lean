/-! ONE STEP, AND THE WHOLE. -/
section XO
variable {gt nst : List Cond} {cls : List vw_C} {acl : Nat → Nat} {fty : Nat → List FieldType} {nM : Nat} {yn : Nat → MethodName} {strs : List (Nat × String × Nat × String)} {lens : List Nat} {byt : List (List Int32)}
variable {mx : Nat → Nat} {bt : Nat → ByteArray}
variable {B : Nat} {sp : Nat → Value} {sp0 : Nat → Option xC} {D : va_G} {aC : Nat → ClassId} {adK adV : Nat → Nat} {b L : Nat} {sc : Nat → Int32}
variable {p : Program} {l : Launch} {e : Env} {R : Room} {s : State} {mid : MethodId} {args : Array Value} {below : List Frame} {meth : Method} {c : Code} {H : Heap} {locs : List Loc} {cells slots : Nat} {Q : State → Prop}
theorem sx_step {j pc len : Nat} {raw : Instr} {i : Instr} (haw : ∀ ty ∈ [FieldType.int, .byte, .long, .boolean], Cond.arrayClass ty ∈ gt) {ls st ls' st' : List Value} {m m' : xM} {pc' : Nat} {lsA : Array Slot} (hsp : xSp strs lens byt B sp adK adV b L sc sp0) (hcl : xCl gt cls fty) (C0 : xAct gt mx bt yn j p s mid args meth c) (hE : xE cls acl nst strs lens byt B sp D aC adK adV b L sc s s.heap) (hB : B ≤ s.heap.size) (hd : decode (bt j) pc = .ok (raw, len)) (hk : xlk gt nst cls acl nM yn strs j pc len raw (i)) (h : xs fty acl (i) (pc + len) ls st m = some (pc', ls', st', m')) (hH : xH cls B sp sp0 D aC s m H locs) (hL : xLs B sp lsA (mx j) ls) (hc : cells + (m'.1 - m.1) ≤ R.cells) (hs : slots + (m'.2.1 - m.2.1) ≤ R.slots)
    (kk : ∀ (H' : Heap) (locs' : List Loc) (lsA' : Array Slot), xH cls B sp sp0 D aC s m' H' locs' → xLs B sp lsA' (mx j) ls' → W p l e R s mid args below meth c H' locs' (cells + (m'.1 - m.1)) (slots + (m'.2.1 - m.2.1)) Q (F0 mid pc' lsA' (st'.map (cv B sp)))) : W p l e R s mid args below meth c H locs cells slots Q (F0 mid pc lsA (st.map (cv B sp))) := by
  cases i
  case iadd => exact sx_iadd hsp hcl C0 hE hB hd hk h hH hL hc hs kk
  case isub => exact sx_isub hsp hcl C0 hE hB hd hk h hH hL hc hs kk
  case imul => exact sx_imul hsp hcl C0 hE hB hd hk h hH hL hc hs kk
  case iand => exact sx_iand hsp hcl C0 hE hB hd hk h hH hL hc hs kk
  case ior => exact sx_ior hsp hcl C0 hE hB hd hk h hH hL hc hs kk
  case ishl => exact sx_ishl hsp hcl C0 hE hB hd hk h hH hL hc hs kk
  case ishr => exact sx_ishr hsp hcl C0 hE hB hd hk h hH hL hc hs kk
  case iushr => exact sx_iushr hsp hcl C0 hE hB hd hk h hH hL hc hs kk
  case ladd => exact sx_ladd hsp hcl C0 hE hB hd hk h hH hL hc hs kk
  case lsub => exact sx_lsub hsp hcl C0 hE hB hd hk h hH hL hc hs kk
  case lmul => exact sx_lmul hsp hcl C0 hE hB hd hk h hH hL hc hs kk
  case land => exact sx_land hsp hcl C0 hE hB hd hk h hH hL hc hs kk
  case lor => exact sx_lor hsp hcl C0 hE hB hd hk h hH hL hc hs kk
  case lshl => exact sx_lshl hsp hcl C0 hE hB hd hk h hH hL hc hs kk
  case lcmp => exact sx_lcmp hsp hcl C0 hE hB hd hk h hH hL hc hs kk
  case i2l => exact sx_i2l hsp hcl C0 hE hB hd hk h hH hL hc hs kk
  case l2i => exact sx_l2i hsp hcl C0 hE hB hd hk h hH hL hc hs kk
  case i2b => exact sx_i2b hsp hcl C0 hE hB hd hk h hH hL hc hs kk
  case i2c => exact sx_i2c hsp hcl C0 hE hB hd hk h hH hL hc hs kk
  case idiv => exact sx_idiv hsp hcl C0 hE hB hd hk h hH hL hc hs kk
  case irem => exact sx_irem hsp hcl C0 hE hB hd hk h hH hL hc hs kk
  case ldiv => exact sx_ldiv hsp hcl C0 hE hB hd hk h hH hL hc hs kk
  case lrem => exact sx_lrem hsp hcl C0 hE hB hd hk h hH hL hc hs kk
  case dup => exact sx_dup hsp hcl C0 hE hB hd hk h hH hL hc hs kk
  case pop => exact sx_pop hsp hcl C0 hE hB hd hk h hH hL hc hs kk
  case dup2 => exact sx_dup2 hsp hcl C0 hE hB hd hk h hH hL hc hs kk
  case aconst_null => exact sx_aconst_null hsp hcl C0 hE hB hd hk h hH hL hc hs kk
  case iconst => exact sx_iconst hsp hcl C0 hE hB hd hk h hH hL hc hs kk
  case ldc2_w => exact sx_ldc2_w hsp hcl C0 hE hB hd hk h hH hL hc hs kk
  case iload => exact sx_iload hsp hcl C0 hE hB hd hk h hH hL hc hs kk
  case lload => exact sx_lload hsp hcl C0 hE hB hd hk h hH hL hc hs kk
  case aload => exact sx_aload hsp hcl C0 hE hB hd hk h hH hL hc hs kk
  case istore => exact sx_istore hsp hcl C0 hE hB hd hk h hH hL hc hs kk
  case lstore => exact sx_lstore hsp hcl C0 hE hB hd hk h hH hL hc hs kk
  case astore => exact sx_astore hsp hcl C0 hE hB hd hk h hH hL hc hs kk
  case iinc => exact sx_iinc hsp hcl C0 hE hB hd hk h hH hL hc hs kk
  case goto => exact sx_goto hsp hcl C0 hE hB hd hk h hH hL hc hs kk
  case ifCond => exact sx_ifCond hsp hcl C0 hE hB hd hk h hH hL hc hs kk
  case if_icmp => exact sx_if_icmp hsp hcl C0 hE hB hd hk h hH hL hc hs kk
  case ifnonnull => exact sx_ifnonnull hsp hcl C0 hE hB hd hk h hH hL hc hs kk
  case ifnull => exact sx_ifnull hsp hcl C0 hE hB hd hk h hH hL hc hs kk
  case tableswitch => exact sx_tableswitch hsp hcl C0 hE hB hd hk h hH hL hc hs kk
  case lookupswitch => exact sx_lookupswitch hsp hcl C0 hE hB hd hk h hH hL hc hs kk
  case ldc => exact sx_ldc hsp hcl C0 hE hB hd hk h hH hL hc hs kk
  case getstatic => exact sx_getstatic hsp hcl C0 hE hB hd hk h hH hL hc hs kk
  case getfield => exact sx_getfield hsp hcl C0 hE hB hd hk h hH hL hc hs kk
  case putfield => exact sx_putfield hsp hcl C0 hE hB hd hk h hH hL hc hs kk
  case iaload => exact sx_iaload hsp hcl C0 hE hB hd hk h hH hL hc hs kk
  case baload => exact sx_baload hsp hcl C0 hE hB hd hk h hH hL hc hs kk
  case laload => exact sx_laload hsp hcl C0 hE hB hd hk h hH hL hc hs kk
  case aaload => exact sx_aaload hsp hcl C0 hE hB hd hk h hH hL hc hs kk
  case arraylength => exact sx_arraylength hsp hcl C0 hE hB hd hk h hH hL hc hs kk
  case iastore => exact sx_iastore hsp hcl C0 hE hB hd hk h hH hL hc hs kk
  case bastore => exact sx_bastore hsp hcl C0 hE hB hd hk h hH hL hc hs kk
  case lastore => exact sx_lastore hsp hcl C0 hE hB hd hk h hH hL hc hs kk
  case aastore => exact sx_aastore hsp hcl C0 hE hB hd hk h hH hL hc hs kk
  case new => exact sx_new hsp hcl C0 hE hB hd hk h hH hL hc hs kk
  case newarray => exact sx_newarray haw hsp hcl C0 hE hB hd hk h hH hL hc hs kk
  case anewarray => exact sx_anewarray hsp hcl C0 hE hB hd hk h hH hL hc hs kk
  case checkcast => exact sx_checkcast hsp hcl C0 hE hB hd hk h hH hL hc hs kk
  all_goals (exact absurd h (by simp [xs]))
theorem xs_mono {i : Instr} {pc pc' : Nat} {ls st ls' st' : List Value} {m m' : xM} (h : xs fty acl i pc ls st m = some (pc', ls', st', m')) : m.1 ≤ m'.1 ∧ m.2.1 ≤ m'.2.1 := by
  cases i <;> simp only [xs, x_bin, x_binL, x_getf, x_putf, x_iald, x_bald, x_lald, x_aald, x_iast, x_bast, x_last, x_aast, x_alen, x_new, x_newa, x_anew, x_cast, reduceCtorEq] at h
  all_goals (repeat' (first | (cases h; done) | (split at h)))
  all_goals (first | (cases h; exact ⟨Nat.le_refl _, Nat.le_refl _⟩) | (cases h; simp only [xset, xnew]; omega))
theorem x_copy_mono {pc pc' : Nat} {ls st ls' st' : List Value} {m m' : xM} (h : x_copy pc ls st m = some (pc', ls', st', m')) : m.1 = m'.1 ∧ m.2.1 = m'.2.1 ∧ pc' = pc ∧ ls' = ls := by
  simp only [x_copy] at h
  repeat' (first | (cases h; done) | (split at h))
  all_goals (cases h; exact ⟨rfl, rfl, rfl, rfl⟩)
theorem x_clone_mono {pc pc' : Nat} {ls st ls' st' : List Value} {m m' : xM} (h : x_clone pc ls st m = some (pc', ls', st', m')) : m.1 ≤ m'.1 ∧ m.2.1 ≤ m'.2.1 := by
  simp only [x_clone] at h
  repeat' (first | (cases h; done) | (split at h))
  all_goals (cases h; simp only [xnew]; omega)
end XO

