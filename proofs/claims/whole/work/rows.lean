section
-- ===== PART A: goes FIRST, ahead of the names: the tables' words, and 'selects' of the private methods out of them =====
/-- a private method of a class that the tables say can be made, by its rows of tables_1 -/
def lw_okq (q : MethodName × Nat) : Prop := (q.1.cls ≠ "java/lang/invoke/MethodHandle" ∧ q.1.cls ≠ "java/lang/invoke/VarHandle") ∧ Cond.instantiable q.1.cls q.2 ∈ tables_1 ∧ Cond.privateMethod q.1 ∈ tables_1 ∧ Cond.instanceMethod q.1 ∈ tables_1
theorem lw_p0 : lw_okq (⟨"OneBoots$Lane", "clear", "()V"⟩, 13) := ⟨⟨by decide +kernel, by decide +kernel⟩, List.mem_of_getElem? (i := 147) (by decide +kernel), List.mem_of_getElem? (i := 368) (by decide +kernel), List.mem_of_getElem? (i := 369) (by decide +kernel)⟩
theorem lw_p1 : lw_okq (⟨"OneBoots$Tape", "runEnd", "(ICC)I"⟩, 7) := ⟨⟨by decide +kernel, by decide +kernel⟩, List.mem_of_getElem? (i := 32) (by decide +kernel), List.mem_of_getElem? (i := 383) (by decide +kernel), List.mem_of_getElem? (i := 384) (by decide +kernel)⟩
theorem lw_p2 : lw_okq (⟨"OneBoots$Tape", "isPart", "(Ljava/lang/String;II)Z"⟩, 7) := ⟨⟨by decide +kernel, by decide +kernel⟩, List.mem_of_getElem? (i := 32) (by decide +kernel), List.mem_of_getElem? (i := 440) (by decide +kernel), List.mem_of_getElem? (i := 441) (by decide +kernel)⟩
theorem lw_p3 : lw_okq (⟨"OneBoots$Lane", "mayStand", "(IZ)Z"⟩, 13) := ⟨⟨by decide +kernel, by decide +kernel⟩, List.mem_of_getElem? (i := 147) (by decide +kernel), List.mem_of_getElem? (i := 448) (by decide +kernel), List.mem_of_getElem? (i := 449) (by decide +kernel)⟩
theorem lw_p4 : lw_okq (⟨"OneBoots$Lane", "readClause", "(LOneBoots$Tape;I)Z"⟩, 13) := ⟨⟨by decide +kernel, by decide +kernel⟩, List.mem_of_getElem? (i := 147) (by decide +kernel), List.mem_of_getElem? (i := 453) (by decide +kernel), List.mem_of_getElem? (i := 454) (by decide +kernel)⟩
theorem lw_p5 : lw_okq (⟨"OneBoots$Lane", "readLane", "(LOneBoots$Tape;)Z"⟩, 13) := ⟨⟨by decide +kernel, by decide +kernel⟩, List.mem_of_getElem? (i := 147) (by decide +kernel), List.mem_of_getElem? (i := 457) (by decide +kernel), List.mem_of_getElem? (i := 458) (by decide +kernel)⟩
theorem lw_p6 : lw_okq (⟨"OneBoots$Lane", "number", "(LOneBoots$Tape;III)Z"⟩, 13) := ⟨⟨by decide +kernel, by decide +kernel⟩, List.mem_of_getElem? (i := 147) (by decide +kernel), List.mem_of_getElem? (i := 461) (by decide +kernel), List.mem_of_getElem? (i := 462) (by decide +kernel)⟩
theorem lw_p7 : lw_okq (⟨"OneBoots$Lane", "readBrother", "(LOneBoots$Tape;)Z"⟩, 13) := ⟨⟨by decide +kernel, by decide +kernel⟩, List.mem_of_getElem? (i := 147) (by decide +kernel), List.mem_of_getElem? (i := 469) (by decide +kernel), List.mem_of_getElem? (i := 470) (by decide +kernel)⟩
theorem lw_p8 : lw_okq (⟨"OneBoots$Lane", "readWet", "(LOneBoots$Tape;)Z"⟩, 13) := ⟨⟨by decide +kernel, by decide +kernel⟩, List.mem_of_getElem? (i := 147) (by decide +kernel), List.mem_of_getElem? (i := 473) (by decide +kernel), List.mem_of_getElem? (i := 474) (by decide +kernel)⟩
theorem lw_p9 : lw_okq (⟨"OneBoots$Lane", "readFrost", "(LOneBoots$Tape;)Z"⟩, 13) := ⟨⟨by decide +kernel, by decide +kernel⟩, List.mem_of_getElem? (i := 147) (by decide +kernel), List.mem_of_getElem? (i := 477) (by decide +kernel), List.mem_of_getElem? (i := 478) (by decide +kernel)⟩
theorem lw_p10 : lw_okq (⟨"OneBoots$Lane", "readWant", "(LOneBoots$Tape;)Z"⟩, 13) := ⟨⟨by decide +kernel, by decide +kernel⟩, List.mem_of_getElem? (i := 147) (by decide +kernel), List.mem_of_getElem? (i := 481) (by decide +kernel), List.mem_of_getElem? (i := 482) (by decide +kernel)⟩
theorem lw_p11 : lw_okq (⟨"OneBoots$Lane", "fillUntold", "()V"⟩, 13) := ⟨⟨by decide +kernel, by decide +kernel⟩, List.mem_of_getElem? (i := 147) (by decide +kernel), List.mem_of_getElem? (i := 492) (by decide +kernel), List.mem_of_getElem? (i := 493) (by decide +kernel)⟩
theorem lw_p12 : lw_okq (⟨"OneBoots$RuleReader", "sum", "(LOneBoots$Tape;)Z"⟩, 5) := ⟨⟨by decide +kernel, by decide +kernel⟩, List.mem_of_getElem? (i := 67) (by decide +kernel), List.mem_of_getElem? (i := 519) (by decide +kernel), List.mem_of_getElem? (i := 520) (by decide +kernel)⟩
theorem lw_p13 : lw_okq (⟨"OneBoots$RuleReader", "value", "(LOneBoots$Tape;)Z"⟩, 5) := ⟨⟨by decide +kernel, by decide +kernel⟩, List.mem_of_getElem? (i := 67) (by decide +kernel), List.mem_of_getElem? (i := 523) (by decide +kernel), List.mem_of_getElem? (i := 524) (by decide +kernel)⟩
theorem lw_p14 : lw_okq (⟨"OneBoots$RuleReader", "oneMorePart", "(LOneBoots$Tape;)Z"⟩, 5) := ⟨⟨by decide +kernel, by decide +kernel⟩, List.mem_of_getElem? (i := 67) (by decide +kernel), List.mem_of_getElem? (i := 529) (by decide +kernel), List.mem_of_getElem? (i := 530) (by decide +kernel)⟩
theorem lw_p15 : lw_okq (⟨"OneBoots$RuleReader", "put", "(I)V"⟩, 5) := ⟨⟨by decide +kernel, by decide +kernel⟩, List.mem_of_getElem? (i := 67) (by decide +kernel), List.mem_of_getElem? (i := 533) (by decide +kernel), List.mem_of_getElem? (i := 534) (by decide +kernel)⟩
def lw_privs_1 : List (MethodName × Nat) := [(⟨"OneBoots$Lane", "clear", "()V"⟩, 13), (⟨"OneBoots$Tape", "runEnd", "(ICC)I"⟩, 7), (⟨"OneBoots$Tape", "isPart", "(Ljava/lang/String;II)Z"⟩, 7), (⟨"OneBoots$Lane", "mayStand", "(IZ)Z"⟩, 13), (⟨"OneBoots$Lane", "readClause", "(LOneBoots$Tape;I)Z"⟩, 13), (⟨"OneBoots$Lane", "readLane", "(LOneBoots$Tape;)Z"⟩, 13), (⟨"OneBoots$Lane", "number", "(LOneBoots$Tape;III)Z"⟩, 13), (⟨"OneBoots$Lane", "readBrother", "(LOneBoots$Tape;)Z"⟩, 13), (⟨"OneBoots$Lane", "readWet", "(LOneBoots$Tape;)Z"⟩, 13), (⟨"OneBoots$Lane", "readFrost", "(LOneBoots$Tape;)Z"⟩, 13), (⟨"OneBoots$Lane", "readWant", "(LOneBoots$Tape;)Z"⟩, 13), (⟨"OneBoots$Lane", "fillUntold", "()V"⟩, 13), (⟨"OneBoots$RuleReader", "sum", "(LOneBoots$Tape;)Z"⟩, 5), (⟨"OneBoots$RuleReader", "value", "(LOneBoots$Tape;)Z"⟩, 5), (⟨"OneBoots$RuleReader", "oneMorePart", "(LOneBoots$Tape;)Z"⟩, 5), (⟨"OneBoots$RuleReader", "put", "(I)V"⟩, 5)]
theorem lw_r1 : ∀ q ∈ lw_privs_1, lw_okq q := List.forall_mem_cons.mpr ⟨lw_p0, List.forall_mem_cons.mpr ⟨lw_p1, List.forall_mem_cons.mpr ⟨lw_p2, List.forall_mem_cons.mpr ⟨lw_p3, List.forall_mem_cons.mpr ⟨lw_p4, List.forall_mem_cons.mpr ⟨lw_p5, List.forall_mem_cons.mpr ⟨lw_p6, List.forall_mem_cons.mpr ⟨lw_p7, List.forall_mem_cons.mpr ⟨lw_p8, List.forall_mem_cons.mpr ⟨lw_p9, List.forall_mem_cons.mpr ⟨lw_p10, List.forall_mem_cons.mpr ⟨lw_p11, List.forall_mem_cons.mpr ⟨lw_p12, List.forall_mem_cons.mpr ⟨lw_p13, List.forall_mem_cons.mpr ⟨lw_p14, List.forall_mem_cons.mpr ⟨lw_p15, fun _ h => absurd h List.not_mem_nil⟩⟩⟩⟩⟩⟩⟩⟩⟩⟩⟩⟩⟩⟩⟩⟩
theorem lw_p16 : lw_okq (⟨"OneBoots$RuleReader", "test", "(LOneBoots$Tape;I)Z"⟩, 5) := ⟨⟨by decide +kernel, by decide +kernel⟩, List.mem_of_getElem? (i := 67) (by decide +kernel), List.mem_of_getElem? (i := 541) (by decide +kernel), List.mem_of_getElem? (i := 542) (by decide +kernel)⟩
theorem lw_p17 : lw_okq (⟨"OneBoots$RuleReader", "fact", "(LOneBoots$Tape;I)Z"⟩, 5) := ⟨⟨by decide +kernel, by decide +kernel⟩, List.mem_of_getElem? (i := 67) (by decide +kernel), List.mem_of_getElem? (i := 545) (by decide +kernel), List.mem_of_getElem? (i := 546) (by decide +kernel)⟩
theorem lw_p18 : lw_okq (⟨"OneBoots$RuleReader", "inner", "(LOneBoots$Tape;IZ)Z"⟩, 5) := ⟨⟨by decide +kernel, by decide +kernel⟩, List.mem_of_getElem? (i := 67) (by decide +kernel), List.mem_of_getElem? (i := 551) (by decide +kernel), List.mem_of_getElem? (i := 552) (by decide +kernel)⟩
theorem lw_p19 : lw_okq (⟨"OneBoots", "isBrother", "(I)Z"⟩, 15) := ⟨⟨by decide +kernel, by decide +kernel⟩, List.mem_of_getElem? (i := 24) (by decide +kernel), List.mem_of_getElem? (i := 598) (by decide +kernel), List.mem_of_getElem? (i := 599) (by decide +kernel)⟩
theorem lw_p20 : lw_okq (⟨"OneBoots", "isBoot", "(I)Z"⟩, 15) := ⟨⟨by decide +kernel, by decide +kernel⟩, List.mem_of_getElem? (i := 24) (by decide +kernel), List.mem_of_getElem? (i := 618) (by decide +kernel), List.mem_of_getElem? (i := 619) (by decide +kernel)⟩
theorem lw_p21 : lw_okq (⟨"OneBoots", "hasLane", "()Z"⟩, 15) := ⟨⟨by decide +kernel, by decide +kernel⟩, List.mem_of_getElem? (i := 24) (by decide +kernel), List.mem_of_getElem? (i := 622) (by decide +kernel), List.mem_of_getElem? (i := 623) (by decide +kernel)⟩
theorem lw_p22 : lw_okq (⟨"OneBoots", "isPlace", "(I)Z"⟩, 15) := ⟨⟨by decide +kernel, by decide +kernel⟩, List.mem_of_getElem? (i := 24) (by decide +kernel), List.mem_of_getElem? (i := 634) (by decide +kernel), List.mem_of_getElem? (i := 635) (by decide +kernel)⟩
theorem lw_p23 : lw_okq (⟨"OneBoots", "readyHours", "()LOneBoots$Hours;"⟩, 15) := ⟨⟨by decide +kernel, by decide +kernel⟩, List.mem_of_getElem? (i := 24) (by decide +kernel), List.mem_of_getElem? (i := 648) (by decide +kernel), List.mem_of_getElem? (i := 649) (by decide +kernel)⟩
theorem lw_p24 : lw_okq (⟨"OneBoots$Hours", "pay", "(LOneBoots$World;)I"⟩, 6) := ⟨⟨by decide +kernel, by decide +kernel⟩, List.mem_of_getElem? (i := 141) (by decide +kernel), List.mem_of_getElem? (i := 660) (by decide +kernel), List.mem_of_getElem? (i := 661) (by decide +kernel)⟩
theorem lw_p25 : lw_okq (⟨"OneBoots$Hours", "walk", "(LOneBoots$World;IZ)V"⟩, 6) := ⟨⟨by decide +kernel, by decide +kernel⟩, List.mem_of_getElem? (i := 141) (by decide +kernel), List.mem_of_getElem? (i := 664) (by decide +kernel), List.mem_of_getElem? (i := 665) (by decide +kernel)⟩
theorem lw_p26 : lw_okq (⟨"OneBoots$Hours", "fillWords", "(LOneBoots$World;IZ)V"⟩, 6) := ⟨⟨by decide +kernel, by decide +kernel⟩, List.mem_of_getElem? (i := 141) (by decide +kernel), List.mem_of_getElem? (i := 672) (by decide +kernel), List.mem_of_getElem? (i := 673) (by decide +kernel)⟩
theorem lw_p27 : lw_okq (⟨"OneBoots$Rule", "run", "(II[J[J)J"⟩, 2) := ⟨⟨by decide +kernel, by decide +kernel⟩, List.mem_of_getElem? (i := 563) (by decide +kernel), List.mem_of_getElem? (i := 689) (by decide +kernel), List.mem_of_getElem? (i := 690) (by decide +kernel)⟩
theorem lw_p28 : lw_okq (⟨"OneBoots$Hours", "chill", "(LOneBoots$World;IZ)V"⟩, 6) := ⟨⟨by decide +kernel, by decide +kernel⟩, List.mem_of_getElem? (i := 141) (by decide +kernel), List.mem_of_getElem? (i := 700) (by decide +kernel), List.mem_of_getElem? (i := 701) (by decide +kernel)⟩
theorem lw_p29 : lw_okq (⟨"OneBoots$Hours", "bareFeet", "(LOneBoots$World;I)I"⟩, 6) := ⟨⟨by decide +kernel, by decide +kernel⟩, List.mem_of_getElem? (i := 141) (by decide +kernel), List.mem_of_getElem? (i := 707) (by decide +kernel), List.mem_of_getElem? (i := 708) (by decide +kernel)⟩
theorem lw_p30 : lw_okq (⟨"OneBoots$Hours", "turn", "(LOneBoots$World;)V"⟩, 6) := ⟨⟨by decide +kernel, by decide +kernel⟩, List.mem_of_getElem? (i := 141) (by decide +kernel), List.mem_of_getElem? (i := 711) (by decide +kernel), List.mem_of_getElem? (i := 712) (by decide +kernel)⟩
theorem lw_p31 : lw_okq (⟨"OneBoots$World", "sumOf", "(I)I"⟩, 1) := ⟨⟨by decide +kernel, by decide +kernel⟩, List.mem_of_getElem? (i := 94) (by decide +kernel), List.mem_of_getElem? (i := 735) (by decide +kernel), List.mem_of_getElem? (i := 736) (by decide +kernel)⟩
def lw_privs_2 : List (MethodName × Nat) := [(⟨"OneBoots$RuleReader", "test", "(LOneBoots$Tape;I)Z"⟩, 5), (⟨"OneBoots$RuleReader", "fact", "(LOneBoots$Tape;I)Z"⟩, 5), (⟨"OneBoots$RuleReader", "inner", "(LOneBoots$Tape;IZ)Z"⟩, 5), (⟨"OneBoots", "isBrother", "(I)Z"⟩, 15), (⟨"OneBoots", "isBoot", "(I)Z"⟩, 15), (⟨"OneBoots", "hasLane", "()Z"⟩, 15), (⟨"OneBoots", "isPlace", "(I)Z"⟩, 15), (⟨"OneBoots", "readyHours", "()LOneBoots$Hours;"⟩, 15), (⟨"OneBoots$Hours", "pay", "(LOneBoots$World;)I"⟩, 6), (⟨"OneBoots$Hours", "walk", "(LOneBoots$World;IZ)V"⟩, 6), (⟨"OneBoots$Hours", "fillWords", "(LOneBoots$World;IZ)V"⟩, 6), (⟨"OneBoots$Rule", "run", "(II[J[J)J"⟩, 2), (⟨"OneBoots$Hours", "chill", "(LOneBoots$World;IZ)V"⟩, 6), (⟨"OneBoots$Hours", "bareFeet", "(LOneBoots$World;I)I"⟩, 6), (⟨"OneBoots$Hours", "turn", "(LOneBoots$World;)V"⟩, 6), (⟨"OneBoots$World", "sumOf", "(I)I"⟩, 1)]
theorem lw_r2 : ∀ q ∈ lw_privs_2, lw_okq q := List.forall_mem_cons.mpr ⟨lw_p16, List.forall_mem_cons.mpr ⟨lw_p17, List.forall_mem_cons.mpr ⟨lw_p18, List.forall_mem_cons.mpr ⟨lw_p19, List.forall_mem_cons.mpr ⟨lw_p20, List.forall_mem_cons.mpr ⟨lw_p21, List.forall_mem_cons.mpr ⟨lw_p22, List.forall_mem_cons.mpr ⟨lw_p23, List.forall_mem_cons.mpr ⟨lw_p24, List.forall_mem_cons.mpr ⟨lw_p25, List.forall_mem_cons.mpr ⟨lw_p26, List.forall_mem_cons.mpr ⟨lw_p27, List.forall_mem_cons.mpr ⟨lw_p28, List.forall_mem_cons.mpr ⟨lw_p29, List.forall_mem_cons.mpr ⟨lw_p30, List.forall_mem_cons.mpr ⟨lw_p31, fun _ h => absurd h List.not_mem_nil⟩⟩⟩⟩⟩⟩⟩⟩⟩⟩⟩⟩⟩⟩⟩⟩
theorem lw_p32 : lw_okq (⟨"OneBoots$Trials", "earn", "(LOneBoots$Hours;I)I"⟩, 5) := ⟨⟨by decide +kernel, by decide +kernel⟩, List.mem_of_getElem? (i := 244) (by decide +kernel), List.mem_of_getElem? (i := 759) (by decide +kernel), List.mem_of_getElem? (i := 760) (by decide +kernel)⟩
theorem lw_p33 : lw_okq (⟨"OneBoots$Trials", "tryLent", "(LOneBoots$World;I)V"⟩, 5) := ⟨⟨by decide +kernel, by decide +kernel⟩, List.mem_of_getElem? (i := 244) (by decide +kernel), List.mem_of_getElem? (i := 775) (by decide +kernel), List.mem_of_getElem? (i := 776) (by decide +kernel)⟩
theorem lw_p34 : lw_okq (⟨"OneBoots$Relays", "search", "(LOneBoots$Hours;III)V"⟩, 6) := ⟨⟨by decide +kernel, by decide +kernel⟩, List.mem_of_getElem? (i := 270) (by decide +kernel), List.mem_of_getElem? (i := 807) (by decide +kernel), List.mem_of_getElem? (i := 808) (by decide +kernel)⟩
theorem lw_p35 : lw_okq (⟨"OneBoots$Relays", "judge", "(II)V"⟩, 6) := ⟨⟨by decide +kernel, by decide +kernel⟩, List.mem_of_getElem? (i := 270) (by decide +kernel), List.mem_of_getElem? (i := 815) (by decide +kernel), List.mem_of_getElem? (i := 816) (by decide +kernel)⟩
theorem lw_p36 : lw_okq (⟨"OneBoots$Trials", "agrees", "(LOneBoots$Hours;LOneBoots$Prints;I)Z"⟩, 5) := ⟨⟨by decide +kernel, by decide +kernel⟩, List.mem_of_getElem? (i := 244) (by decide +kernel), List.mem_of_getElem? (i := 845) (by decide +kernel), List.mem_of_getElem? (i := 846) (by decide +kernel)⟩
theorem lw_p37 : lw_okq (⟨"OneBoots$Trials", "see", "(LOneBoots$Lane;)V"⟩, 5) := ⟨⟨by decide +kernel, by decide +kernel⟩, List.mem_of_getElem? (i := 244) (by decide +kernel), List.mem_of_getElem? (i := 871) (by decide +kernel), List.mem_of_getElem? (i := 872) (by decide +kernel)⟩
theorem lw_p38 : lw_okq (⟨"OneBoots$Trials", "costUntilCobbled", "(IIIIIII)I"⟩, 5) := ⟨⟨by decide +kernel, by decide +kernel⟩, List.mem_of_getElem? (i := 244) (by decide +kernel), List.mem_of_getElem? (i := 888) (by decide +kernel), List.mem_of_getElem? (i := 889) (by decide +kernel)⟩
theorem lw_p39 : lw_okq (⟨"OneBootsModel", "four", "(I)V"⟩, 40) := ⟨⟨by decide +kernel, by decide +kernel⟩, List.mem_of_getElem? (i := 967) (by decide +kernel), List.mem_of_getElem? (i := 1099) (by decide +kernel), List.mem_of_getElem? (i := 1100) (by decide +kernel)⟩
theorem lw_p40 : lw_okq (⟨"OneBootsModel", "readsAll", "()Z"⟩, 40) := ⟨⟨by decide +kernel, by decide +kernel⟩, List.mem_of_getElem? (i := 967) (by decide +kernel), List.mem_of_getElem? (i := 1111) (by decide +kernel), List.mem_of_getElem? (i := 1112) (by decide +kernel)⟩
theorem lw_p41 : lw_okq (⟨"OneBootsModel", "clauseHere", "()Z"⟩, 40) := ⟨⟨by decide +kernel, by decide +kernel⟩, List.mem_of_getElem? (i := 967) (by decide +kernel), List.mem_of_getElem? (i := 1115) (by decide +kernel), List.mem_of_getElem? (i := 1116) (by decide +kernel)⟩
theorem lw_p42 : lw_okq (⟨"OneBootsModel", "see", "()I"⟩, 40) := ⟨⟨by decide +kernel, by decide +kernel⟩, List.mem_of_getElem? (i := 967) (by decide +kernel), List.mem_of_getElem? (i := 1119) (by decide +kernel), List.mem_of_getElem? (i := 1120) (by decide +kernel)⟩
theorem lw_p43 : lw_okq (⟨"OneBootsModel", "isLaneWord", "()Z"⟩, 40) := ⟨⟨by decide +kernel, by decide +kernel⟩, List.mem_of_getElem? (i := 967) (by decide +kernel), List.mem_of_getElem? (i := 1123) (by decide +kernel), List.mem_of_getElem? (i := 1124) (by decide +kernel)⟩
theorem lw_p44 : lw_okq (⟨"OneBootsModel", "isWord", "(J)Z"⟩, 40) := ⟨⟨by decide +kernel, by decide +kernel⟩, List.mem_of_getElem? (i := 967) (by decide +kernel), List.mem_of_getElem? (i := 1128) (by decide +kernel), List.mem_of_getElem? (i := 1129) (by decide +kernel)⟩
theorem lw_p45 : lw_okq (⟨"OneBootsModel", "isLetter", "(I)Z"⟩, 40) := ⟨⟨by decide +kernel, by decide +kernel⟩, List.mem_of_getElem? (i := 967) (by decide +kernel), List.mem_of_getElem? (i := 1132) (by decide +kernel), List.mem_of_getElem? (i := 1133) (by decide +kernel)⟩
theorem lw_p46 : lw_okq (⟨"OneBootsModel", "fails", "(II)Z"⟩, 40) := ⟨⟨by decide +kernel, by decide +kernel⟩, List.mem_of_getElem? (i := 967) (by decide +kernel), List.mem_of_getElem? (i := 1143) (by decide +kernel), List.mem_of_getElem? (i := 1144) (by decide +kernel)⟩
theorem lw_p47 : lw_okq (⟨"OneBootsModel", "laneLineHere", "(I)Z"⟩, 40) := ⟨⟨by decide +kernel, by decide +kernel⟩, List.mem_of_getElem? (i := 967) (by decide +kernel), List.mem_of_getElem? (i := 1147) (by decide +kernel), List.mem_of_getElem? (i := 1148) (by decide +kernel)⟩
def lw_privs_3 : List (MethodName × Nat) := [(⟨"OneBoots$Trials", "earn", "(LOneBoots$Hours;I)I"⟩, 5), (⟨"OneBoots$Trials", "tryLent", "(LOneBoots$World;I)V"⟩, 5), (⟨"OneBoots$Relays", "search", "(LOneBoots$Hours;III)V"⟩, 6), (⟨"OneBoots$Relays", "judge", "(II)V"⟩, 6), (⟨"OneBoots$Trials", "agrees", "(LOneBoots$Hours;LOneBoots$Prints;I)Z"⟩, 5), (⟨"OneBoots$Trials", "see", "(LOneBoots$Lane;)V"⟩, 5), (⟨"OneBoots$Trials", "costUntilCobbled", "(IIIIIII)I"⟩, 5), (⟨"OneBootsModel", "four", "(I)V"⟩, 40), (⟨"OneBootsModel", "readsAll", "()Z"⟩, 40), (⟨"OneBootsModel", "clauseHere", "()Z"⟩, 40), (⟨"OneBootsModel", "see", "()I"⟩, 40), (⟨"OneBootsModel", "isLaneWord", "()Z"⟩, 40), (⟨"OneBootsModel", "isWord", "(J)Z"⟩, 40), (⟨"OneBootsModel", "isLetter", "(I)Z"⟩, 40), (⟨"OneBootsModel", "fails", "(II)Z"⟩, 40), (⟨"OneBootsModel", "laneLineHere", "(I)Z"⟩, 40)]
theorem lw_r3 : ∀ q ∈ lw_privs_3, lw_okq q := List.forall_mem_cons.mpr ⟨lw_p32, List.forall_mem_cons.mpr ⟨lw_p33, List.forall_mem_cons.mpr ⟨lw_p34, List.forall_mem_cons.mpr ⟨lw_p35, List.forall_mem_cons.mpr ⟨lw_p36, List.forall_mem_cons.mpr ⟨lw_p37, List.forall_mem_cons.mpr ⟨lw_p38, List.forall_mem_cons.mpr ⟨lw_p39, List.forall_mem_cons.mpr ⟨lw_p40, List.forall_mem_cons.mpr ⟨lw_p41, List.forall_mem_cons.mpr ⟨lw_p42, List.forall_mem_cons.mpr ⟨lw_p43, List.forall_mem_cons.mpr ⟨lw_p44, List.forall_mem_cons.mpr ⟨lw_p45, List.forall_mem_cons.mpr ⟨lw_p46, List.forall_mem_cons.mpr ⟨lw_p47, fun _ h => absurd h List.not_mem_nil⟩⟩⟩⟩⟩⟩⟩⟩⟩⟩⟩⟩⟩⟩⟩⟩
theorem lw_p48 : lw_okq (⟨"OneBootsModel", "isLaneHere", "(I)Z"⟩, 40) := ⟨⟨by decide +kernel, by decide +kernel⟩, List.mem_of_getElem? (i := 967) (by decide +kernel), List.mem_of_getElem? (i := 1151) (by decide +kernel), List.mem_of_getElem? (i := 1152) (by decide +kernel)⟩
theorem lw_p49 : lw_okq (⟨"OneBootsModel", "passWord", "()V"⟩, 40) := ⟨⟨by decide +kernel, by decide +kernel⟩, List.mem_of_getElem? (i := 967) (by decide +kernel), List.mem_of_getElem? (i := 1155) (by decide +kernel), List.mem_of_getElem? (i := 1156) (by decide +kernel)⟩
theorem lw_p50 : lw_okq (⟨"OneBootsModel", "cellHere", "(III)Z"⟩, 40) := ⟨⟨by decide +kernel, by decide +kernel⟩, List.mem_of_getElem? (i := 967) (by decide +kernel), List.mem_of_getElem? (i := 1159) (by decide +kernel), List.mem_of_getElem? (i := 1160) (by decide +kernel)⟩
theorem lw_p51 : lw_okq (⟨"OneBootsModel", "numberHere", "(II)Z"⟩, 40) := ⟨⟨by decide +kernel, by decide +kernel⟩, List.mem_of_getElem? (i := 967) (by decide +kernel), List.mem_of_getElem? (i := 1163) (by decide +kernel), List.mem_of_getElem? (i := 1164) (by decide +kernel)⟩
theorem lw_p52 : lw_okq (⟨"OneBootsModel", "isDigit", "(I)Z"⟩, 40) := ⟨⟨by decide +kernel, by decide +kernel⟩, List.mem_of_getElem? (i := 967) (by decide +kernel), List.mem_of_getElem? (i := 1167) (by decide +kernel), List.mem_of_getElem? (i := 1168) (by decide +kernel)⟩
theorem lw_p53 : lw_okq (⟨"OneBootsModel", "isBrotherHere", "(I)Z"⟩, 40) := ⟨⟨by decide +kernel, by decide +kernel⟩, List.mem_of_getElem? (i := 967) (by decide +kernel), List.mem_of_getElem? (i := 1174) (by decide +kernel), List.mem_of_getElem? (i := 1175) (by decide +kernel)⟩
theorem lw_p54 : lw_okq (⟨"OneBootsModel", "isWetHere", "()Z"⟩, 40) := ⟨⟨by decide +kernel, by decide +kernel⟩, List.mem_of_getElem? (i := 967) (by decide +kernel), List.mem_of_getElem? (i := 1178) (by decide +kernel), List.mem_of_getElem? (i := 1179) (by decide +kernel)⟩
theorem lw_p55 : lw_okq (⟨"OneBootsModel", "isFrostHere", "(I)Z"⟩, 40) := ⟨⟨by decide +kernel, by decide +kernel⟩, List.mem_of_getElem? (i := 967) (by decide +kernel), List.mem_of_getElem? (i := 1182) (by decide +kernel), List.mem_of_getElem? (i := 1183) (by decide +kernel)⟩
theorem lw_p56 : lw_okq (⟨"OneBootsModel", "isWantHere", "(I)Z"⟩, 40) := ⟨⟨by decide +kernel, by decide +kernel⟩, List.mem_of_getElem? (i := 967) (by decide +kernel), List.mem_of_getElem? (i := 1186) (by decide +kernel), List.mem_of_getElem? (i := 1187) (by decide +kernel)⟩
theorem lw_p57 : lw_okq (⟨"OneBootsModel", "isSoleHere", "(I)Z"⟩, 40) := ⟨⟨by decide +kernel, by decide +kernel⟩, List.mem_of_getElem? (i := 967) (by decide +kernel), List.mem_of_getElem? (i := 1190) (by decide +kernel), List.mem_of_getElem? (i := 1191) (by decide +kernel)⟩
theorem lw_p58 : lw_okq (⟨"OneBootsModel", "areBootsHere", "(I)Z"⟩, 40) := ⟨⟨by decide +kernel, by decide +kernel⟩, List.mem_of_getElem? (i := 967) (by decide +kernel), List.mem_of_getElem? (i := 1194) (by decide +kernel), List.mem_of_getElem? (i := 1195) (by decide +kernel)⟩
theorem lw_p59 : lw_okq (⟨"OneBootsModel", "isWalkHere", "()Z"⟩, 40) := ⟨⟨by decide +kernel, by decide +kernel⟩, List.mem_of_getElem? (i := 967) (by decide +kernel), List.mem_of_getElem? (i := 1198) (by decide +kernel), List.mem_of_getElem? (i := 1199) (by decide +kernel)⟩
theorem lw_p60 : lw_okq (⟨"OneBootsModel", "sum", "()Z"⟩, 40) := ⟨⟨by decide +kernel, by decide +kernel⟩, List.mem_of_getElem? (i := 967) (by decide +kernel), List.mem_of_getElem? (i := 1202) (by decide +kernel), List.mem_of_getElem? (i := 1203) (by decide +kernel)⟩
theorem lw_p61 : lw_okq (⟨"OneBootsModel", "term", "()Z"⟩, 40) := ⟨⟨by decide +kernel, by decide +kernel⟩, List.mem_of_getElem? (i := 967) (by decide +kernel), List.mem_of_getElem? (i := 1206) (by decide +kernel), List.mem_of_getElem? (i := 1207) (by decide +kernel)⟩
theorem lw_p62 : lw_okq (⟨"OneBootsModel", "value", "()Z"⟩, 40) := ⟨⟨by decide +kernel, by decide +kernel⟩, List.mem_of_getElem? (i := 967) (by decide +kernel), List.mem_of_getElem? (i := 1210) (by decide +kernel), List.mem_of_getElem? (i := 1211) (by decide +kernel)⟩
theorem lw_p63 : lw_okq (⟨"OneBootsModel", "makes", "(I)Z"⟩, 40) := ⟨⟨by decide +kernel, by decide +kernel⟩, List.mem_of_getElem? (i := 967) (by decide +kernel), List.mem_of_getElem? (i := 1215) (by decide +kernel), List.mem_of_getElem? (i := 1216) (by decide +kernel)⟩
def lw_privs_4 : List (MethodName × Nat) := [(⟨"OneBootsModel", "isLaneHere", "(I)Z"⟩, 40), (⟨"OneBootsModel", "passWord", "()V"⟩, 40), (⟨"OneBootsModel", "cellHere", "(III)Z"⟩, 40), (⟨"OneBootsModel", "numberHere", "(II)Z"⟩, 40), (⟨"OneBootsModel", "isDigit", "(I)Z"⟩, 40), (⟨"OneBootsModel", "isBrotherHere", "(I)Z"⟩, 40), (⟨"OneBootsModel", "isWetHere", "()Z"⟩, 40), (⟨"OneBootsModel", "isFrostHere", "(I)Z"⟩, 40), (⟨"OneBootsModel", "isWantHere", "(I)Z"⟩, 40), (⟨"OneBootsModel", "isSoleHere", "(I)Z"⟩, 40), (⟨"OneBootsModel", "areBootsHere", "(I)Z"⟩, 40), (⟨"OneBootsModel", "isWalkHere", "()Z"⟩, 40), (⟨"OneBootsModel", "sum", "()Z"⟩, 40), (⟨"OneBootsModel", "term", "()Z"⟩, 40), (⟨"OneBootsModel", "value", "()Z"⟩, 40), (⟨"OneBootsModel", "makes", "(I)Z"⟩, 40)]
theorem lw_r4 : ∀ q ∈ lw_privs_4, lw_okq q := List.forall_mem_cons.mpr ⟨lw_p48, List.forall_mem_cons.mpr ⟨lw_p49, List.forall_mem_cons.mpr ⟨lw_p50, List.forall_mem_cons.mpr ⟨lw_p51, List.forall_mem_cons.mpr ⟨lw_p52, List.forall_mem_cons.mpr ⟨lw_p53, List.forall_mem_cons.mpr ⟨lw_p54, List.forall_mem_cons.mpr ⟨lw_p55, List.forall_mem_cons.mpr ⟨lw_p56, List.forall_mem_cons.mpr ⟨lw_p57, List.forall_mem_cons.mpr ⟨lw_p58, List.forall_mem_cons.mpr ⟨lw_p59, List.forall_mem_cons.mpr ⟨lw_p60, List.forall_mem_cons.mpr ⟨lw_p61, List.forall_mem_cons.mpr ⟨lw_p62, List.forall_mem_cons.mpr ⟨lw_p63, fun _ h => absurd h List.not_mem_nil⟩⟩⟩⟩⟩⟩⟩⟩⟩⟩⟩⟩⟩⟩⟩⟩
theorem lw_p64 : lw_okq (⟨"OneBootsModel", "puts", "(II)V"⟩, 40) := ⟨⟨by decide +kernel, by decide +kernel⟩, List.mem_of_getElem? (i := 967) (by decide +kernel), List.mem_of_getElem? (i := 1219) (by decide +kernel), List.mem_of_getElem? (i := 1220) (by decide +kernel)⟩
theorem lw_p65 : lw_okq (⟨"OneBootsModel", "wordHere", "()I"⟩, 40) := ⟨⟨by decide +kernel, by decide +kernel⟩, List.mem_of_getElem? (i := 967) (by decide +kernel), List.mem_of_getElem? (i := 1223) (by decide +kernel), List.mem_of_getElem? (i := 1224) (by decide +kernel)⟩
theorem lw_p66 : lw_okq (⟨"OneBootsModel", "takesWord", "(J)Z"⟩, 40) := ⟨⟨by decide +kernel, by decide +kernel⟩, List.mem_of_getElem? (i := 967) (by decide +kernel), List.mem_of_getElem? (i := 1239) (by decide +kernel), List.mem_of_getElem? (i := 1240) (by decide +kernel)⟩
theorem lw_p67 : lw_okq (⟨"OneBootsModel", "tested", "()Z"⟩, 40) := ⟨⟨by decide +kernel, by decide +kernel⟩, List.mem_of_getElem? (i := 967) (by decide +kernel), List.mem_of_getElem? (i := 1243) (by decide +kernel), List.mem_of_getElem? (i := 1244) (by decide +kernel)⟩
theorem lw_p68 : lw_okq (⟨"OneBootsModel", "fact", "()Z"⟩, 40) := ⟨⟨by decide +kernel, by decide +kernel⟩, List.mem_of_getElem? (i := 967) (by decide +kernel), List.mem_of_getElem? (i := 1247) (by decide +kernel), List.mem_of_getElem? (i := 1248) (by decide +kernel)⟩
theorem lw_p69 : lw_okq (⟨"OneBootsModel", "opens", "(I)Z"⟩, 40) := ⟨⟨by decide +kernel, by decide +kernel⟩, List.mem_of_getElem? (i := 967) (by decide +kernel), List.mem_of_getElem? (i := 1252) (by decide +kernel), List.mem_of_getElem? (i := 1253) (by decide +kernel)⟩
theorem lw_p70 : lw_okq (⟨"OneBootsModel", "compare", "()Z"⟩, 40) := ⟨⟨by decide +kernel, by decide +kernel⟩, List.mem_of_getElem? (i := 967) (by decide +kernel), List.mem_of_getElem? (i := 1256) (by decide +kernel), List.mem_of_getElem? (i := 1257) (by decide +kernel)⟩
theorem lw_p71 : lw_okq (⟨"OneBootsModel", "closes", "()V"⟩, 40) := ⟨⟨by decide +kernel, by decide +kernel⟩, List.mem_of_getElem? (i := 967) (by decide +kernel), List.mem_of_getElem? (i := 1260) (by decide +kernel), List.mem_of_getElem? (i := 1261) (by decide +kernel)⟩
theorem lw_p72 : lw_okq (⟨"OneBootsModel", "settles", "(I)V"⟩, 40) := ⟨⟨by decide +kernel, by decide +kernel⟩, List.mem_of_getElem? (i := 967) (by decide +kernel), List.mem_of_getElem? (i := 1264) (by decide +kernel), List.mem_of_getElem? (i := 1265) (by decide +kernel)⟩
theorem lw_p73 : lw_okq (⟨"OneBootsModel", "isInside", "()Z"⟩, 40) := ⟨⟨by decide +kernel, by decide +kernel⟩, List.mem_of_getElem? (i := 967) (by decide +kernel), List.mem_of_getElem? (i := 1271) (by decide +kernel), List.mem_of_getElem? (i := 1272) (by decide +kernel)⟩
theorem lw_p74 : lw_okq (⟨"OneBootsModel", "isRule", "(I)Z"⟩, 40) := ⟨⟨by decide +kernel, by decide +kernel⟩, List.mem_of_getElem? (i := 967) (by decide +kernel), List.mem_of_getElem? (i := 1285) (by decide +kernel), List.mem_of_getElem? (i := 1286) (by decide +kernel)⟩
theorem lw_p75 : lw_okq (⟨"OneBootsModel", "isBrother", "(I)Z"⟩, 40) := ⟨⟨by decide +kernel, by decide +kernel⟩, List.mem_of_getElem? (i := 967) (by decide +kernel), List.mem_of_getElem? (i := 1293) (by decide +kernel), List.mem_of_getElem? (i := 1294) (by decide +kernel)⟩
theorem lw_p76 : lw_okq (⟨"OneBootsModel", "brotherOf", "(II)I"⟩, 40) := ⟨⟨by decide +kernel, by decide +kernel⟩, List.mem_of_getElem? (i := 967) (by decide +kernel), List.mem_of_getElem? (i := 1297) (by decide +kernel), List.mem_of_getElem? (i := 1298) (by decide +kernel)⟩
theorem lw_p77 : lw_okq (⟨"OneBootsModel", "bootsOn", "(I)I"⟩, 40) := ⟨⟨by decide +kernel, by decide +kernel⟩, List.mem_of_getElem? (i := 967) (by decide +kernel), List.mem_of_getElem? (i := 1301) (by decide +kernel), List.mem_of_getElem? (i := 1302) (by decide +kernel)⟩
theorem lw_p78 : lw_okq (⟨"OneBootsModel", "wearerOf", "(I)I"⟩, 40) := ⟨⟨by decide +kernel, by decide +kernel⟩, List.mem_of_getElem? (i := 967) (by decide +kernel), List.mem_of_getElem? (i := 1305) (by decide +kernel), List.mem_of_getElem? (i := 1306) (by decide +kernel)⟩
theorem lw_p79 : lw_okq (⟨"OneBootsModel", "goalOf", "(I)I"⟩, 40) := ⟨⟨by decide +kernel, by decide +kernel⟩, List.mem_of_getElem? (i := 967) (by decide +kernel), List.mem_of_getElem? (i := 1309) (by decide +kernel), List.mem_of_getElem? (i := 1310) (by decide +kernel)⟩
def lw_privs_5 : List (MethodName × Nat) := [(⟨"OneBootsModel", "puts", "(II)V"⟩, 40), (⟨"OneBootsModel", "wordHere", "()I"⟩, 40), (⟨"OneBootsModel", "takesWord", "(J)Z"⟩, 40), (⟨"OneBootsModel", "tested", "()Z"⟩, 40), (⟨"OneBootsModel", "fact", "()Z"⟩, 40), (⟨"OneBootsModel", "opens", "(I)Z"⟩, 40), (⟨"OneBootsModel", "compare", "()Z"⟩, 40), (⟨"OneBootsModel", "closes", "()V"⟩, 40), (⟨"OneBootsModel", "settles", "(I)V"⟩, 40), (⟨"OneBootsModel", "isInside", "()Z"⟩, 40), (⟨"OneBootsModel", "isRule", "(I)Z"⟩, 40), (⟨"OneBootsModel", "isBrother", "(I)Z"⟩, 40), (⟨"OneBootsModel", "brotherOf", "(II)I"⟩, 40), (⟨"OneBootsModel", "bootsOn", "(I)I"⟩, 40), (⟨"OneBootsModel", "wearerOf", "(I)I"⟩, 40), (⟨"OneBootsModel", "goalOf", "(I)I"⟩, 40)]
theorem lw_r5 : ∀ q ∈ lw_privs_5, lw_okq q := List.forall_mem_cons.mpr ⟨lw_p64, List.forall_mem_cons.mpr ⟨lw_p65, List.forall_mem_cons.mpr ⟨lw_p66, List.forall_mem_cons.mpr ⟨lw_p67, List.forall_mem_cons.mpr ⟨lw_p68, List.forall_mem_cons.mpr ⟨lw_p69, List.forall_mem_cons.mpr ⟨lw_p70, List.forall_mem_cons.mpr ⟨lw_p71, List.forall_mem_cons.mpr ⟨lw_p72, List.forall_mem_cons.mpr ⟨lw_p73, List.forall_mem_cons.mpr ⟨lw_p74, List.forall_mem_cons.mpr ⟨lw_p75, List.forall_mem_cons.mpr ⟨lw_p76, List.forall_mem_cons.mpr ⟨lw_p77, List.forall_mem_cons.mpr ⟨lw_p78, List.forall_mem_cons.mpr ⟨lw_p79, fun _ h => absurd h List.not_mem_nil⟩⟩⟩⟩⟩⟩⟩⟩⟩⟩⟩⟩⟩⟩⟩⟩
theorem lw_p80 : lw_okq (⟨"OneBootsModel", "nextWant", "(I)I"⟩, 40) := ⟨⟨by decide +kernel, by decide +kernel⟩, List.mem_of_getElem? (i := 967) (by decide +kernel), List.mem_of_getElem? (i := 1313) (by decide +kernel), List.mem_of_getElem? (i := 1314) (by decide +kernel)⟩
theorem lw_p81 : lw_okq (⟨"OneBootsModel", "isLane", "()Z"⟩, 40) := ⟨⟨by decide +kernel, by decide +kernel⟩, List.mem_of_getElem? (i := 967) (by decide +kernel), List.mem_of_getElem? (i := 1321) (by decide +kernel), List.mem_of_getElem? (i := 1322) (by decide +kernel)⟩
theorem lw_p82 : lw_okq (⟨"OneBootsModel", "placeOf", "(I)I"⟩, 40) := ⟨⟨by decide +kernel, by decide +kernel⟩, List.mem_of_getElem? (i := 967) (by decide +kernel), List.mem_of_getElem? (i := 1325) (by decide +kernel), List.mem_of_getElem? (i := 1326) (by decide +kernel)⟩
theorem lw_p83 : lw_okq (⟨"OneBootsModel", "wornOf", "(I)I"⟩, 40) := ⟨⟨by decide +kernel, by decide +kernel⟩, List.mem_of_getElem? (i := 967) (by decide +kernel), List.mem_of_getElem? (i := 1329) (by decide +kernel), List.mem_of_getElem? (i := 1330) (by decide +kernel)⟩
theorem lw_p84 : lw_okq (⟨"OneBootsModel", "isHoled", "(I)Z"⟩, 40) := ⟨⟨by decide +kernel, by decide +kernel⟩, List.mem_of_getElem? (i := 967) (by decide +kernel), List.mem_of_getElem? (i := 1333) (by decide +kernel), List.mem_of_getElem? (i := 1334) (by decide +kernel)⟩
theorem lw_p85 : lw_okq (⟨"OneBootsModel", "isPlace", "(I)Z"⟩, 40) := ⟨⟨by decide +kernel, by decide +kernel⟩, List.mem_of_getElem? (i := 967) (by decide +kernel), List.mem_of_getElem? (i := 1341) (by decide +kernel), List.mem_of_getElem? (i := 1342) (by decide +kernel)⟩
theorem lw_p86 : lw_okq (⟨"OneBootsModel", "keepsAct", "()V"⟩, 40) := ⟨⟨by decide +kernel, by decide +kernel⟩, List.mem_of_getElem? (i := 967) (by decide +kernel), List.mem_of_getElem? (i := 1353) (by decide +kernel), List.mem_of_getElem? (i := 1354) (by decide +kernel)⟩
theorem lw_p87 : lw_okq (⟨"OneBootsModel", "passes", "()I"⟩, 40) := ⟨⟨by decide +kernel, by decide +kernel⟩, List.mem_of_getElem? (i := 967) (by decide +kernel), List.mem_of_getElem? (i := 1357) (by decide +kernel), List.mem_of_getElem? (i := 1358) (by decide +kernel)⟩
theorem lw_p88 : lw_okq (⟨"OneBootsModel", "isFrost", "()Z"⟩, 40) := ⟨⟨by decide +kernel, by decide +kernel⟩, List.mem_of_getElem? (i := 967) (by decide +kernel), List.mem_of_getElem? (i := 1361) (by decide +kernel), List.mem_of_getElem? (i := 1362) (by decide +kernel)⟩
theorem lw_p89 : lw_okq (⟨"OneBootsModel", "earnsNow", "()I"⟩, 40) := ⟨⟨by decide +kernel, by decide +kernel⟩, List.mem_of_getElem? (i := 967) (by decide +kernel), List.mem_of_getElem? (i := 1365) (by decide +kernel), List.mem_of_getElem? (i := 1366) (by decide +kernel)⟩
theorem lw_p90 : lw_okq (⟨"OneBootsModel", "walks", "(II)V"⟩, 40) := ⟨⟨by decide +kernel, by decide +kernel⟩, List.mem_of_getElem? (i := 967) (by decide +kernel), List.mem_of_getElem? (i := 1369) (by decide +kernel), List.mem_of_getElem? (i := 1370) (by decide +kernel)⟩
theorem lw_p91 : lw_okq (⟨"OneBootsModel", "wayOf", "(I)J"⟩, 40) := ⟨⟨by decide +kernel, by decide +kernel⟩, List.mem_of_getElem? (i := 967) (by decide +kernel), List.mem_of_getElem? (i := 1373) (by decide +kernel), List.mem_of_getElem? (i := 1374) (by decide +kernel)⟩
theorem lw_p92 : lw_okq (⟨"OneBootsModel", "words", "(I)V"⟩, 40) := ⟨⟨by decide +kernel, by decide +kernel⟩, List.mem_of_getElem? (i := 967) (by decide +kernel), List.mem_of_getElem? (i := 1377) (by decide +kernel), List.mem_of_getElem? (i := 1378) (by decide +kernel)⟩
theorem lw_p93 : lw_okq (⟨"OneBootsModel", "bootsMany", "(I)I"⟩, 40) := ⟨⟨by decide +kernel, by decide +kernel⟩, List.mem_of_getElem? (i := 967) (by decide +kernel), List.mem_of_getElem? (i := 1381) (by decide +kernel), List.mem_of_getElem? (i := 1382) (by decide +kernel)⟩
theorem lw_p94 : lw_okq (⟨"OneBootsModel", "othersAt", "(I)I"⟩, 40) := ⟨⟨by decide +kernel, by decide +kernel⟩, List.mem_of_getElem? (i := 967) (by decide +kernel), List.mem_of_getElem? (i := 1385) (by decide +kernel), List.mem_of_getElem? (i := 1386) (by decide +kernel)⟩
theorem lw_p95 : lw_okq (⟨"OneBootsModel", "summedBy", "(I)J"⟩, 40) := ⟨⟨by decide +kernel, by decide +kernel⟩, List.mem_of_getElem? (i := 967) (by decide +kernel), List.mem_of_getElem? (i := 1389) (by decide +kernel), List.mem_of_getElem? (i := 1390) (by decide +kernel)⟩
def lw_privs_6 : List (MethodName × Nat) := [(⟨"OneBootsModel", "nextWant", "(I)I"⟩, 40), (⟨"OneBootsModel", "isLane", "()Z"⟩, 40), (⟨"OneBootsModel", "placeOf", "(I)I"⟩, 40), (⟨"OneBootsModel", "wornOf", "(I)I"⟩, 40), (⟨"OneBootsModel", "isHoled", "(I)Z"⟩, 40), (⟨"OneBootsModel", "isPlace", "(I)Z"⟩, 40), (⟨"OneBootsModel", "keepsAct", "()V"⟩, 40), (⟨"OneBootsModel", "passes", "()I"⟩, 40), (⟨"OneBootsModel", "isFrost", "()Z"⟩, 40), (⟨"OneBootsModel", "earnsNow", "()I"⟩, 40), (⟨"OneBootsModel", "walks", "(II)V"⟩, 40), (⟨"OneBootsModel", "wayOf", "(I)J"⟩, 40), (⟨"OneBootsModel", "words", "(I)V"⟩, 40), (⟨"OneBootsModel", "bootsMany", "(I)I"⟩, 40), (⟨"OneBootsModel", "othersAt", "(I)I"⟩, 40), (⟨"OneBootsModel", "summedBy", "(I)J"⟩, 40)]
theorem lw_r6 : ∀ q ∈ lw_privs_6, lw_okq q := List.forall_mem_cons.mpr ⟨lw_p80, List.forall_mem_cons.mpr ⟨lw_p81, List.forall_mem_cons.mpr ⟨lw_p82, List.forall_mem_cons.mpr ⟨lw_p83, List.forall_mem_cons.mpr ⟨lw_p84, List.forall_mem_cons.mpr ⟨lw_p85, List.forall_mem_cons.mpr ⟨lw_p86, List.forall_mem_cons.mpr ⟨lw_p87, List.forall_mem_cons.mpr ⟨lw_p88, List.forall_mem_cons.mpr ⟨lw_p89, List.forall_mem_cons.mpr ⟨lw_p90, List.forall_mem_cons.mpr ⟨lw_p91, List.forall_mem_cons.mpr ⟨lw_p92, List.forall_mem_cons.mpr ⟨lw_p93, List.forall_mem_cons.mpr ⟨lw_p94, List.forall_mem_cons.mpr ⟨lw_p95, fun _ h => absurd h List.not_mem_nil⟩⟩⟩⟩⟩⟩⟩⟩⟩⟩⟩⟩⟩⟩⟩⟩
theorem lw_p96 : lw_okq (⟨"OneBootsModel", "reckons", "(III)J"⟩, 40) := ⟨⟨by decide +kernel, by decide +kernel⟩, List.mem_of_getElem? (i := 967) (by decide +kernel), List.mem_of_getElem? (i := 1393) (by decide +kernel), List.mem_of_getElem? (i := 1394) (by decide +kernel)⟩
theorem lw_p97 : lw_okq (⟨"OneBootsModel", "push", "(J)V"⟩, 40) := ⟨⟨by decide +kernel, by decide +kernel⟩, List.mem_of_getElem? (i := 967) (by decide +kernel), List.mem_of_getElem? (i := 1397) (by decide +kernel), List.mem_of_getElem? (i := 1398) (by decide +kernel)⟩
theorem lw_p98 : lw_okq (⟨"OneBootsModel", "pop", "()J"⟩, 40) := ⟨⟨by decide +kernel, by decide +kernel⟩, List.mem_of_getElem? (i := 967) (by decide +kernel), List.mem_of_getElem? (i := 1401) (by decide +kernel), List.mem_of_getElem? (i := 1402) (by decide +kernel)⟩
theorem lw_p99 : lw_okq (⟨"OneBootsModel", "chills", "(II)V"⟩, 40) := ⟨⟨by decide +kernel, by decide +kernel⟩, List.mem_of_getElem? (i := 967) (by decide +kernel), List.mem_of_getElem? (i := 1408) (by decide +kernel), List.mem_of_getElem? (i := 1409) (by decide +kernel)⟩
theorem lw_p100 : lw_okq (⟨"OneBootsModel", "wetFeet", "(I)I"⟩, 40) := ⟨⟨by decide +kernel, by decide +kernel⟩, List.mem_of_getElem? (i := 967) (by decide +kernel), List.mem_of_getElem? (i := 1412) (by decide +kernel), List.mem_of_getElem? (i := 1413) (by decide +kernel)⟩
theorem lw_p101 : lw_okq (⟨"OneBootsModel", "goesHome", "(I)V"⟩, 40) := ⟨⟨by decide +kernel, by decide +kernel⟩, List.mem_of_getElem? (i := 967) (by decide +kernel), List.mem_of_getElem? (i := 1416) (by decide +kernel), List.mem_of_getElem? (i := 1417) (by decide +kernel)⟩
theorem lw_p102 : lw_okq (⟨"OneBootsModel", "canWear", "(II)Z"⟩, 40) := ⟨⟨by decide +kernel, by decide +kernel⟩, List.mem_of_getElem? (i := 967) (by decide +kernel), List.mem_of_getElem? (i := 1424) (by decide +kernel), List.mem_of_getElem? (i := 1425) (by decide +kernel)⟩
theorem lw_p103 : lw_okq (⟨"OneBootsModel", "fits", "(I)Z"⟩, 40) := ⟨⟨by decide +kernel, by decide +kernel⟩, List.mem_of_getElem? (i := 967) (by decide +kernel), List.mem_of_getElem? (i := 1428) (by decide +kernel), List.mem_of_getElem? (i := 1429) (by decide +kernel)⟩
theorem lw_p104 : lw_okq (⟨"OneBootsModel", "putsOn", "(II)V"⟩, 40) := ⟨⟨by decide +kernel, by decide +kernel⟩, List.mem_of_getElem? (i := 967) (by decide +kernel), List.mem_of_getElem? (i := 1432) (by decide +kernel), List.mem_of_getElem? (i := 1433) (by decide +kernel)⟩
theorem lw_p105 : lw_okq (⟨"OneBootsModel", "takesOff", "(II)V"⟩, 40) := ⟨⟨by decide +kernel, by decide +kernel⟩, List.mem_of_getElem? (i := 967) (by decide +kernel), List.mem_of_getElem? (i := 1440) (by decide +kernel), List.mem_of_getElem? (i := 1441) (by decide +kernel)⟩
theorem lw_p106 : lw_okq (⟨"OneBootsModel", "earnedAll", "()I"⟩, 40) := ⟨⟨by decide +kernel, by decide +kernel⟩, List.mem_of_getElem? (i := 967) (by decide +kernel), List.mem_of_getElem? (i := 1448) (by decide +kernel), List.mem_of_getElem? (i := 1449) (by decide +kernel)⟩
theorem lw_p107 : lw_okq (⟨"OneBootsModel", "keeps", "()V"⟩, 40) := ⟨⟨by decide +kernel, by decide +kernel⟩, List.mem_of_getElem? (i := 967) (by decide +kernel), List.mem_of_getElem? (i := 1458) (by decide +kernel), List.mem_of_getElem? (i := 1459) (by decide +kernel)⟩
theorem lw_p108 : lw_okq (⟨"OneBootsModel", "passesOn", "(I)I"⟩, 40) := ⟨⟨by decide +kernel, by decide +kernel⟩, List.mem_of_getElem? (i := 967) (by decide +kernel), List.mem_of_getElem? (i := 1462) (by decide +kernel), List.mem_of_getElem? (i := 1463) (by decide +kernel)⟩
theorem lw_p109 : lw_okq (⟨"OneBootsModel", "laysBack", "()V"⟩, 40) := ⟨⟨by decide +kernel, by decide +kernel⟩, List.mem_of_getElem? (i := 967) (by decide +kernel), List.mem_of_getElem? (i := 1466) (by decide +kernel), List.mem_of_getElem? (i := 1467) (by decide +kernel)⟩
theorem lw_p110 : lw_okq (⟨"OneBootsModel", "findsLend", "(II)V"⟩, 40) := ⟨⟨by decide +kernel, by decide +kernel⟩, List.mem_of_getElem? (i := 967) (by decide +kernel), List.mem_of_getElem? (i := 1475) (by decide +kernel), List.mem_of_getElem? (i := 1476) (by decide +kernel)⟩
theorem lw_p111 : lw_okq (⟨"OneBootsModel", "paysLent", "(II)I"⟩, 40) := ⟨⟨by decide +kernel, by decide +kernel⟩, List.mem_of_getElem? (i := 967) (by decide +kernel), List.mem_of_getElem? (i := 1479) (by decide +kernel), List.mem_of_getElem? (i := 1480) (by decide +kernel)⟩
def lw_privs_7 : List (MethodName × Nat) := [(⟨"OneBootsModel", "reckons", "(III)J"⟩, 40), (⟨"OneBootsModel", "push", "(J)V"⟩, 40), (⟨"OneBootsModel", "pop", "()J"⟩, 40), (⟨"OneBootsModel", "chills", "(II)V"⟩, 40), (⟨"OneBootsModel", "wetFeet", "(I)I"⟩, 40), (⟨"OneBootsModel", "goesHome", "(I)V"⟩, 40), (⟨"OneBootsModel", "canWear", "(II)Z"⟩, 40), (⟨"OneBootsModel", "fits", "(I)Z"⟩, 40), (⟨"OneBootsModel", "putsOn", "(II)V"⟩, 40), (⟨"OneBootsModel", "takesOff", "(II)V"⟩, 40), (⟨"OneBootsModel", "earnedAll", "()I"⟩, 40), (⟨"OneBootsModel", "keeps", "()V"⟩, 40), (⟨"OneBootsModel", "passesOn", "(I)I"⟩, 40), (⟨"OneBootsModel", "laysBack", "()V"⟩, 40), (⟨"OneBootsModel", "findsLend", "(II)V"⟩, 40), (⟨"OneBootsModel", "paysLent", "(II)I"⟩, 40)]
theorem lw_r7 : ∀ q ∈ lw_privs_7, lw_okq q := List.forall_mem_cons.mpr ⟨lw_p96, List.forall_mem_cons.mpr ⟨lw_p97, List.forall_mem_cons.mpr ⟨lw_p98, List.forall_mem_cons.mpr ⟨lw_p99, List.forall_mem_cons.mpr ⟨lw_p100, List.forall_mem_cons.mpr ⟨lw_p101, List.forall_mem_cons.mpr ⟨lw_p102, List.forall_mem_cons.mpr ⟨lw_p103, List.forall_mem_cons.mpr ⟨lw_p104, List.forall_mem_cons.mpr ⟨lw_p105, List.forall_mem_cons.mpr ⟨lw_p106, List.forall_mem_cons.mpr ⟨lw_p107, List.forall_mem_cons.mpr ⟨lw_p108, List.forall_mem_cons.mpr ⟨lw_p109, List.forall_mem_cons.mpr ⟨lw_p110, List.forall_mem_cons.mpr ⟨lw_p111, fun _ h => absurd h List.not_mem_nil⟩⟩⟩⟩⟩⟩⟩⟩⟩⟩⟩⟩⟩⟩⟩⟩
theorem lw_p112 : lw_okq (⟨"OneBootsModel", "lendsTo", "(I)V"⟩, 40) := ⟨⟨by decide +kernel, by decide +kernel⟩, List.mem_of_getElem? (i := 967) (by decide +kernel), List.mem_of_getElem? (i := 1483) (by decide +kernel), List.mem_of_getElem? (i := 1484) (by decide +kernel)⟩
theorem lw_p113 : lw_okq (⟨"OneBootsModel", "runsRelay", "(II)V"⟩, 40) := ⟨⟨by decide +kernel, by decide +kernel⟩, List.mem_of_getElem? (i := 967) (by decide +kernel), List.mem_of_getElem? (i := 1503) (by decide +kernel), List.mem_of_getElem? (i := 1504) (by decide +kernel)⟩
theorem lw_p114 : lw_okq (⟨"OneBootsModel", "namedIn", "(III)I"⟩, 40) := ⟨⟨by decide +kernel, by decide +kernel⟩, List.mem_of_getElem? (i := 967) (by decide +kernel), List.mem_of_getElem? (i := 1507) (by decide +kernel), List.mem_of_getElem? (i := 1508) (by decide +kernel)⟩
theorem lw_p115 : lw_okq (⟨"OneBootsModel", "feetBits", "()I"⟩, 40) := ⟨⟨by decide +kernel, by decide +kernel⟩, List.mem_of_getElem? (i := 967) (by decide +kernel), List.mem_of_getElem? (i := 1520) (by decide +kernel), List.mem_of_getElem? (i := 1521) (by decide +kernel)⟩
theorem lw_p116 : lw_okq (⟨"OneBootsModel", "fitsPrints", "(I)Z"⟩, 40) := ⟨⟨by decide +kernel, by decide +kernel⟩, List.mem_of_getElem? (i := 967) (by decide +kernel), List.mem_of_getElem? (i := 1524) (by decide +kernel), List.mem_of_getElem? (i := 1525) (by decide +kernel)⟩
theorem lw_p117 : lw_okq (⟨"OneBootsModel", "beginsBy", "(I)V"⟩, 40) := ⟨⟨by decide +kernel, by decide +kernel⟩, List.mem_of_getElem? (i := 967) (by decide +kernel), List.mem_of_getElem? (i := 1528) (by decide +kernel), List.mem_of_getElem? (i := 1529) (by decide +kernel)⟩
theorem lw_p118 : lw_okq (⟨"OneBootsModel", "arePrintsSo", "(I)Z"⟩, 40) := ⟨⟨by decide +kernel, by decide +kernel⟩, List.mem_of_getElem? (i := 967) (by decide +kernel), List.mem_of_getElem? (i := 1532) (by decide +kernel), List.mem_of_getElem? (i := 1533) (by decide +kernel)⟩
theorem lw_p119 : lw_okq (⟨"OneBootsModel", "woreAt", "(II)Z"⟩, 40) := ⟨⟨by decide +kernel, by decide +kernel⟩, List.mem_of_getElem? (i := 967) (by decide +kernel), List.mem_of_getElem? (i := 1536) (by decide +kernel), List.mem_of_getElem? (i := 1537) (by decide +kernel)⟩
theorem lw_p120 : lw_okq (⟨"OneBootsModel", "fillsMost", "(II)V"⟩, 40) := ⟨⟨by decide +kernel, by decide +kernel⟩, List.mem_of_getElem? (i := 967) (by decide +kernel), List.mem_of_getElem? (i := 1547) (by decide +kernel), List.mem_of_getElem? (i := 1548) (by decide +kernel)⟩
theorem lw_p121 : lw_okq (⟨"OneBootsModel", "alikeAt", "(II)I"⟩, 40) := ⟨⟨by decide +kernel, by decide +kernel⟩, List.mem_of_getElem? (i := 967) (by decide +kernel), List.mem_of_getElem? (i := 1551) (by decide +kernel), List.mem_of_getElem? (i := 1552) (by decide +kernel)⟩
theorem lw_p122 : lw_okq (⟨"OneBootsModel", "holesCost", "(IIII)I"⟩, 40) := ⟨⟨by decide +kernel, by decide +kernel⟩, List.mem_of_getElem? (i := 967) (by decide +kernel), List.mem_of_getElem? (i := 1561) (by decide +kernel), List.mem_of_getElem? (i := 1562) (by decide +kernel)⟩
theorem lw_p123 : lw_okq (⟨"OneBootsModel", "draw", "(I)I"⟩, 40) := ⟨⟨by decide +kernel, by decide +kernel⟩, List.mem_of_getElem? (i := 967) (by decide +kernel), List.mem_of_getElem? (i := 1582) (by decide +kernel), List.mem_of_getElem? (i := 1583) (by decide +kernel)⟩
def lw_privs_8 : List (MethodName × Nat) := [(⟨"OneBootsModel", "lendsTo", "(I)V"⟩, 40), (⟨"OneBootsModel", "runsRelay", "(II)V"⟩, 40), (⟨"OneBootsModel", "namedIn", "(III)I"⟩, 40), (⟨"OneBootsModel", "feetBits", "()I"⟩, 40), (⟨"OneBootsModel", "fitsPrints", "(I)Z"⟩, 40), (⟨"OneBootsModel", "beginsBy", "(I)V"⟩, 40), (⟨"OneBootsModel", "arePrintsSo", "(I)Z"⟩, 40), (⟨"OneBootsModel", "woreAt", "(II)Z"⟩, 40), (⟨"OneBootsModel", "fillsMost", "(II)V"⟩, 40), (⟨"OneBootsModel", "alikeAt", "(II)I"⟩, 40), (⟨"OneBootsModel", "holesCost", "(IIII)I"⟩, 40), (⟨"OneBootsModel", "draw", "(I)I"⟩, 40)]
theorem lw_r8 : ∀ q ∈ lw_privs_8, lw_okq q := List.forall_mem_cons.mpr ⟨lw_p112, List.forall_mem_cons.mpr ⟨lw_p113, List.forall_mem_cons.mpr ⟨lw_p114, List.forall_mem_cons.mpr ⟨lw_p115, List.forall_mem_cons.mpr ⟨lw_p116, List.forall_mem_cons.mpr ⟨lw_p117, List.forall_mem_cons.mpr ⟨lw_p118, List.forall_mem_cons.mpr ⟨lw_p119, List.forall_mem_cons.mpr ⟨lw_p120, List.forall_mem_cons.mpr ⟨lw_p121, List.forall_mem_cons.mpr ⟨lw_p122, List.forall_mem_cons.mpr ⟨lw_p123, fun _ h => absurd h List.not_mem_nil⟩⟩⟩⟩⟩⟩⟩⟩⟩⟩⟩⟩
def lw_privs : List (MethodName × Nat) := lw_privs_1 ++ (lw_privs_2 ++ (lw_privs_3 ++ (lw_privs_4 ++ (lw_privs_5 ++ (lw_privs_6 ++ (lw_privs_7 ++ (lw_privs_8)))))))
def lw_tbl : List Cond := k2_sels lw_privs ++ tables_1
theorem lw_privs_ok : ∀ q ∈ lw_privs, lw_okq q := by
  show ∀ q ∈ lw_privs_1 ++ (lw_privs_2 ++ (lw_privs_3 ++ (lw_privs_4 ++ (lw_privs_5 ++ (lw_privs_6 ++ (lw_privs_7 ++ (lw_privs_8))))))), lw_okq q
  exact List.forall_mem_append.mpr ⟨lw_r1, List.forall_mem_append.mpr ⟨lw_r2, List.forall_mem_append.mpr ⟨lw_r3, List.forall_mem_append.mpr ⟨lw_r4, List.forall_mem_append.mpr ⟨lw_r5, List.forall_mem_append.mpr ⟨lw_r6, List.forall_mem_append.mpr ⟨lw_r7, lw_r8⟩⟩⟩⟩⟩⟩⟩
end
section
/-! AN INTERPRETER OF THE RESOLVED CODE: a plain function; its soundness over the machine is proved once, in the next part. -/
/-- a cell: an array (its kind, its length and contents), or an object (its class's number, its fields); references are numbers of cells -/
abbrev xC : Type := (Nat × vp_A) ⊕ (Nat × List Value)
/-- a memory: how many cells were made, how many slots, and the cells -/
abbrev xM : Type := Nat × Nat × (Nat → Option xC)
/-- cells from here on were there before the law began: strings, the script -/
def xS : Nat := 1000000
def xset (m : xM) (k : Nat) (c : xC) : xM := (m.1, m.2.1, va_up m.2.2 k (some c))
def xnew (m : xM) (sl : Nat) (c : xC) : xM := (m.1 + 1, m.2.1 + sl, va_up m.2.2 m.1 (some c))
abbrev xb : Value := .retAddr 0
/-- a store into the locals: a long takes two -/
def xst (ls : List Value) (i : Nat) (v : Value) : List Value :=
  let l1 := match i with
    | 0 => ls
    | k + 1 => match ls[k]? with
      | some (.long _) => ls.set k xb
      | some (.double _) => ls.set k xb
      | _ => ls
  match v with
  | .long _ => (l1.set i v).set (i + 1) xb
  | _ => l1.set i v
/-- the locals at a method's entry -/
def xlo : List Value → List Value
  | [] => []
  | v :: r => if v.category = 2 then v :: xb :: xlo r else v :: xlo r
def xent (nL : Nat) (as : List Value) : List Value := xlo as ++ List.replicate (nL - (xlo as).length) xb
def xcat (st : List Value) : Nat := (st.map fun v => v.category).sum
def xcnd (c : Jvm.ClassFile.Cond) (x y : Int32) : Prop := match c with
  | .eq => x = y
  | .ne => ¬ x = y
  | .lt => x < y
  | .ge => y ≤ x
  | .gt => y < x
  | .le => x ≤ y
def xcndB (c : Jvm.ClassFile.Cond) (x y : Int32) : Bool := match c with
  | .eq => decide (x = y)
  | .ne => decide (¬ x = y)
  | .lt => decide (x < y)
  | .ge => decide (y ≤ x)
  | .gt => decide (y < x)
  | .le => decide (x ≤ y)
abbrev xR : Type := Nat × List Value × List Value × xM
abbrev xints (f : Nat → Int32) : (Nat → Int32) ⊕ (Nat → Int64) ⊕ (Nat → UInt32) ⊕ (Nat → UInt64) ⊕ (Nat → Option Nat) := .inl f
abbrev xlongs (f : Nat → Int64) : (Nat → Int32) ⊕ (Nat → Int64) ⊕ (Nat → UInt32) ⊕ (Nat → UInt64) ⊕ (Nat → Option Nat) := .inr (.inl f)
abbrev xrefs (f : Nat → Option Nat) : (Nat → Int32) ⊕ (Nat → Int64) ⊕ (Nat → UInt32) ⊕ (Nat → UInt64) ⊕ (Nat → Option Nat) := .inr (.inr (.inr (.inr f)))
/-- kinds of arrays: 0 int, 1 byte, 2 long, 3 boolean, 4 and on: of references, of the class told -/
def xak : ArrayType → Option (Nat × ((Nat → Int32) ⊕ (Nat → Int64) ⊕ (Nat → UInt32) ⊕ (Nat → UInt64) ⊕ (Nat → Option Nat)))
  | .int => some (0, xints fun _ => 0)
  | .byte => some (1, xints fun _ => 0)
  | .long => some (2, xlongs fun _ => 0)
  | .boolean => some (3, xints fun _ => 0)
  | _ => none
def xout (i : Int32) (n : Nat) : Bool := decide (i < 0 ∨ n ≤ i.toNatClampNeg)
section XS
-- tables of the program: the types of the fields of a class; the class of the objects in a kind of arrays
variable (fty : Nat → List FieldType) (acl : Nat → Nat)
def x_getf (q : Nat) (pc : Nat) (ls st : List Value) (m : xM) : Option xR := match st with
  | .ref a :: r => match m.2.2 a with
    | some (.inr (ci, fs)) => if ci = q / 64 then match fs[q % 64]? with
      | some v => some (pc, ls, v :: r, m)
      | none => none
      else none
    | _ => none
  | _ => none
def x_putf (q : Nat) (pc : Nat) (ls st : List Value) (m : xM) : Option xR := match st with
  | v :: .ref a :: r => if a < xS then match m.2.2 a with
    | some (.inr (ci, fs)) => if ci = q / 64 ∧ q % 64 < fs.length then match (fty ci)[q % 64]? with
      | some ty => if narrow ty v = v ∧ fits ty v = true then some (pc, ls, r, xset m a (.inr (ci, fs.set (q % 64) v))) else none
      | none => none
      else none
    | _ => none
    else none
  | _ => none
def x_iald (pc : Nat) (ls st : List Value) (m : xM) : Option xR := match st with
  | .int i :: .ref a :: r => match m.2.2 a with
    | some (.inl (0, n, .inl f)) => if xout i n then none else some (pc, ls, .int (f i.toNatClampNeg) :: r, m)
    | _ => none
  | _ => none
def x_bald (pc : Nat) (ls st : List Value) (m : xM) : Option xR := match st with
  | .int i :: .ref a :: r => match m.2.2 a with
    | some (.inl (1, n, .inl f)) => if xout i n then none else some (pc, ls, .int (f i.toNatClampNeg) :: r, m)
    | some (.inl (3, n, .inl f)) => if xout i n then none else some (pc, ls, .int (f i.toNatClampNeg) :: r, m)
    | _ => none
  | _ => none
def x_lald (pc : Nat) (ls st : List Value) (m : xM) : Option xR := match st with
  | .int i :: .ref a :: r => match m.2.2 a with
    | some (.inl (2, n, .inr (.inl f))) => if xout i n then none else some (pc, ls, .long (f i.toNatClampNeg) :: r, m)
    | _ => none
  | _ => none
def x_aald (pc : Nat) (ls st : List Value) (m : xM) : Option xR := match st with
  | .int i :: .ref a :: r => match m.2.2 a with
    | some (.inl (t, n, .inr (.inr (.inr (.inr f))))) => if t < 4 ∨ 7 ≤ t ∨ xS ≤ a ∨ xout i n = true then none else match f i.toNatClampNeg with
      | none => some (pc, ls, .null :: r, m)
      | some v => if v < xS then some (pc, ls, .ref v :: r, m) else none
    | _ => none
  | _ => none
def x_iast (pc : Nat) (ls st : List Value) (m : xM) : Option xR := match st with
  | .int x :: .int i :: .ref a :: r => if a < xS then match m.2.2 a with
    | some (.inl (0, n, .inl f)) => if xout i n then none else some (pc, ls, r, xset m a (.inl (0, n, .inl (upd f i.toNatClampNeg x))))
    | _ => none
    else none
  | _ => none
def x_bast (pc : Nat) (ls st : List Value) (m : xM) : Option xR := match st with
  | .int x :: .int i :: .ref a :: r => if a < xS then match m.2.2 a with
    | some (.inl (1, n, .inl f)) => if xout i n then none else some (pc, ls, r, xset m a (.inl (1, n, .inl (upd f i.toNatClampNeg (vp_nar .byte x)))))
    | some (.inl (3, n, .inl f)) => if xout i n then none else some (pc, ls, r, xset m a (.inl (3, n, .inl (upd f i.toNatClampNeg (vp_nar .boolean x)))))
    | _ => none
    else none
  | _ => none
def x_last (pc : Nat) (ls st : List Value) (m : xM) : Option xR := match st with
  | .long x :: .int i :: .ref a :: r => if a < xS then match m.2.2 a with
    | some (.inl (2, n, .inr (.inl f))) => if xout i n then none else some (pc, ls, r, xset m a (.inl (2, n, .inr (.inl (vp_updL f i.toNatClampNeg x)))))
    | _ => none
    else none
  | _ => none
def x_aast (pc : Nat) (ls st : List Value) (m : xM) : Option xR := match st with
  | .ref v :: .int i :: .ref a :: r => if a < xS ∧ v < xS then match m.2.2 a with
    | some (.inl (t, n, .inr (.inr (.inr (.inr f))))) => if t < 4 ∨ 7 ≤ t ∨ xout i n = true then none else match m.2.2 v with
      | some (.inr (ci, _)) => if ci = acl t then some (pc, ls, r, xset m a (.inl (t, n, .inr (.inr (.inr (.inr (va_up f i.toNatClampNeg (some v)))))))) else none
      | _ => none
    | _ => none
    else none
  | _ => none
def x_alen (pc : Nat) (ls st : List Value) (m : xM) : Option xR := match st with
  | .ref a :: r => match m.2.2 a with
    | some (.inl (t, x)) => if t < 7 then some (pc, ls, .int (Int32.ofNat x.1) :: r, m) else none
    | _ => none
  | _ => none
def x_new (ci : Nat) (pc : Nat) (ls st : List Value) (m : xM) : Option xR :=
  if m.1 < xS then some (pc, ls, .ref m.1 :: st, xnew m (fty ci).length (.inr (ci, (fty ci).map defaultValue))) else none
def x_newa (at_ : ArrayType) (pc : Nat) (ls st : List Value) (m : xM) : Option xR := match st with
  | .int n :: r => match xak at_ with
    | some (t, f) => if m.1 < xS ∧ ¬ n < 0 ∧ n.toNatClampNeg ≤ 100000 then some (pc, ls, .ref m.1 :: r, xnew m n.toNatClampNeg (.inl (t, n.toNatClampNeg, f))) else none
    | none => none
  | _ => none
def x_anew (t : Nat) (pc : Nat) (ls st : List Value) (m : xM) : Option xR := match st with
  | .int n :: r => if m.1 < xS ∧ 4 ≤ t ∧ t < 7 ∧ ¬ n < 0 ∧ n.toNatClampNeg ≤ 100000 then some (pc, ls, .ref m.1 :: r, xnew m n.toNatClampNeg (.inl (t, n.toNatClampNeg, xrefs fun _ => none))) else none
  | _ => none
/-- System.arraycopy of ints -/
def x_copy (pc : Nat) (ls st : List Value) (m : xM) : Option xR := match st with
  | .int n :: .int dp :: .ref a :: .int sp :: .ref a0 :: r => if a < xS ∧ a0 < xS ∧ xcat r ≤ 8 ∧ ¬ sp < 0 ∧ ¬ dp < 0 ∧ ¬ n < 0 then match m.2.2 a0 with
    | some (.inl (0, n0, .inl f)) => match m.2.2 a with
      | some (.inl (0, n1, .inl g)) => if sp.toNatClampNeg + n.toNatClampNeg ≤ n0 ∧ dp.toNatClampNeg + n.toNatClampNeg ≤ n1 then some (pc, ls, r, xset m a (.inl (0, n1, .inl (va_cpy f g sp.toNatClampNeg dp.toNatClampNeg n.toNatClampNeg)))) else none
      | _ => none
    | _ => none
    else none
  | _ => none
/-- the clone of an array of ints -/
def x_clone (pc : Nat) (ls st : List Value) (m : xM) : Option xR := match st with
  | .ref a :: r => if a < xS ∧ m.1 < xS ∧ xcat r ≤ 8 then match m.2.2 a with
    | some (.inl (0, n, .inl f)) => some (pc, ls, .ref m.1 :: r, xnew m n (.inl (0, n, .inl f)))
    | _ => none
    else none
  | _ => none
def x_cast (pc : Nat) (ls st : List Value) (m : xM) : Option xR := match st with
  | .ref a :: r => if a < xS then match m.2.2 a with
    | some (.inl (0, _)) => some (pc, ls, .ref a :: r, m)
    | _ => none
    else none
  | _ => none
def x_bin (f : Int32 → Int32 → Int32) (pc : Nat) (ls st : List Value) (m : xM) : Option xR := match st with
  | .int y :: .int x :: r => some (pc, ls, .int (f x y) :: r, m)
  | _ => none
def x_binL (f : Int64 → Int64 → Int64) (pc : Nat) (ls st : List Value) (m : xM) : Option xR := match st with
  | .long y :: .long x :: r => some (pc, ls, .long (f x y) :: r, m)
  | _ => none
/-- one instruction that neither calls nor returns; pc is the next one's -/
def xs (i : Instr) (pc : Nat) (ls st : List Value) (m : xM) : Option xR := match i with
  | .iconst v => some (pc, ls, .int (Int32.ofInt v) :: st, m)
  | .ldc2_w z => some (pc, ls, .long (Int64.ofNat z) :: st, m)
  | .ldc q => some (pc, ls, .ref (xS + q) :: st, m)
  | .aconst_null => some (pc, ls, .null :: st, m)
  | .iload k => match ls[k]? with
    | some (.int x) => some (pc, ls, .int x :: st, m)
    | _ => none
  | .lload k => match ls[k]? with
    | some (.long x) => some (pc, ls, .long x :: st, m)
    | _ => none
  | .aload k => match ls[k]? with
    | some (.ref x) => some (pc, ls, .ref x :: st, m)
    | some .null => some (pc, ls, .null :: st, m)
    | _ => none
  | .istore k => match st with
    | .int x :: r => if k < ls.length then some (pc, xst ls k (.int x), r, m) else none
    | _ => none
  | .lstore k => match st with
    | .long x :: r => if k + 1 < ls.length then some (pc, xst ls k (.long x), r, m) else none
    | _ => none
  | .astore k => match st with
    | .ref x :: r => if k < ls.length then some (pc, xst ls k (.ref x), r, m) else none
    | .null :: r => if k < ls.length then some (pc, xst ls k .null, r, m) else none
    | _ => none
  | .iinc k n => match ls[k]? with
    | some (.int x) => some (pc, xst ls k (.int (x + Int32.ofInt n)), st, m)
    | _ => none
  | .iadd => x_bin (· + ·) pc ls st m
  | .isub => x_bin (· - ·) pc ls st m
  | .imul => x_bin (· * ·) pc ls st m
  | .iand => x_bin (· &&& ·) pc ls st m
  | .ior => x_bin (· ||| ·) pc ls st m
  | .ishl => x_bin (fun x y => x <<< (y &&& 31)) pc ls st m
  | .ishr => x_bin (fun x y => x >>> (y &&& 31)) pc ls st m
  | .iushr => x_bin (fun x y => (x.toUInt32 >>> (y.toUInt32 &&& Int32.toUInt32 31)).toInt32) pc ls st m
  | .idiv => match st with
    | .int y :: .int x :: r => if y = 0 then none else some (pc, ls, .int (x / y) :: r, m)
    | _ => none
  | .irem => match st with
    | .int y :: .int x :: r => if y = 0 then none else some (pc, ls, .int (x - x / y * y) :: r, m)
    | _ => none
  | .ladd => x_binL (· + ·) pc ls st m
  | .lsub => x_binL (· - ·) pc ls st m
  | .lmul => x_binL (· * ·) pc ls st m
  | .land => x_binL (· &&& ·) pc ls st m
  | .lor => x_binL (· ||| ·) pc ls st m
  | .ldiv => match st with
    | .long y :: .long x :: r => if y = 0 then none else some (pc, ls, .long (x / y) :: r, m)
    | _ => none
  | .lrem => match st with
    | .long y :: .long x :: r => if y = 0 then none else some (pc, ls, .long (x - x / y * y) :: r, m)
    | _ => none
  | .lshl => match st with
    | .int y :: .long x :: r => some (pc, ls, .long (x <<< (y.toInt64 &&& 63)) :: r, m)
    | _ => none
  | .lcmp => match st with
    | .long y :: .long x :: r => some (pc, ls, .int (lg_cmp x y) :: r, m)
    | _ => none
  | .i2l => match st with
    | .int x :: r => some (pc, ls, .long x.toInt64 :: r, m)
    | _ => none
  | .l2i => match st with
    | .long x :: r => some (pc, ls, .int x.toInt32 :: r, m)
    | _ => none
  | .i2b => match st with
    | .int x :: r => some (pc, ls, .int x.toInt8.toInt32 :: r, m)
    | _ => none
  | .i2c => match st with
    | .int x :: r => some (pc, ls, .int (x.toUInt32 % 65536).toInt32 :: r, m)
    | _ => none
  | .dup => match st with
    | v :: r => if v.category = 1 then some (pc, ls, v :: v :: r, m) else none
    | _ => none
  | .pop => match st with
    | v :: r => if v.category = 1 then some (pc, ls, r, m) else none
    | _ => none
  | .dup2 => match st with
    | v :: w :: r => if v.category = 1 ∧ w.category = 1 then some (pc, ls, v :: w :: v :: w :: r, m) else none
    | _ => none
  | .goto t => some (t.toNat, ls, st, m)
  | .ifCond c t => match st with
    | .int x :: r => if xcndB c x 0 = true then some (t.toNat, ls, r, m) else some (pc, ls, r, m)
    | _ => none
  | .if_icmp c t => match st with
    | .int y :: .int x :: r => if xcndB c x y = true then some (t.toNat, ls, r, m) else some (pc, ls, r, m)
    | _ => none
  | .ifnonnull t => match st with
    | .ref a :: r => if a < xS then some (t.toNat, ls, r, m) else none
    | .null :: r => some (pc, ls, r, m)
    | _ => none
  | .ifnull t => match st with
    | .ref a :: r => if a < xS then some (pc, ls, r, m) else none
    | .null :: r => some (t.toNat, ls, r, m)
    | _ => none
  | .tableswitch d lo hi offs => match st with
    | .int x :: r => if x.toInt < lo ∨ hi < x.toInt then some (d.toNat, ls, r, m) else match offs[(x.toInt - lo).toNat]? with
      | some t => some (t.toNat, ls, r, m)
      | none => none
    | _ => none
  | .lookupswitch d ps => match st with
    | .int x :: r => some ((Op.lookupswitch.offset ps.toList d x.toInt).toNat, ls, r, m)
    | _ => none
  | .getfield q => x_getf q pc ls st m
  | .putfield q => x_putf fty q pc ls st m
  | .getstatic q => some (pc, ls, (if q = 0 then .int 1 else .ref (xS + 50)) :: st, m)
  | .iaload => x_iald pc ls st m
  | .baload => x_bald pc ls st m
  | .laload => x_lald pc ls st m
  | .aaload => x_aald pc ls st m
  | .iastore => x_iast pc ls st m
  | .bastore => x_bast pc ls st m
  | .lastore => x_last pc ls st m
  | .aastore => x_aast acl pc ls st m
  | .arraylength => x_alen pc ls st m
  | .new ci => x_new fty ci pc ls st m
  | .newarray a => x_newa a pc ls st m
  | .anewarray t => x_anew t pc ls st m
  | .checkcast _ => x_cast pc ls st m
  | _ => none
end XS
section XI
variable (G : Nat → Nat → Option (Instr × Nat)) (fty : Nat → List FieldType) (acl na mx rc : Nat → Nat) (rk : Nat → FieldType)
def x_arg (k : Nat) (st : List Value) : Option (List Value × List Value) :=
  if na k ≤ st.length ∧ xcat (st.drop (na k)) ≤ 8 ∧ (xlo (st.take (na k)).reverse).length ≤ mx k then some ((st.take (na k)).reverse, st.drop (na k)) else none
def x_rcv (k : Nat) (m : xM) (as : List Value) : Bool := match as with
  | .ref b :: _ => match m.2.2 b with
    | some (.inr (ci, _)) => ci == rc k
    | _ => false
  | _ => false
def x_rcs (as : List Value) : Bool := match as with
  | .ref b :: _ => decide (b < xS)
  | _ => false
/-- the interpreter's body, over itself: how many calls may lie above this one, the method, pc, locals, stack, memory -/
def ixB (rec : Nat → Nat → Nat → List Value → List Value → xM → Option (Option Value × xM)) (d j pc : Nat) (ls st : List Value) (m : xM) : Option (Option Value × xM) := match G j pc with
  | none => none
  | some (i, len) => match i with
    | .ireturn => match st with
      | [.int v] => if narrow (rk j) (.int v) = .int v then some (some (.int v), m) else none
      | _ => none
    | .lreturn => match st with
      | [.long v] => some (some (.long v), m)
      | _ => none
    | .areturn => match st with
      | [.ref v] => if v < xS then some (some (.ref v), m) else none
      | _ => none
    | .return_ => match st with
      | [] => some (none, m)
      | _ => none
    | .invokevirtual k => match d with
      | 0 => none
      | d + 1 => if k = 9997 then match x_clone (pc + len) ls st m with
          | none => none
          | some (pc', ls', st', m') => rec (d + 1) j pc' ls' st' m'
        else match x_arg na mx k st with
        | none => none
        | some (as, rest) => if x_rcv rc k m as = true then match rec d k 0 (xent (mx k) as) [] m with
          | none => none
          | some (r, m') => rec (d + 1) j (pc + len) ls (r.toList ++ rest) m'
          else none
    | .invokestatic k => match d with
      | 0 => none
      | d + 1 => if k = 9998 then match x_copy (pc + len) ls st m with
          | none => none
          | some (pc', ls', st', m') => rec (d + 1) j pc' ls' st' m'
        else match x_arg na mx k st with
        | none => none
        | some (as, rest) => match rec d k 0 (xent (mx k) as) [] m with
          | none => none
          | some (r, m') => rec (d + 1) j (pc + len) ls (r.toList ++ rest) m'
    | .invokespecial k => match d with
      | 0 => none
      | d + 1 => if k = 9999 then match st with
          | .ref a :: r => if xcat r ≤ 8 ∧ a < xS then rec (d + 1) j (pc + len) ls r m else none
          | _ => none
        else match x_arg na mx k st with
        | none => none
        | some (as, rest) => if x_rcs as = true then match rec d k 0 (xent (mx k) as) [] m with
          | none => none
          | some (r, m') => rec (d + 1) j (pc + len) ls (r.toList ++ rest) m'
          else none
    | i => match xs fty acl i (pc + len) ls st m with
      | none => none
      | some (pc', ls', st', m') => rec d j pc' ls' st' m'
/-- the interpreter: fuel -/
def ix : Nat → Nat → Nat → Nat → List Value → List Value → xM → Option (Option Value × xM)
  | 0 => fun _ _ _ _ _ _ => none
  | n + 1 => ixB G fty acl na mx rc rk (ix n)
end XI
end
section
/-! WHAT TIES THE RESOLVED CODE TO THE PROGRAM'S BYTES AND TABLES. -/
section XK
variable (gt nst : List Cond) (cls : List vw_C) (acl : Nat → Nat) (nM : Nat) (yn : Nat → MethodName) (strs : List (Nat × String × Nat × String))
/-- raw, of len bytes, at pc of method j, resolves to i -/
def xlk (j pc len : Nat) (raw i : Instr) : Prop := match i with
  | .iconst v => (∃ n, raw = .iconst n ∧ len = 1 ∧ Int32.ofInt n = Int32.ofInt v) ∨ (∃ n, raw = .bipush n ∧ len = 2 ∧ (Int8.ofInt n).toInt32 = Int32.ofInt v) ∨ (∃ n, raw = .sipush n ∧ len = 3 ∧ (Int16.ofInt n).toInt32 = Int32.ofInt v) ∨ (∃ q, raw = .ldc q ∧ len = 2 ∧ Cond.constant (yn j).cls q (Int32.ofInt v) ∈ gt) ∨ (∃ q, raw = .ldc_w q ∧ len = 3 ∧ Cond.constant (yn j).cls q (Int32.ofInt v) ∈ gt)
  | .ldc2_w z => (∃ n : Fin 2, raw = .lconst n ∧ len = 1 ∧ (n : Nat) = z) ∨ (∃ q, raw = .ldc2_w q ∧ len = 3 ∧ Cond.constantLong (yn j).cls q (Int64.ofNat z) ∈ gt)
  | .ldc q => ∃ q1 tx, raw = .ldc q1 ∧ len = 2 ∧ (q, (yn j).cls, q1, tx) ∈ strs
  | .iload k => (raw = .iload k ∧ len = 2) ∨ (∃ f : Fin 4, raw = .iload_n f ∧ len = 1 ∧ (f : Nat) = k)
  | .lload k => (raw = .lload k ∧ len = 2) ∨ (∃ f : Fin 4, raw = .lload_n f ∧ len = 1 ∧ (f : Nat) = k)
  | .aload k => (raw = .aload k ∧ len = 2) ∨ (∃ f : Fin 4, raw = .aload_n f ∧ len = 1 ∧ (f : Nat) = k)
  | .istore k => (raw = .istore k ∧ len = 2) ∨ (∃ f : Fin 4, raw = .istore_n f ∧ len = 1 ∧ (f : Nat) = k)
  | .lstore k => (raw = .lstore k ∧ len = 2) ∨ (∃ f : Fin 4, raw = .lstore_n f ∧ len = 1 ∧ (f : Nat) = k)
  | .astore k => (raw = .astore k ∧ len = 2) ∨ (∃ f : Fin 4, raw = .astore_n f ∧ len = 1 ∧ (f : Nat) = k)
  | .iinc k n => raw = .iinc k n ∧ len = 3
  | .goto t => ∃ off, raw = .goto off ∧ len = 3 ∧ (pc : Int) + off = t ∧ 0 ≤ t
  | .ifCond c t => ∃ off, raw = .ifCond c off ∧ len = 3 ∧ (pc : Int) + off = t ∧ 0 ≤ t
  | .if_icmp c t => ∃ off, raw = .if_icmp c off ∧ len = 3 ∧ (pc : Int) + off = t ∧ 0 ≤ t
  | .ifnonnull t => ∃ off, raw = .ifnonnull off ∧ len = 3 ∧ (pc : Int) + off = t ∧ 0 ≤ t
  | .ifnull t => ∃ off, raw = .ifnull off ∧ len = 3 ∧ (pc : Int) + off = t ∧ 0 ≤ t
  | .tableswitch d lo hi offs => ∃ d' offs', raw = .tableswitch d' lo hi offs' ∧ (pc : Int) + d' = d ∧ 0 ≤ d ∧ offs = offs'.map (fun o => (pc : Int) + o) ∧ ∀ t ∈ offs.toList, 0 ≤ t
  | .lookupswitch d ps => ∃ d' ps', raw = .lookupswitch d' ps' ∧ (ps'.toList.zip (ps'.toList.drop 1)).all (fun (a, next) => a.1 < next.1) = true ∧ (pc : Int) + d' = d ∧ 0 ≤ d ∧ ps = ps'.map (fun q => (q.1, (pc : Int) + q.2)) ∧ ∀ q ∈ ps.toList, 0 ≤ q.2
  | .getfield q => ∃ q1, raw = .getfield q1 ∧ len = 3 ∧ ((∃ C T N, cls[q / 64]? = some (C, T, N) ∧ q % 64 < N ∧ (T (q % 64)).1 = C ∧ Cond.fieldLink (yn j).cls q1 C (T (q % 64)).2.1 (T (q % 64)).2.2.1 ∈ gt) ∨ (q = 90 * 64 ∧ Cond.fieldLink (yn j).cls q1 "java/lang/String" "value" "[B" ∈ gt) ∨ (q = 90 * 64 + 1 ∧ Cond.fieldLink (yn j).cls q1 "java/lang/String" "coder" "B" ∈ gt))
  | .putfield q => ∃ q1, raw = .putfield q1 ∧ len = 3 ∧ (∃ C T N, cls[q / 64]? = some (C, T, N) ∧ q % 64 < N ∧ (T (q % 64)).1 = C ∧ Cond.fieldLink (yn j).cls q1 C (T (q % 64)).2.1 (T (q % 64)).2.2.1 ∈ gt ∧ ((T (q % 64)).2.2.2 = false ∨ ((T (q % 64)).2.2.2 = true ∧ (yn j).name = "<init>" ∧ C = (yn j).cls)))
  | .getstatic q => ∃ q1, raw = .getstatic q1 ∧ len = 3 ∧ ((q = 0 ∧ Cond.fieldLink (yn j).cls q1 "java/lang/String" "COMPACT_STRINGS" "Z" ∈ gt) ∨ (q = 1 ∧ Cond.fieldLink (yn j).cls q1 "jdk/internal/util/Preconditions" "SIOOBE_FORMATTER" "Ljava/util/function/BiFunction;" ∈ gt))
  | .new ci => ∃ q1, raw = .new q1 ∧ len = 3 ∧ ∃ C T N, cls[ci]? = some (C, T, N) ∧ Cond.classLink (yn j).cls q1 C ∈ gt
  | .newarray a => raw = .newarray a ∧ len = 2
  | .anewarray t => ∃ q1, raw = .anewarray q1 ∧ len = 3 ∧ ∃ r : vw_C, cls[acl t]? = some r ∧ Cond.classLink (yn j).cls q1 r.1 ∈ gt
  | .invokevirtual k => ∃ q1, raw = .invokevirtual q1 ∧ len = 3 ∧ ((k = 9997 ∧ Cond.methodLink (yn j).cls q1 ⟨"[I", "clone", "()Ljava/lang/Object;"⟩ ∈ gt) ∨ (k < nM ∧ Cond.methodLink (yn j).cls q1 (yn k) ∈ gt ∧ Cond.instanceMethod (yn k) ∈ gt ∧ Cond.selects (yn k).cls (yn k) (yn k) ∈ gt))
  | .checkcast _ => ∃ q1, raw = .checkcast q1 ∧ len = 3 ∧ Cond.classLink (yn j).cls q1 "[I" ∈ gt
  | .invokespecial k => ∃ q1, raw = .invokespecial q1 ∧ len = 3 ∧ ((k = 9999 ∧ Cond.methodLink (yn j).cls q1 objectInit ∈ gt) ∨ (k < nM ∧ (yn k).name = "<init>" ∧ Cond.instanceMethod (yn k) ∈ gt ∧ (Cond.methodLink (yn j).cls q1 (yn k) ∈ gt ∨ Cond.methodLinkNest (yn j).cls q1 (yn k) "OneBoots" ∈ nst)))
  | .invokestatic k => ∃ q1, raw = .invokestatic q1 ∧ len = 3 ∧ ((k = 9998 ∧ Cond.methodLink (yn j).cls q1 arraycopyName ∈ gt) ∨ (k < nM ∧ Cond.methodLink (yn j).cls q1 (yn k) ∈ gt ∧ Cond.static (yn k) ∈ gt))
  | i => raw = i ∧ len = 1
end XK
section XE
variable (cls : List vw_C) (acl : Nat → Nat) (nst : List Cond) (strs : List (Nat × String × Nat × String)) (lens : List Nat) (byt : List (List Int32))
variable (B : Nat) (sp : Nat → Value) (D : va_G) (aC : Nat → ClassId)
/-- kinds of arrays -/
def xat : Nat → FieldType
  | 0 => .int
  | 1 => .byte
  | 2 => .long
  | 3 => .boolean
  | t => .object ((cls[acl t]?).elim "" (fun r => r.1))
def xty : List (ClassId × FieldType) := (List.range 7).map (fun t => (aC t, xat cls acl t))
/-- what stands around: classes, arrays' classes, strings, the two statics, the script; A: what may be written -/
def xE (adK adV : Nat → Nat) (b L : Nat) (sc : Nat → Int32) (U : State) (H : Heap) : Prop :=
  va_K D cls (xty cls acl aC) U ∧ (∀ w ∈ nst, va_Nw w U) ∧ (∀ t, 4 ≤ t → t < 7 → ∀ r, cls[acl t]? = some r → va_AO r.1 U) ∧ vk_S 6 lens byt adK adV (fun q => B ≤ q) U H ∧ (∀ q ∈ strs, vk_R q.2.1 q.2.2.1 q.2.2.2 (adK (q.1 / 2)) U) ∧
  va_Z "java/lang/String" "COMPACT_STRINGS" "Z" (.int 1) (fun q => B ≤ q) U H ∧ va_Z "jdk/internal/util/Preconditions" "SIOOBE_FORMATTER" "Ljava/util/function/BiFunction;" (sp 50) (fun q => B ≤ q) U H ∧ va_X b L sc U H
/-- the numbers of what stood there before -/
def xSp (adK adV : Nat → Nat) (b L : Nat) (sc : Nat → Int32) (sp0 : Nat → Option xC) : Prop :=
  (∀ i, (sp i).category = 1) ∧ (∀ i, (∃ a, sp i = .ref a) ∨ sp i = .null) ∧ b < B ∧ (∀ q ∈ strs, q.1 % 2 = 0 ∧ q.1 / 2 < 6) ∧ (∀ i, i < 6 → sp (2 * i) = .ref (adK i) ∧ sp (2 * i + 1) = .ref (adV i)) ∧ sp 60 = .ref b ∧
  ∀ k c, sp0 k = some c → xS ≤ k ∧ ((∃ i, i < 6 ∧ k = xS + 2 * i ∧ c = .inr (90, [.ref (xS + (2 * i + 1)), .int 0])) ∨ (∃ i, i < 6 ∧ k = xS + (2 * i + 1) ∧ c = .inl (1, lens.getD i 0, xints fun j => (byt.getD i []).getD j 0)) ∨ (k = xS + 60 ∧ c = .inl (0, L, xints sc)))
end XE
/-- the classes of the program -/
def xCl (gt : List Cond) (cls : List vw_C) (fty : Nat → List FieldType) : Prop := cls.length ≤ 80 ∧ ∀ ci C T N, cls[ci]? = some (C, T, N) → (fty ci).length = N ∧ (∀ w ∈ u_ws C T N, w ∈ gt) ∧ (∀ k, k < N → parseFieldDescriptor (T k).2.2.1 = (fty ci)[k]?) ∧ (∀ a, a < N → ∀ b, b < N → a ≠ b → (T a).2.1 ≠ (T b).2.1) ∧ Cond.instantiable C N ∈ gt ∧ Cond.initialized C ∈ gt
/-- the methods of the program -/
def xMe (gt : List Cond) (mx : Nat → Nat) (bt : Nat → ByteArray) (yn : Nat → MethodName) (nM : Nat) (np : Nat → Nat) (rt : Nat → Option FieldType) : Prop := nM ≤ 9000 ∧ ∀ j, j < nM → Cond.code (yn j) (bt j) (mx j) (rt j) ∈ gt ∧ Cond.initialized (yn j).cls ∈ gt ∧ plainFor (yn j) = true ∧ (yn j).cls ≠ "java/lang/invoke/MethodHandle" ∧ (yn j).cls ≠ "java/lang/invoke/VarHandle" ∧ mx j ≤ 40 ∧ (parseMethodDescriptor (yn j).desc).map (fun d => d.parameters.length) = some (np j)
def xlk2 (cls : List vw_C) (yn : Nat → MethodName) (na np rc : Nat → Nat) (rk : Nat → FieldType) (rt : Nat → Option FieldType) (j : Nat) (i : Instr) : Prop := match i with
  | .ireturn => rt j = some (rk j)
  | .lreturn => rt j = some .long
  | .areturn => ∃ ty, rt j = some ty ∧ ((∃ n, ty = .object n) ∨ ∃ t, ty = .array t)
  | .return_ => rt j = none
  | .invokevirtual k => k = 9997 ∨ na k = np k + 1 ∧ ((∃ r, cls[rc k]? = some r ∧ r.1 = (yn k).cls) ∨ (rc k = 90 ∧ (yn k).cls = "java/lang/String"))
  | .invokespecial k => k = 9999 ∨ (na k = np k + 1 ∧ rt k = none)
  | .invokestatic k => k = 9998 ∨ na k = np k
  | _ => True
def xGo (gt nst : List Cond) (cls : List vw_C) (acl : Nat → Nat) (nM : Nat) (yn : Nat → MethodName) (strs : List (Nat × String × Nat × String)) (bt : Nat → ByteArray) (G : Nat → Nat → Option (Instr × Nat)) (na np rc : Nat → Nat) (rk : Nat → FieldType) (rt : Nat → Option FieldType) : Prop := ∀ j pc i len, j < nM + 1 → G j pc = some (i, len) → ∃ raw, decode (bt j) pc = .ok (raw, len) ∧ xlk gt nst cls acl nM yn strs j pc len raw i ∧ xlk2 cls yn na np rc rk rt j i
/-- words that every activation needs -/
def xWd (gt nst : List Cond) : Prop := (∀ w ∈ gt, goodWord w = true) ∧ (∀ w ∈ nst, (∃ a i y h, w = Cond.methodLinkNest a i y h) ∨ w = Cond.castable "[I" "java/lang/Cloneable") ∧ (∀ ty ∈ [FieldType.int, .byte, .long, .boolean], Cond.arrayClass ty ∈ gt) ∧ Cond.instanceMethod objectInit ∈ gt ∧ Cond.code objectInit ⟨#[0xb1]⟩ 1 none ∈ gt ∧ Cond.native arraycopyName ∈ gt ∧ Cond.static arraycopyName ∈ gt ∧ Cond.initialized "java/lang/System" ∈ gt ∧ (Cond.sameMethod "[I" "java/lang/Object" "clone" "()Ljava/lang/Object;" ∈ gt ∧ Cond.native ⟨"java/lang/Object", "clone", "()Ljava/lang/Object;"⟩ ∈ gt ∧ Cond.instanceMethod ⟨"java/lang/Object", "clone", "()Ljava/lang/Object;"⟩ ∈ gt ∧ Cond.selects "[I" ⟨"[I", "clone", "()Ljava/lang/Object;"⟩ ⟨"java/lang/Object", "clone", "()Ljava/lang/Object;"⟩ ∈ gt ∧ Cond.castable "[I" "java/lang/Cloneable" ∈ nst)
end
section
/-! THE PROGRAM: its classes, its methods, its code, resolved. Printed by wip/whole/tools/gen_tab.py. -/
def xT0 : u_T := fun k => match k with
  | 0 => ("OneBoots$Hours", "words", "[J", true)
  | 1 => ("OneBoots$Hours", "stack", "[J", true)
  | 2 => ("OneBoots$Hours", "lane", "LOneBoots$Lane;", true)
  | 3 => ("OneBoots$Hours", "rule", "LOneBoots$Rule;", false)
  | 4 => ("OneBoots$Hours", "second", "I", false)
  | _ => ("OneBoots$Hours", "froze", "I", false)
def xT1 : u_T := fun k => match k with
  | 0 => ("OneBoots$Image", "lane", "LOneBoots$Lane;", true)
  | 1 => ("OneBoots$Image", "world", "LOneBoots$World;", true)
  | 2 => ("OneBoots$Image", "prints", "LOneBoots$Prints;", true)
  | 3 => ("OneBoots$Image", "inForce", "I", false)
  | _ => ("OneBoots$Image", "x", "I", false)
def xT2 : u_T := fun k => match k with
  | 0 => ("OneBoots$Lane", "wet", "[I", true)
  | 1 => ("OneBoots$Lane", "home", "[I", true)
  | 2 => ("OneBoots$Lane", "sizes", "[I", true)
  | 3 => ("OneBoots$Lane", "frostRows", "[I", true)
  | 4 => ("OneBoots$Lane", "wantRows", "[I", true)
  | 5 => ("OneBoots$Lane", "numbers", "[I", true)
  | 6 => ("OneBoots$Lane", "places", "I", false)
  | 7 => ("OneBoots$Lane", "size", "I", false)
  | 8 => ("OneBoots$Lane", "sole", "I", false)
  | 9 => ("OneBoots$Lane", "bootsAt", "I", false)
  | 10 => ("OneBoots$Lane", "brothers", "I", false)
  | 11 => ("OneBoots$Lane", "frosts", "I", false)
  | _ => ("OneBoots$Lane", "wants", "I", false)
def xT3 : u_T := fun k => match k with
  | 0 => ("OneBoots$Past", "rows", "[I", true)
  | 1 => ("OneBoots$Past", "next", "I", false)
  | _ => ("OneBoots$Past", "number", "I", false)
def xT4 : u_T := fun k => match k with
  | 0 => ("OneBoots$Prints", "rows", "[I", true)
  | _ => ("OneBoots$Prints", "number", "I", false)
def xT5 : u_T := fun k => match k with
  | 0 => ("OneBoots$Relays", "worlds", "[LOneBoots$World;", true)
  | 1 => ("OneBoots$Relays", "row", "[I", true)
  | 2 => ("OneBoots$Relays", "found", "Z", false)
  | 3 => ("OneBoots$Relays", "leastChill", "I", false)
  | 4 => ("OneBoots$Relays", "names", "[I", true)
  | _ => ("OneBoots$Relays", "most", "I", false)
def xT6 : u_T := fun k => match k with
  | 0 => ("OneBoots$Rule", "steps", "[I", true)
  | _ => ("OneBoots$Rule", "ends", "[I", true)
def xT7 : u_T := fun k => match k with
  | 0 => ("OneBoots$RuleReader", "steps", "[I", true)
  | 1 => ("OneBoots$RuleReader", "ends", "[I", true)
  | 2 => ("OneBoots$RuleReader", "stepCount", "I", false)
  | 3 => ("OneBoots$RuleReader", "clauseCount", "I", false)
  | _ => ("OneBoots$RuleReader", "partCount", "I", false)
def xT8 : u_T := fun k => match k with
  | 0 => ("OneBoots$Tape", "bytes", "[B", true)
  | 1 => ("OneBoots$Tape", "length", "I", false)
  | 2 => ("OneBoots$Tape", "fault", "I", false)
  | 3 => ("OneBoots$Tape", "kind", "I", false)
  | 4 => ("OneBoots$Tape", "start", "I", false)
  | 5 => ("OneBoots$Tape", "stop", "I", false)
  | _ => ("OneBoots$Tape", "value", "I", false)
def xT9 : u_T := fun k => match k with
  | 0 => ("OneBoots$Trials", "trial", "LOneBoots$World;", true)
  | 1 => ("OneBoots$Trials", "alike", "[I", true)
  | 2 => ("OneBoots$Trials", "cobbledCost", "[I", true)
  | 3 => ("OneBoots$Trials", "who", "I", false)
  | _ => ("OneBoots$Trials", "draw", "I", false)
def xT10 : u_T := fun k => match k with
  | _ => ("OneBoots$World", "cells", "[I", true)
def xT11 : u_T := fun k => match k with
  | 0 => ("OneBoots", "tape", "LOneBoots$Tape;", true)
  | 1 => ("OneBoots", "ruleReader", "LOneBoots$RuleReader;", true)
  | 2 => ("OneBoots", "rules", "[LOneBoots$Rule;", true)
  | 3 => ("OneBoots", "images", "[LOneBoots$Image;", true)
  | 4 => ("OneBoots", "now", "LOneBoots$World;", true)
  | 5 => ("OneBoots", "past", "LOneBoots$Past;", true)
  | 6 => ("OneBoots", "prints", "LOneBoots$Prints;", true)
  | 7 => ("OneBoots", "hours", "LOneBoots$Hours;", true)
  | 8 => ("OneBoots", "trials", "LOneBoots$Trials;", true)
  | 9 => ("OneBoots", "relays", "LOneBoots$Relays;", true)
  | 10 => ("OneBoots", "laneNow", "LOneBoots$Lane;", true)
  | 11 => ("OneBoots", "laneRead", "LOneBoots$Lane;", true)
  | 12 => ("OneBoots", "ruleCount", "I", false)
  | 13 => ("OneBoots", "inForce", "I", false)
  | _ => ("OneBoots", "x", "I", false)
def xT12 : u_T := fun k => match k with
  | 0 => ("OneBootsModel", "tape", "[B", true)
  | 1 => ("OneBootsModel", "taped", "I", false)
  | 2 => ("OneBootsModel", "rules", "I", false)
  | 3 => ("OneBootsModel", "sign", "[I", true)
  | 4 => ("OneBootsModel", "length", "[I", true)
  | 5 => ("OneBootsModel", "clause", "[I", true)
  | 6 => ("OneBootsModel", "clauses", "[I", true)
  | 7 => ("OneBootsModel", "read", "[I", true)
  | 8 => ("OneBootsModel", "next", "I", false)
  | 9 => ("OneBootsModel", "wrong", "I", false)
  | 10 => ("OneBootsModel", "number", "I", false)
  | 11 => ("OneBootsModel", "text", "I", false)
  | 12 => ("OneBootsModel", "made", "I", false)
  | 13 => ("OneBootsModel", "deep", "I", false)
  | 14 => ("OneBootsModel", "lines", "I", false)
  | 15 => ("OneBootsModel", "open", "[I", true)
  | 16 => ("OneBootsModel", "opened", "I", false)
  | 17 => ("OneBootsModel", "stack", "[J", true)
  | 18 => ("OneBootsModel", "top", "I", false)
  | 19 => ("OneBootsModel", "word", "[J", true)
  | 20 => ("OneBootsModel", "said", "[I", true)
  | 21 => ("OneBootsModel", "force", "I", false)
  | 22 => ("OneBootsModel", "x", "I", false)
  | 23 => ("OneBootsModel", "second", "I", false)
  | 24 => ("OneBootsModel", "isFrostDrawn", "Z", false)
  | 25 => ("OneBootsModel", "becameFrozen", "I", false)
  | 26 => ("OneBootsModel", "wasSaid", "[I", true)
  | 27 => ("OneBootsModel", "undone", "I", false)
  | 28 => ("OneBootsModel", "kept", "[I", true)
  | 29 => ("OneBootsModel", "lentWho", "I", false)
  | 30 => ("OneBootsModel", "lentMuch", "I", false)
  | 31 => ("OneBootsModel", "relayPay", "I", false)
  | 32 => ("OneBootsModel", "relayChill", "I", false)
  | 33 => ("OneBootsModel", "mostAt", "[I", true)
  | 34 => ("OneBootsModel", "costFrom", "[I", true)
  | 35 => ("OneBootsModel", "drawX", "J", false)
  | 36 => ("OneBootsModel", "images", "[I", true)
  | 37 => ("OneBootsModel", "imageForce", "[I", true)
  | 38 => ("OneBootsModel", "imageX", "[I", true)
  | _ => ("OneBootsModel", "isMade", "[Z", true)
def xcls : List vw_C := [("OneBoots$Hours", xT0, 6), ("OneBoots$Image", xT1, 5), ("OneBoots$Lane", xT2, 13), ("OneBoots$Past", xT3, 3),
  ("OneBoots$Prints", xT4, 2), ("OneBoots$Relays", xT5, 6), ("OneBoots$Rule", xT6, 2), ("OneBoots$RuleReader", xT7, 5),
  ("OneBoots$Tape", xT8, 7), ("OneBoots$Trials", xT9, 5), ("OneBoots$World", xT10, 1), ("OneBoots", xT11, 15),
  ("OneBootsModel", xT12, 40)]
def xftyL : List (List FieldType) := [[.array .long, .array .long, .object "OneBoots$Lane", .object "OneBoots$Rule", .int, .int],
  [.object "OneBoots$Lane", .object "OneBoots$World", .object "OneBoots$Prints", .int, .int],
  [.array .int, .array .int, .array .int, .array .int, .array .int, .array .int, .int, .int, .int, .int, .int, .int, .int],
  [.array .int, .int, .int],
  [.array .int, .int],
  [.array (.object "OneBoots$World"), .array .int, .boolean, .int, .array .int, .int],
  [.array .int, .array .int],
  [.array .int, .array .int, .int, .int, .int],
  [.array .byte, .int, .int, .int, .int, .int, .int],
  [.object "OneBoots$World", .array .int, .array .int, .int, .int],
  [.array .int],
  [.object "OneBoots$Tape", .object "OneBoots$RuleReader", .array (.object "OneBoots$Rule"), .array (.object "OneBoots$Image"), .object "OneBoots$World", .object "OneBoots$Past", .object "OneBoots$Prints", .object "OneBoots$Hours", .object "OneBoots$Trials", .object "OneBoots$Relays", .object "OneBoots$Lane", .object "OneBoots$Lane", .int, .int, .int],
  [.array .byte, .int, .int, .array .int, .array .int, .array .int, .array .int, .array .int, .int, .int, .int, .int, .int, .int, .int, .array .int, .int, .array .long, .int, .array .long, .array .int, .int, .int, .int, .boolean, .int, .array .int, .int, .array .int, .int, .int, .int, .int, .array .int, .array .int, .long, .array .int, .array .int, .array .int, .array .boolean]]
def xfty (ci : Nat) : List FieldType := xftyL.getD ci []
def xacl (t : Nat) : Nat := if t = 4 then 6 else if t = 5 then 1 else if t = 6 then 10 else 0
def xynL : List MethodName := [⟨"OneBoots$Hours", "<init>", "()V"⟩, ⟨"OneBoots$Hours", "pass", "(LOneBoots$World;Z)I"⟩, ⟨"OneBoots$Hours", "pay", "(LOneBoots$World;)I"⟩, ⟨"OneBoots$Hours", "walk", "(LOneBoots$World;IZ)V"⟩,
  ⟨"OneBoots$Hours", "fillWords", "(LOneBoots$World;IZ)V"⟩, ⟨"OneBoots$Hours", "chill", "(LOneBoots$World;IZ)V"⟩, ⟨"OneBoots$Hours", "bareFeet", "(LOneBoots$World;I)I"⟩, ⟨"OneBoots$Hours", "turn", "(LOneBoots$World;)V"⟩,
  ⟨"OneBoots$Image", "<init>", "()V"⟩, ⟨"OneBoots$Lane", "<init>", "()V"⟩, ⟨"OneBoots$Lane", "copyFrom", "(LOneBoots$Lane;)V"⟩, ⟨"OneBoots$Lane", "fits", "(I)Z"⟩,
  ⟨"OneBoots$Lane", "hasFrost", "(I)Z"⟩, ⟨"OneBoots$Lane", "nextWant", "(II)I"⟩, ⟨"OneBoots$Lane", "goalOf", "(II)I"⟩, ⟨"OneBoots$Lane", "read", "(LOneBoots$Tape;)Z"⟩,
  ⟨"OneBoots$Lane", "clear", "()V"⟩, ⟨"OneBoots$Lane", "fillUntold", "()V"⟩, ⟨"OneBoots$Lane", "mayStand", "(IZ)Z"⟩, ⟨"OneBoots$Lane", "readClause", "(LOneBoots$Tape;I)Z"⟩,
  ⟨"OneBoots$Lane", "readLane", "(LOneBoots$Tape;)Z"⟩, ⟨"OneBoots$Lane", "readBrother", "(LOneBoots$Tape;)Z"⟩, ⟨"OneBoots$Lane", "readWet", "(LOneBoots$Tape;)Z"⟩, ⟨"OneBoots$Lane", "readFrost", "(LOneBoots$Tape;)Z"⟩,
  ⟨"OneBoots$Lane", "readWant", "(LOneBoots$Tape;)Z"⟩, ⟨"OneBoots$Lane", "number", "(LOneBoots$Tape;III)Z"⟩, ⟨"OneBoots$Past", "<init>", "()V"⟩, ⟨"OneBoots$Past", "keep", "(LOneBoots$World;)V"⟩,
  ⟨"OneBoots$Past", "giveBack", "(LOneBoots$World;)Z"⟩, ⟨"OneBoots$Prints", "<init>", "()V"⟩, ⟨"OneBoots$Prints", "add", "(IIIZ)V"⟩, ⟨"OneBoots$Prints", "copyFrom", "(LOneBoots$Prints;)V"⟩,
  ⟨"OneBoots$Prints", "lastHour", "()I"⟩, ⟨"OneBoots$Prints", "agree", "(LOneBoots$World;II)Z"⟩, ⟨"OneBoots$Relays", "<init>", "()V"⟩, ⟨"OneBoots$Relays", "find", "(LOneBoots$Hours;LOneBoots$World;I)V"⟩,
  ⟨"OneBoots$Relays", "search", "(LOneBoots$Hours;III)V"⟩, ⟨"OneBoots$Relays", "takes", "(LOneBoots$World;I)Z"⟩, ⟨"OneBoots$Relays", "judge", "(II)V"⟩, ⟨"OneBoots$Rule", "<init>", "([I[I)V"⟩,
  ⟨"OneBoots$Rule", "way", "([J[J)J"⟩, ⟨"OneBoots$Rule", "run", "(II[J[J)J"⟩, ⟨"OneBoots$Rule", "joined", "(IJJ)J"⟩, ⟨"OneBoots$RuleReader", "<init>", "()V"⟩,
  ⟨"OneBoots$RuleReader", "made", "()LOneBoots$Rule;"⟩, ⟨"OneBoots$RuleReader", "read", "(LOneBoots$Tape;)Z"⟩, ⟨"OneBoots$RuleReader", "test", "(LOneBoots$Tape;I)Z"⟩, ⟨"OneBoots$RuleReader", "fact", "(LOneBoots$Tape;I)Z"⟩,
  ⟨"OneBoots$RuleReader", "inner", "(LOneBoots$Tape;IZ)Z"⟩, ⟨"OneBoots$RuleReader", "comparing", "(LOneBoots$Tape;)I"⟩, ⟨"OneBoots$RuleReader", "sum", "(LOneBoots$Tape;)Z"⟩, ⟨"OneBoots$RuleReader", "reckoning", "(LOneBoots$Tape;)I"⟩,
  ⟨"OneBoots$RuleReader", "value", "(LOneBoots$Tape;)Z"⟩, ⟨"OneBoots$RuleReader", "oneMorePart", "(LOneBoots$Tape;)Z"⟩, ⟨"OneBoots$RuleReader", "put", "(I)V"⟩, ⟨"OneBoots$Tape", "<init>", "()V"⟩,
  ⟨"OneBoots$Tape", "add", "(I)V"⟩, ⟨"OneBoots$Tape", "open", "()V"⟩, ⟨"OneBoots$Tape", "next", "()V"⟩, ⟨"OneBoots$Tape", "runEnd", "(ICC)I"⟩,
  ⟨"OneBoots$Tape", "isSign", "(I)Z"⟩, ⟨"OneBoots$Tape", "isTooLong", "()Z"⟩, ⟨"OneBoots$Tape", "wordIn", "(Ljava/lang/String;)I"⟩, ⟨"OneBoots$Tape", "isPart", "(Ljava/lang/String;II)Z"⟩,
  ⟨"OneBoots$Tape", "fail", "(I)Z"⟩, ⟨"OneBoots$Trials", "<init>", "()V"⟩, ⟨"OneBoots$Trials", "after", "(LOneBoots$Hours;LOneBoots$World;I)LOneBoots$World;"⟩, ⟨"OneBoots$Trials", "earn", "(LOneBoots$Hours;I)I"⟩,
  ⟨"OneBoots$Trials", "tryLent", "(LOneBoots$World;I)V"⟩, ⟨"OneBoots$Trials", "mostLent", "(LOneBoots$Hours;LOneBoots$World;II)I"⟩, ⟨"OneBoots$Trials", "secondBid", "(LOneBoots$Hours;LOneBoots$World;I)I"⟩, ⟨"OneBoots$Trials", "bySecond", "(LOneBoots$Hours;LOneBoots$World;II)I"⟩,
  ⟨"OneBoots$Trials", "winter", "(LOneBoots$Hours;LOneBoots$World;II)I"⟩, ⟨"OneBoots$Trials", "agreeing", "(LOneBoots$Hours;LOneBoots$Prints;)I"⟩, ⟨"OneBoots$Trials", "agrees", "(LOneBoots$Hours;LOneBoots$Prints;I)Z"⟩, ⟨"OneBoots$Trials", "fewestAlike", "(LOneBoots$Hours;II)I"⟩,
  ⟨"OneBoots$Trials", "see", "(LOneBoots$Lane;)V"⟩, ⟨"OneBoots$Trials", "leastCost", "(IIIIII)I"⟩, ⟨"OneBoots$Trials", "costUntilCobbled", "(IIIIIII)I"⟩, ⟨"OneBoots$World", "<init>", "()V"⟩,
  ⟨"OneBoots$World", "copyFrom", "(LOneBoots$World;)V"⟩, ⟨"OneBoots$World", "begin", "(LOneBoots$Lane;)V"⟩, ⟨"OneBoots$World", "dress", "(I)V"⟩, ⟨"OneBoots$World", "placeOfBoot", "(I)I"⟩,
  ⟨"OneBoots$World", "bootBitsOf", "(I)I"⟩, ⟨"OneBoots$World", "allEarned", "()I"⟩, ⟨"OneBoots$World", "allChill", "()I"⟩, ⟨"OneBoots$World", "sumOf", "(I)I"⟩,
  ⟨"OneBoots", "<init>", "()V"⟩, ⟨"OneBoots", "feed", "(IIIII)I"⟩, ⟨"OneBoots", "end", "(I)I"⟩, ⟨"OneBoots", "lane", "()I"⟩,
  ⟨"OneBoots", "rule", "()I"⟩, ⟨"OneBoots", "force", "(I)I"⟩, ⟨"OneBoots", "brother", "(II)I"⟩, ⟨"OneBoots", "boot", "(II)I"⟩,
  ⟨"OneBoots", "wet", "(I)I"⟩, ⟨"OneBoots", "hour", "()I"⟩, ⟨"OneBoots", "wear", "(II)I"⟩, ⟨"OneBoots", "off", "(I)I"⟩,
  ⟨"OneBoots", "cobble", "(I)I"⟩, ⟨"OneBoots", "undo", "()I"⟩, ⟨"OneBoots", "ahead", "(III)I"⟩, ⟨"OneBoots", "lend", "(II)I"⟩,
  ⟨"OneBoots", "worth", "(II)I"⟩, ⟨"OneBoots", "bids", "(I)I"⟩, ⟨"OneBoots", "relay", "(II)I"⟩, ⟨"OneBoots", "print", "(IIIZ)I"⟩,
  ⟨"OneBoots", "feet", "(I)I"⟩, ⟨"OneBoots", "look", "(II)I"⟩, ⟨"OneBoots", "cobbler", "(IIIIII)I"⟩, ⟨"OneBoots", "second", "(III)I"⟩,
  ⟨"OneBoots", "seed", "(I)I"⟩, ⟨"OneBoots", "winters", "(IIII)I"⟩, ⟨"OneBoots", "count", "(I)I"⟩, ⟨"OneBoots", "image", "(I)I"⟩,
  ⟨"OneBoots", "back", "(I)I"⟩, ⟨"OneBoots", "hasLane", "()Z"⟩, ⟨"OneBoots", "isBrother", "(I)Z"⟩, ⟨"OneBoots", "isPlace", "(I)Z"⟩,
  ⟨"OneBoots", "isBoot", "(I)Z"⟩, ⟨"OneBoots", "isLending", "(I)Z"⟩, ⟨"OneBoots", "isHourOfAll", "(I)Z"⟩, ⟨"OneBoots", "isUpTo99", "(I)Z"⟩,
  ⟨"OneBoots", "readyHours", "()LOneBoots$Hours;"⟩, ⟨"OneBootsModel", "<init>", "()V"⟩, ⟨"OneBootsModel", "in", "(JJJ)Z"⟩, ⟨"OneBootsModel", "four", "(I)V"⟩,
  ⟨"OneBootsModel", "feed", "(IIIII)I"⟩, ⟨"OneBootsModel", "end", "(I)I"⟩, ⟨"OneBootsModel", "fails", "(II)Z"⟩, ⟨"OneBootsModel", "see", "()I"⟩,
  ⟨"OneBootsModel", "isDigit", "(I)Z"⟩, ⟨"OneBootsModel", "isLetter", "(I)Z"⟩, ⟨"OneBootsModel", "isWord", "(J)Z"⟩, ⟨"OneBootsModel", "passWord", "()V"⟩,
  ⟨"OneBootsModel", "takesWord", "(J)Z"⟩, ⟨"OneBootsModel", "numberHere", "(II)Z"⟩, ⟨"OneBootsModel", "wordHere", "()I"⟩, ⟨"OneBootsModel", "puts", "(II)V"⟩,
  ⟨"OneBootsModel", "makes", "(I)Z"⟩, ⟨"OneBootsModel", "opens", "(I)Z"⟩, ⟨"OneBootsModel", "strength", "(I)I"⟩, ⟨"OneBootsModel", "settles", "(I)V"⟩,
  ⟨"OneBootsModel", "value", "()Z"⟩, ⟨"OneBootsModel", "term", "()Z"⟩, ⟨"OneBootsModel", "sum", "()Z"⟩, ⟨"OneBootsModel", "compare", "()Z"⟩,
  ⟨"OneBootsModel", "fact", "()Z"⟩, ⟨"OneBootsModel", "isInside", "()Z"⟩, ⟨"OneBootsModel", "closes", "()V"⟩, ⟨"OneBootsModel", "tested", "()Z"⟩,
  ⟨"OneBootsModel", "isWalkHere", "()Z"⟩, ⟨"OneBootsModel", "cellHere", "(III)Z"⟩, ⟨"OneBootsModel", "isLaneHere", "(I)Z"⟩, ⟨"OneBootsModel", "isBrotherHere", "(I)Z"⟩,
  ⟨"OneBootsModel", "isWetHere", "()Z"⟩, ⟨"OneBootsModel", "isFrostHere", "(I)Z"⟩, ⟨"OneBootsModel", "isWantHere", "(I)Z"⟩, ⟨"OneBootsModel", "isSoleHere", "(I)Z"⟩,
  ⟨"OneBootsModel", "areBootsHere", "(I)Z"⟩, ⟨"OneBootsModel", "laneLineHere", "(I)Z"⟩, ⟨"OneBootsModel", "isLaneWord", "()Z"⟩, ⟨"OneBootsModel", "clauseHere", "()Z"⟩,
  ⟨"OneBootsModel", "readsAll", "()Z"⟩, ⟨"OneBootsModel", "rule", "()I"⟩, ⟨"OneBootsModel", "lane", "()I"⟩, ⟨"OneBootsModel", "isRule", "(I)Z"⟩,
  ⟨"OneBootsModel", "push", "(J)V"⟩, ⟨"OneBootsModel", "pop", "()J"⟩, ⟨"OneBootsModel", "one", "(IJJ)J"⟩, ⟨"OneBootsModel", "reckons", "(III)J"⟩,
  ⟨"OneBootsModel", "isLane", "()Z"⟩, ⟨"OneBootsModel", "isBrother", "(I)Z"⟩, ⟨"OneBootsModel", "isPlace", "(I)Z"⟩, ⟨"OneBootsModel", "brotherOf", "(II)I"⟩,
  ⟨"OneBootsModel", "wearerOf", "(I)I"⟩, ⟨"OneBootsModel", "placeOf", "(I)I"⟩, ⟨"OneBootsModel", "wornOf", "(I)I"⟩, ⟨"OneBootsModel", "isHoled", "(I)Z"⟩,
  ⟨"OneBootsModel", "fits", "(I)Z"⟩, ⟨"OneBootsModel", "bootsOn", "(I)I"⟩, ⟨"OneBootsModel", "bootsMany", "(I)I"⟩, ⟨"OneBootsModel", "nextWant", "(I)I"⟩,
  ⟨"OneBootsModel", "goalOf", "(I)I"⟩, ⟨"OneBootsModel", "force", "(I)I"⟩, ⟨"OneBootsModel", "brother", "(II)I"⟩, ⟨"OneBootsModel", "boot", "(II)I"⟩,
  ⟨"OneBootsModel", "wet", "(I)I"⟩, ⟨"OneBootsModel", "isFrost", "()Z"⟩, ⟨"OneBootsModel", "othersAt", "(I)I"⟩, ⟨"OneBootsModel", "words", "(I)V"⟩,
  ⟨"OneBootsModel", "summedBy", "(I)J"⟩, ⟨"OneBootsModel", "wayOf", "(I)J"⟩, ⟨"OneBootsModel", "earnsNow", "()I"⟩, ⟨"OneBootsModel", "walks", "(II)V"⟩,
  ⟨"OneBootsModel", "wetFeet", "(I)I"⟩, ⟨"OneBootsModel", "chills", "(II)V"⟩, ⟨"OneBootsModel", "goesHome", "(I)V"⟩, ⟨"OneBootsModel", "passes", "()I"⟩,
  ⟨"OneBootsModel", "passesOn", "(I)I"⟩, ⟨"OneBootsModel", "keepsAct", "()V"⟩, ⟨"OneBootsModel", "undo", "()I"⟩, ⟨"OneBootsModel", "hour", "()I"⟩,
  ⟨"OneBootsModel", "putsOn", "(II)V"⟩, ⟨"OneBootsModel", "takesOff", "(II)V"⟩, ⟨"OneBootsModel", "canWear", "(II)Z"⟩, ⟨"OneBootsModel", "wear", "(II)I"⟩,
  ⟨"OneBootsModel", "off", "(I)I"⟩, ⟨"OneBootsModel", "earnedAll", "()I"⟩, ⟨"OneBootsModel", "cobble", "(I)I"⟩, ⟨"OneBootsModel", "keeps", "()V"⟩,
  ⟨"OneBootsModel", "laysBack", "()V"⟩, ⟨"OneBootsModel", "ahead", "(III)I"⟩, ⟨"OneBootsModel", "lendsTo", "(I)V"⟩, ⟨"OneBootsModel", "paysLent", "(II)I"⟩,
  ⟨"OneBootsModel", "findsLend", "(II)V"⟩, ⟨"OneBootsModel", "lend", "(II)I"⟩, ⟨"OneBootsModel", "worth", "(II)I"⟩, ⟨"OneBootsModel", "bids", "(I)I"⟩,
  ⟨"OneBootsModel", "power", "(II)I"⟩, ⟨"OneBootsModel", "namedIn", "(III)I"⟩, ⟨"OneBootsModel", "runsRelay", "(II)V"⟩, ⟨"OneBootsModel", "relay", "(II)I"⟩,
  ⟨"OneBootsModel", "print", "(IIIZ)I"⟩, ⟨"OneBootsModel", "beginsBy", "(I)V"⟩, ⟨"OneBootsModel", "woreAt", "(II)Z"⟩, ⟨"OneBootsModel", "arePrintsSo", "(I)Z"⟩,
  ⟨"OneBootsModel", "fitsPrints", "(I)Z"⟩, ⟨"OneBootsModel", "isOf", "(II)Z"⟩, ⟨"OneBootsModel", "feetBits", "()I"⟩, ⟨"OneBootsModel", "feet", "(I)I"⟩,
  ⟨"OneBootsModel", "fillsMost", "(II)V"⟩, ⟨"OneBootsModel", "alikeAt", "(II)I"⟩, ⟨"OneBootsModel", "look", "(II)I"⟩, ⟨"OneBootsModel", "holesCost", "(IIII)I"⟩,
  ⟨"OneBootsModel", "cobbler", "(IIIIII)I"⟩, ⟨"OneBootsModel", "second", "(III)I"⟩, ⟨"OneBootsModel", "seed", "(I)I"⟩, ⟨"OneBootsModel", "draw", "(I)I"⟩,
  ⟨"OneBootsModel", "winters", "(IIII)I"⟩, ⟨"OneBootsModel", "count", "(I)I"⟩, ⟨"OneBootsModel", "image", "(I)I"⟩, ⟨"OneBootsModel", "back", "(I)I"⟩,
  ⟨"java/lang/Integer", "compare", "(II)I"⟩, ⟨"java/lang/Integer", "bitCount", "(I)I"⟩, ⟨"java/lang/Long", "compare", "(JJ)I"⟩, ⟨"java/lang/Math", "max", "(II)I"⟩,
  ⟨"java/lang/Math", "min", "(II)I"⟩, ⟨"java/lang/String", "length", "()I"⟩, ⟨"java/lang/String", "charAt", "(I)C"⟩, ⟨"java/lang/String", "coder", "()B"⟩,
  ⟨"java/lang/String", "isLatin1", "()Z"⟩, ⟨"java/lang/String", "checkIndex", "(II)V"⟩, ⟨"java/lang/StringLatin1", "charAt", "([BI)C"⟩, ⟨"java/util/Arrays", "fill", "([II)V"⟩,
  ⟨"java/util/Arrays", "copyOf", "([II)[I"⟩, ⟨"jdk/internal/util/Preconditions", "checkIndex", "(IILjava/util/function/BiFunction;)I"⟩, ⟨"OneBootsLaw", "law", "([I)Z"⟩]
def xyn (j : Nat) : MethodName := xynL.getD j ⟨"", "", ""⟩
def xbtL : List ByteArray := [prog_2_method_1_code, prog_2_method_2_code, prog_2_method_3_code, prog_2_method_4_code, prog_2_method_5_code, prog_2_method_6_code, prog_2_method_7_code, prog_2_method_8_code,
  prog_3_method_1_code, prog_4_method_1_code, prog_4_method_2_code, prog_4_method_3_code, prog_4_method_4_code, prog_4_method_5_code, prog_4_method_6_code, prog_4_method_7_code,
  prog_4_method_8_code, prog_4_method_9_code, prog_4_method_10_code, prog_4_method_11_code, prog_4_method_12_code, prog_4_method_13_code, prog_4_method_14_code, prog_4_method_15_code,
  prog_4_method_16_code, prog_4_method_17_code, prog_5_method_1_code, prog_5_method_2_code, prog_5_method_3_code, prog_6_method_1_code, prog_6_method_2_code, prog_6_method_3_code,
  prog_6_method_4_code, prog_6_method_5_code, prog_7_method_1_code, prog_7_method_2_code, prog_7_method_3_code, prog_7_method_4_code, prog_7_method_5_code, prog_8_method_1_code,
  prog_8_method_2_code, prog_8_method_3_code, prog_8_method_4_code, prog_9_method_1_code, prog_9_method_2_code, prog_9_method_3_code, prog_9_method_4_code, prog_9_method_5_code,
  prog_9_method_6_code, prog_9_method_7_code, prog_9_method_8_code, prog_9_method_9_code, prog_9_method_10_code, prog_9_method_11_code, prog_9_method_12_code, prog_10_method_1_code,
  prog_10_method_2_code, prog_10_method_3_code, prog_10_method_4_code, prog_10_method_5_code, prog_10_method_6_code, prog_10_method_7_code, prog_10_method_8_code, prog_10_method_9_code,
  prog_10_method_10_code, prog_11_method_1_code, prog_11_method_2_code, prog_11_method_3_code, prog_11_method_4_code, prog_11_method_5_code, prog_11_method_6_code, prog_11_method_7_code,
  prog_11_method_8_code, prog_11_method_9_code, prog_11_method_10_code, prog_11_method_11_code, prog_11_method_12_code, prog_11_method_13_code, prog_11_method_14_code, prog_12_method_1_code,
  prog_12_method_2_code, prog_12_method_3_code, prog_12_method_4_code, prog_12_method_5_code, prog_12_method_6_code, prog_12_method_7_code, prog_12_method_8_code, prog_12_method_9_code,
  prog_1_method_1_code, prog_1_method_2_code, prog_1_method_3_code, prog_1_method_4_code, prog_1_method_5_code, prog_1_method_6_code, prog_1_method_7_code, prog_1_method_8_code,
  prog_1_method_9_code, prog_1_method_10_code, prog_1_method_11_code, prog_1_method_12_code, prog_1_method_13_code, prog_1_method_14_code, prog_1_method_15_code, prog_1_method_16_code,
  prog_1_method_17_code, prog_1_method_18_code, prog_1_method_19_code, prog_1_method_20_code, prog_1_method_21_code, prog_1_method_22_code, prog_1_method_23_code, prog_1_method_24_code,
  prog_1_method_25_code, prog_1_method_26_code, prog_1_method_27_code, prog_1_method_28_code, prog_1_method_29_code, prog_1_method_30_code, prog_1_method_31_code, prog_1_method_32_code,
  prog_1_method_33_code, prog_1_method_34_code, prog_1_method_35_code, prog_1_method_36_code, prog_1_method_37_code, prog_14_method_1_code, prog_14_method_2_code, prog_14_method_3_code,
  prog_14_method_4_code, prog_14_method_5_code, prog_14_method_6_code, prog_14_method_7_code, prog_14_method_8_code, prog_14_method_9_code, prog_14_method_10_code, prog_14_method_11_code,
  prog_14_method_12_code, prog_14_method_13_code, prog_14_method_14_code, prog_14_method_15_code, prog_14_method_16_code, prog_14_method_17_code, prog_14_method_18_code, prog_14_method_19_code,
  prog_14_method_20_code, prog_14_method_21_code, prog_14_method_22_code, prog_14_method_23_code, prog_14_method_24_code, prog_14_method_25_code, prog_14_method_26_code, prog_14_method_27_code,
  prog_14_method_28_code, prog_14_method_29_code, prog_14_method_30_code, prog_14_method_31_code, prog_14_method_32_code, prog_14_method_33_code, prog_14_method_34_code, prog_14_method_35_code,
  prog_14_method_36_code, prog_14_method_37_code, prog_14_method_38_code, prog_14_method_39_code, prog_14_method_40_code, prog_14_method_41_code, prog_14_method_42_code, prog_14_method_43_code,
  prog_14_method_44_code, prog_14_method_45_code, prog_14_method_46_code, prog_14_method_47_code, prog_14_method_48_code, prog_14_method_49_code, prog_14_method_50_code, prog_14_method_51_code,
  prog_14_method_52_code, prog_14_method_53_code, prog_14_method_54_code, prog_14_method_55_code, prog_14_method_56_code, prog_14_method_57_code, prog_14_method_58_code, prog_14_method_59_code,
  prog_14_method_60_code, prog_14_method_61_code, prog_14_method_62_code, prog_14_method_63_code, prog_14_method_64_code, prog_14_method_65_code, prog_14_method_66_code, prog_14_method_67_code,
  prog_14_method_68_code, prog_14_method_69_code, prog_14_method_70_code, prog_14_method_71_code, prog_14_method_72_code, prog_14_method_73_code, prog_14_method_74_code, prog_14_method_75_code,
  prog_14_method_76_code, prog_14_method_77_code, prog_14_method_78_code, prog_14_method_79_code, prog_14_method_80_code, prog_14_method_81_code, prog_14_method_82_code, prog_14_method_83_code,
  prog_14_method_84_code, prog_14_method_85_code, prog_14_method_86_code, prog_14_method_87_code, prog_14_method_88_code, prog_14_method_89_code, prog_14_method_90_code, prog_14_method_91_code,
  prog_14_method_92_code, prog_14_method_93_code, prog_14_method_94_code, prog_14_method_95_code, prog_14_method_96_code, prog_14_method_97_code, prog_14_method_98_code, prog_14_method_99_code,
  prog_14_method_100_code, prog_14_method_101_code, prog_14_method_102_code, prog_14_method_103_code, prog_14_method_104_code, prog_14_method_105_code, prog_14_method_106_code, prog_14_method_107_code,
  prog_14_method_108_code, prog_14_method_109_code, prog_14_method_110_code, prog_14_method_111_code, prog_14_method_112_code, prog_14_method_113_code, prog_14_method_114_code, prog_14_method_115_code,
  prog_14_method_116_code, prog_14_method_117_code, prog_14_method_118_code, prog_14_method_119_code, prog_16_method_40_code, prog_16_method_49_code, prog_17_method_42_code, prog_18_method_65_code,
  prog_18_method_69_code, prog_19_method_54_code, prog_19_method_56_code, prog_19_method_152_code, prog_19_method_154_code, prog_19_method_155_code, prog_20_method_2_code, prog_23_method_103_code,
  prog_23_method_123_code, prog_24_method_11_code, code]
def xbt (j : Nat) : ByteArray := xbtL.getD j ⟨#[]⟩
def xmxL : List Nat := [1, 6, 8, 8, 12, 7, 6, 3, 1, 1, 2, 2, 3, 7, 4, 4, 1, 1, 3, 3, 2, 2, 2, 2, 3, 5, 1, 2, 2, 1, 5, 2, 3, 8, 2, 4, 7, 5, 3, 3,
  7, 8, 5, 1, 1, 3, 6, 5, 4, 1, 6, 1, 3, 2, 2, 1, 3, 1, 3, 5, 2, 1, 5, 5, 2, 1, 4, 5, 3, 9, 9, 10, 7, 5, 6, 8, 5, 9, 12, 1,
  2, 3, 3, 3, 3, 1, 1, 4, 1, 6, 2, 2, 2, 3, 3, 3, 2, 2, 4, 3, 3, 1, 5, 4, 4, 2, 3, 6, 3, 6, 9, 5, 3, 9, 2, 3, 3, 1, 2, 2,
  2, 1, 1, 1, 2, 1, 6, 3, 6, 2, 3, 1, 2, 2, 6, 1, 3, 5, 1, 3, 2, 2, 1, 2, 3, 2, 2, 5, 3, 2, 1, 3, 2, 4, 2, 4, 1, 3, 3, 2,
  2, 2, 2, 3, 2, 1, 2, 2, 3, 1, 5, 11, 1, 2, 2, 3, 2, 2, 2, 2, 2, 2, 2, 5, 3, 3, 3, 3, 2, 3, 4, 4, 4, 2, 5, 8, 4, 5, 3, 4,
  4, 2, 2, 1, 3, 3, 3, 4, 2, 3, 2, 2, 2, 5, 3, 4, 5, 3, 4, 8, 4, 4, 6, 7, 6, 3, 4, 4, 4, 2, 3, 6, 6, 7, 6, 7, 11, 9, 3, 2,
  8, 2, 3, 3, 2, 1, 4, 2, 2, 1, 2, 1, 1, 2, 2, 4, 3, 3, 4]
def xmx (j : Nat) : Nat := xmxL.getD j 0
def xnpL : List Nat := [0, 2, 1, 3, 3, 3, 2, 1, 0, 0, 1, 1, 1, 2, 2, 1, 0, 0, 2, 2, 1, 1, 1, 1, 1, 4, 0, 1, 1, 0, 4, 1, 0, 3, 0, 3, 4, 2, 2, 2,
  2, 4, 3, 0, 0, 1, 2, 2, 3, 1, 1, 1, 1, 1, 1, 0, 1, 0, 0, 3, 1, 0, 1, 3, 1, 0, 3, 2, 2, 4, 3, 4, 4, 2, 3, 3, 1, 6, 7, 0,
  1, 1, 1, 1, 1, 0, 0, 1, 0, 5, 1, 0, 0, 1, 2, 2, 1, 0, 2, 1, 1, 0, 3, 2, 2, 1, 2, 4, 1, 2, 6, 3, 1, 4, 1, 1, 1, 0, 1, 1,
  1, 1, 1, 1, 0, 0, 3, 1, 5, 1, 2, 0, 1, 1, 1, 0, 1, 2, 0, 2, 1, 1, 1, 1, 0, 0, 0, 0, 0, 0, 0, 0, 0, 3, 1, 1, 0, 1, 1, 1,
  1, 1, 0, 0, 0, 0, 0, 1, 1, 0, 3, 3, 0, 1, 1, 2, 1, 1, 1, 1, 1, 1, 1, 1, 1, 1, 2, 2, 1, 0, 1, 1, 1, 1, 0, 2, 1, 2, 1, 0,
  1, 0, 0, 0, 2, 2, 2, 2, 1, 0, 1, 0, 0, 3, 1, 2, 2, 2, 2, 1, 2, 3, 2, 2, 4, 1, 2, 1, 1, 2, 0, 1, 2, 2, 2, 4, 6, 3, 1, 1,
  4, 1, 1, 1, 2, 1, 2, 2, 2, 0, 1, 0, 0, 2, 2, 2, 2, 3, 1]
def xnp (j : Nat) : Nat := xnpL.getD j 0
def xnaL : List Nat := [1, 3, 2, 4, 4, 4, 3, 2, 1, 1, 2, 2, 2, 3, 3, 2, 1, 1, 3, 3, 2, 2, 2, 2, 2, 5, 1, 2, 2, 1, 5, 2, 1, 4, 1, 4, 5, 2, 3, 3,
  3, 5, 3, 1, 1, 2, 3, 3, 4, 1, 2, 1, 2, 2, 2, 1, 2, 1, 1, 4, 2, 1, 2, 4, 2, 1, 4, 3, 3, 5, 4, 5, 5, 3, 4, 4, 2, 7, 8, 1,
  2, 2, 2, 2, 2, 1, 1, 2, 1, 6, 2, 1, 1, 2, 3, 3, 2, 1, 3, 2, 2, 1, 4, 3, 3, 2, 3, 5, 2, 3, 7, 4, 2, 5, 2, 2, 2, 1, 2, 2,
  2, 1, 1, 1, 1, 1, 3, 2, 6, 2, 3, 1, 2, 2, 2, 1, 2, 3, 1, 3, 2, 2, 1, 2, 1, 1, 1, 1, 1, 1, 1, 1, 1, 4, 2, 2, 1, 2, 2, 2,
  2, 2, 1, 1, 1, 1, 1, 2, 2, 1, 3, 4, 1, 2, 2, 3, 2, 2, 2, 2, 2, 2, 2, 2, 2, 2, 3, 3, 2, 1, 2, 2, 2, 2, 1, 3, 2, 3, 2, 1,
  2, 1, 1, 1, 3, 3, 3, 3, 2, 1, 2, 1, 1, 4, 2, 3, 3, 3, 3, 2, 2, 4, 3, 3, 5, 2, 3, 2, 2, 2, 1, 2, 3, 3, 3, 5, 7, 4, 2, 2,
  5, 2, 2, 2, 2, 1, 2, 2, 2, 1, 2, 1, 1, 2, 2, 2, 2, 3, 1]
def xna (j : Nat) : Nat := xnaL.getD j 0
def xrcL : List Nat := [0, 0, 0, 0, 0, 0, 0, 0, 1, 2, 2, 2, 2, 2, 2, 2, 2, 2, 2, 2, 2, 2, 2, 2, 2, 2, 3, 3, 3, 4, 4, 4, 4, 4, 5, 5, 5, 5, 5, 6,
  6, 6, 6, 7, 7, 7, 7, 7, 7, 7, 7, 7, 7, 7, 7, 8, 8, 8, 8, 8, 8, 8, 8, 8, 8, 9, 9, 9, 9, 9, 9, 9, 9, 9, 9, 9, 9, 9, 9, 10,
  10, 10, 10, 10, 10, 10, 10, 10, 11, 11, 11, 11, 11, 11, 11, 11, 11, 11, 11, 11, 11, 11, 11, 11, 11, 11, 11, 11, 11, 11, 11, 11, 11, 11, 11, 11, 11, 11, 11, 11,
  11, 11, 11, 11, 11, 12, 12, 12, 12, 12, 12, 12, 12, 12, 12, 12, 12, 12, 12, 12, 12, 12, 12, 12, 12, 12, 12, 12, 12, 12, 12, 12, 12, 12, 12, 12, 12, 12, 12, 12,
  12, 12, 12, 12, 12, 12, 12, 12, 12, 12, 12, 12, 12, 12, 12, 12, 12, 12, 12, 12, 12, 12, 12, 12, 12, 12, 12, 12, 12, 12, 12, 12, 12, 12, 12, 12, 12, 12, 12, 12,
  12, 12, 12, 12, 12, 12, 12, 12, 12, 12, 12, 12, 12, 12, 12, 12, 12, 12, 12, 12, 12, 12, 12, 12, 12, 12, 12, 12, 12, 12, 12, 12, 12, 12, 12, 12, 12, 12, 12, 12,
  12, 12, 12, 12, 0, 0, 0, 0, 0, 90, 90, 90, 90, 90, 0, 0, 0, 0, 0]
def xrc (j : Nat) : Nat := xrcL.getD j 0
def xocL : List Nat := [0, 0, 0, 0, 0, 0, 0, 0, 1, 2, 2, 2, 2, 2, 2, 2, 2, 2, 2, 2, 2, 2, 2, 2, 2, 2, 3, 3, 3, 4, 4, 4, 4, 4, 5, 5, 5, 5, 5, 6,
  6, 6, 6, 7, 7, 7, 7, 7, 7, 7, 7, 7, 7, 7, 7, 8, 8, 8, 8, 8, 8, 8, 8, 8, 8, 9, 9, 9, 9, 9, 9, 9, 9, 9, 9, 9, 9, 9, 9, 10,
  10, 10, 10, 10, 10, 10, 10, 10, 11, 11, 11, 11, 11, 11, 11, 11, 11, 11, 11, 11, 11, 11, 11, 11, 11, 11, 11, 11, 11, 11, 11, 11, 11, 11, 11, 11, 11, 11, 11, 11,
  11, 11, 11, 11, 11, 12, 12, 12, 12, 12, 12, 12, 12, 12, 12, 12, 12, 12, 12, 12, 12, 12, 12, 12, 12, 12, 12, 12, 12, 12, 12, 12, 12, 12, 12, 12, 12, 12, 12, 12,
  12, 12, 12, 12, 12, 12, 12, 12, 12, 12, 12, 12, 12, 12, 12, 12, 12, 12, 12, 12, 12, 12, 12, 12, 12, 12, 12, 12, 12, 12, 12, 12, 12, 12, 12, 12, 12, 12, 12, 12,
  12, 12, 12, 12, 12, 12, 12, 12, 12, 12, 12, 12, 12, 12, 12, 12, 12, 12, 12, 12, 12, 12, 12, 12, 12, 12, 12, 12, 12, 12, 12, 12, 12, 12, 12, 12, 12, 12, 12, 12,
  12, 12, 12, 12, 13, 13, 14, 15, 15, 16, 16, 16, 16, 16, 17, 18, 18, 19, 20]
def xoc (j : Nat) : Nat := xocL.getD j 0
def xcnL : List String := ["OneBoots$Hours", "OneBoots$Image", "OneBoots$Lane", "OneBoots$Past", "OneBoots$Prints", "OneBoots$Relays",
  "OneBoots$Rule", "OneBoots$RuleReader", "OneBoots$Tape", "OneBoots$Trials", "OneBoots$World", "OneBoots",
  "OneBootsModel", "java/lang/Integer", "java/lang/Long", "java/lang/Math", "java/lang/String", "java/lang/StringLatin1",
  "java/util/Arrays", "jdk/internal/util/Preconditions", "OneBootsLaw"]
def xcn (c : Nat) : String := xcnL.getD c ""
def xrtL : List (Option FieldType) := [none, some (.int), some (.int), none, none, none, some (.int), none, none, none, none, some (.boolean),
  some (.boolean), some (.int), some (.int), some (.boolean), none, none, some (.boolean), some (.boolean), some (.boolean), some (.boolean), some (.boolean), some (.boolean),
  some (.boolean), some (.boolean), none, none, some (.boolean), none, none, none, some (.int), some (.boolean), none, none,
  none, some (.boolean), none, none, some (.long), some (.long), some (.long), none, some (.object "OneBoots$Rule"), some (.boolean), some (.boolean), some (.boolean),
  some (.boolean), some (.int), some (.boolean), some (.int), some (.boolean), some (.boolean), none, none, none, none, none, some (.int),
  some (.boolean), some (.boolean), some (.int), some (.boolean), some (.boolean), none, some (.object "OneBoots$World"), some (.int), none, some (.int), some (.int), some (.int),
  some (.int), some (.int), some (.boolean), some (.int), none, some (.int), some (.int), none, none, none, none, some (.int),
  some (.int), some (.int), some (.int), some (.int), none, some (.int), some (.int), some (.int), some (.int), some (.int), some (.int), some (.int),
  some (.int), some (.int), some (.int), some (.int), some (.int), some (.int), some (.int), some (.int), some (.int), some (.int), some (.int), some (.int),
  some (.int), some (.int), some (.int), some (.int), some (.int), some (.int), some (.int), some (.int), some (.int), some (.boolean), some (.boolean), some (.boolean),
  some (.boolean), some (.boolean), some (.boolean), some (.boolean), some (.object "OneBoots$Hours"), none, some (.boolean), none, some (.int), some (.int), some (.boolean), some (.int),
  some (.boolean), some (.boolean), some (.boolean), none, some (.boolean), some (.boolean), some (.int), none, some (.boolean), some (.boolean), some (.int), none,
  some (.boolean), some (.boolean), some (.boolean), some (.boolean), some (.boolean), some (.boolean), none, some (.boolean), some (.boolean), some (.boolean), some (.boolean), some (.boolean),
  some (.boolean), some (.boolean), some (.boolean), some (.boolean), some (.boolean), some (.boolean), some (.boolean), some (.boolean), some (.boolean), some (.int), some (.int), some (.boolean),
  none, some (.long), some (.long), some (.long), some (.boolean), some (.boolean), some (.boolean), some (.int), some (.int), some (.int), some (.int), some (.boolean),
  some (.boolean), some (.int), some (.int), some (.int), some (.int), some (.int), some (.int), some (.int), some (.int), some (.boolean), some (.int), none,
  some (.long), some (.long), some (.int), none, some (.int), none, none, some (.int), some (.int), none, some (.int), some (.int),
  none, none, some (.boolean), some (.int), some (.int), some (.int), some (.int), none, none, some (.int), none, some (.int),
  none, some (.int), some (.int), some (.int), some (.int), some (.int), none, some (.int), some (.int), none, some (.boolean), some (.boolean),
  some (.boolean), some (.boolean), some (.int), some (.int), none, some (.int), some (.int), some (.int), some (.int), some (.int), some (.int), some (.int),
  some (.int), some (.int), some (.int), some (.int), some (.int), some (.int), some (.int), some (.int), some (.int), some (.int), some (.char), some (.byte),
  some (.boolean), none, some (.char), none, some (.array .int), some (.int), some (.boolean)]
def xrt (j : Nat) : Option FieldType := xrtL.getD j none
def xrk (j : Nat) : FieldType := (xrt j).getD .int
abbrev xnM : Nat := 259
abbrev xnC : Nat := 258
abbrev j_Hours_init : Nat := 0
abbrev j_Hours_pass : Nat := 1
abbrev j_Hours_pay : Nat := 2
abbrev j_Hours_walk : Nat := 3
abbrev j_Hours_fillWords : Nat := 4
abbrev j_Hours_chill : Nat := 5
abbrev j_Hours_bareFeet : Nat := 6
abbrev j_Hours_turn : Nat := 7
abbrev j_Image_init : Nat := 8
abbrev j_Lane_init : Nat := 9
abbrev j_Lane_copyFrom : Nat := 10
abbrev j_Lane_fits : Nat := 11
abbrev j_Lane_hasFrost : Nat := 12
abbrev j_Lane_nextWant : Nat := 13
abbrev j_Lane_goalOf : Nat := 14
abbrev j_Lane_read : Nat := 15
abbrev j_Lane_clear : Nat := 16
abbrev j_Lane_fillUntold : Nat := 17
abbrev j_Lane_mayStand : Nat := 18
abbrev j_Lane_readClause : Nat := 19
abbrev j_Lane_readLane : Nat := 20
abbrev j_Lane_readBrother : Nat := 21
abbrev j_Lane_readWet : Nat := 22
abbrev j_Lane_readFrost : Nat := 23
abbrev j_Lane_readWant : Nat := 24
abbrev j_Lane_number : Nat := 25
abbrev j_Past_init : Nat := 26
abbrev j_Past_keep : Nat := 27
abbrev j_Past_giveBack : Nat := 28
abbrev j_Prints_init : Nat := 29
abbrev j_Prints_add : Nat := 30
abbrev j_Prints_copyFrom : Nat := 31
abbrev j_Prints_lastHour : Nat := 32
abbrev j_Prints_agree : Nat := 33
abbrev j_Relays_init : Nat := 34
abbrev j_Relays_find : Nat := 35
abbrev j_Relays_search : Nat := 36
abbrev j_Relays_takes : Nat := 37
abbrev j_Relays_judge : Nat := 38
abbrev j_Rule_init : Nat := 39
abbrev j_Rule_way : Nat := 40
abbrev j_Rule_run : Nat := 41
abbrev j_Rule_joined : Nat := 42
abbrev j_RuleReader_init : Nat := 43
abbrev j_RuleReader_made : Nat := 44
abbrev j_RuleReader_read : Nat := 45
abbrev j_RuleReader_test : Nat := 46
abbrev j_RuleReader_fact : Nat := 47
abbrev j_RuleReader_inner : Nat := 48
abbrev j_RuleReader_comparing : Nat := 49
abbrev j_RuleReader_sum : Nat := 50
abbrev j_RuleReader_reckoning : Nat := 51
abbrev j_RuleReader_value : Nat := 52
abbrev j_RuleReader_oneMorePart : Nat := 53
abbrev j_RuleReader_put : Nat := 54
abbrev j_Tape_init : Nat := 55
abbrev j_Tape_add : Nat := 56
abbrev j_Tape_open : Nat := 57
abbrev j_Tape_next : Nat := 58
abbrev j_Tape_runEnd : Nat := 59
abbrev j_Tape_isSign : Nat := 60
abbrev j_Tape_isTooLong : Nat := 61
abbrev j_Tape_wordIn : Nat := 62
abbrev j_Tape_isPart : Nat := 63
abbrev j_Tape_fail : Nat := 64
abbrev j_Trials_init : Nat := 65
abbrev j_Trials_after : Nat := 66
abbrev j_Trials_earn : Nat := 67
abbrev j_Trials_tryLent : Nat := 68
abbrev j_Trials_mostLent : Nat := 69
abbrev j_Trials_secondBid : Nat := 70
abbrev j_Trials_bySecond : Nat := 71
abbrev j_Trials_winter : Nat := 72
abbrev j_Trials_agreeing : Nat := 73
abbrev j_Trials_agrees : Nat := 74
abbrev j_Trials_fewestAlike : Nat := 75
abbrev j_Trials_see : Nat := 76
abbrev j_Trials_leastCost : Nat := 77
abbrev j_Trials_costUntilCobbled : Nat := 78
abbrev j_World_init : Nat := 79
abbrev j_World_copyFrom : Nat := 80
abbrev j_World_begin : Nat := 81
abbrev j_World_dress : Nat := 82
abbrev j_World_placeOfBoot : Nat := 83
abbrev j_World_bootBitsOf : Nat := 84
abbrev j_World_allEarned : Nat := 85
abbrev j_World_allChill : Nat := 86
abbrev j_World_sumOf : Nat := 87
abbrev j_O_init : Nat := 88
abbrev j_O_feed : Nat := 89
abbrev j_O_end : Nat := 90
abbrev j_O_lane : Nat := 91
abbrev j_O_rule : Nat := 92
abbrev j_O_force : Nat := 93
abbrev j_O_brother : Nat := 94
abbrev j_O_boot : Nat := 95
abbrev j_O_wet : Nat := 96
abbrev j_O_hour : Nat := 97
abbrev j_O_wear : Nat := 98
abbrev j_O_off : Nat := 99
abbrev j_O_cobble : Nat := 100
abbrev j_O_undo : Nat := 101
abbrev j_O_ahead : Nat := 102
abbrev j_O_lend : Nat := 103
abbrev j_O_worth : Nat := 104
abbrev j_O_bids : Nat := 105
abbrev j_O_relay : Nat := 106
abbrev j_O_print : Nat := 107
abbrev j_O_feet : Nat := 108
abbrev j_O_look : Nat := 109
abbrev j_O_cobbler : Nat := 110
abbrev j_O_second : Nat := 111
abbrev j_O_seed : Nat := 112
abbrev j_O_winters : Nat := 113
abbrev j_O_count : Nat := 114
abbrev j_O_image : Nat := 115
abbrev j_O_back : Nat := 116
abbrev j_O_hasLane : Nat := 117
abbrev j_O_isBrother : Nat := 118
abbrev j_O_isPlace : Nat := 119
abbrev j_O_isBoot : Nat := 120
abbrev j_O_isLending : Nat := 121
abbrev j_O_isHourOfAll : Nat := 122
abbrev j_O_isUpTo99 : Nat := 123
abbrev j_O_readyHours : Nat := 124
abbrev j_M_init : Nat := 125
abbrev j_M_in : Nat := 126
abbrev j_M_four : Nat := 127
abbrev j_M_feed : Nat := 128
abbrev j_M_end : Nat := 129
abbrev j_M_fails : Nat := 130
abbrev j_M_see : Nat := 131
abbrev j_M_isDigit : Nat := 132
abbrev j_M_isLetter : Nat := 133
abbrev j_M_isWord : Nat := 134
abbrev j_M_passWord : Nat := 135
abbrev j_M_takesWord : Nat := 136
abbrev j_M_numberHere : Nat := 137
abbrev j_M_wordHere : Nat := 138
abbrev j_M_puts : Nat := 139
abbrev j_M_makes : Nat := 140
abbrev j_M_opens : Nat := 141
abbrev j_M_strength : Nat := 142
abbrev j_M_settles : Nat := 143
abbrev j_M_value : Nat := 144
abbrev j_M_term : Nat := 145
abbrev j_M_sum : Nat := 146
abbrev j_M_compare : Nat := 147
abbrev j_M_fact : Nat := 148
abbrev j_M_isInside : Nat := 149
abbrev j_M_closes : Nat := 150
abbrev j_M_tested : Nat := 151
abbrev j_M_isWalkHere : Nat := 152
abbrev j_M_cellHere : Nat := 153
abbrev j_M_isLaneHere : Nat := 154
abbrev j_M_isBrotherHere : Nat := 155
abbrev j_M_isWetHere : Nat := 156
abbrev j_M_isFrostHere : Nat := 157
abbrev j_M_isWantHere : Nat := 158
abbrev j_M_isSoleHere : Nat := 159
abbrev j_M_areBootsHere : Nat := 160
abbrev j_M_laneLineHere : Nat := 161
abbrev j_M_isLaneWord : Nat := 162
abbrev j_M_clauseHere : Nat := 163
abbrev j_M_readsAll : Nat := 164
abbrev j_M_rule : Nat := 165
abbrev j_M_lane : Nat := 166
abbrev j_M_isRule : Nat := 167
abbrev j_M_push : Nat := 168
abbrev j_M_pop : Nat := 169
abbrev j_M_one : Nat := 170
abbrev j_M_reckons : Nat := 171
abbrev j_M_isLane : Nat := 172
abbrev j_M_isBrother : Nat := 173
abbrev j_M_isPlace : Nat := 174
abbrev j_M_brotherOf : Nat := 175
abbrev j_M_wearerOf : Nat := 176
abbrev j_M_placeOf : Nat := 177
abbrev j_M_wornOf : Nat := 178
abbrev j_M_isHoled : Nat := 179
abbrev j_M_fits : Nat := 180
abbrev j_M_bootsOn : Nat := 181
abbrev j_M_bootsMany : Nat := 182
abbrev j_M_nextWant : Nat := 183
abbrev j_M_goalOf : Nat := 184
abbrev j_M_force : Nat := 185
abbrev j_M_brother : Nat := 186
abbrev j_M_boot : Nat := 187
abbrev j_M_wet : Nat := 188
abbrev j_M_isFrost : Nat := 189
abbrev j_M_othersAt : Nat := 190
abbrev j_M_words : Nat := 191
abbrev j_M_summedBy : Nat := 192
abbrev j_M_wayOf : Nat := 193
abbrev j_M_earnsNow : Nat := 194
abbrev j_M_walks : Nat := 195
abbrev j_M_wetFeet : Nat := 196
abbrev j_M_chills : Nat := 197
abbrev j_M_goesHome : Nat := 198
abbrev j_M_passes : Nat := 199
abbrev j_M_passesOn : Nat := 200
abbrev j_M_keepsAct : Nat := 201
abbrev j_M_undo : Nat := 202
abbrev j_M_hour : Nat := 203
abbrev j_M_putsOn : Nat := 204
abbrev j_M_takesOff : Nat := 205
abbrev j_M_canWear : Nat := 206
abbrev j_M_wear : Nat := 207
abbrev j_M_off : Nat := 208
abbrev j_M_earnedAll : Nat := 209
abbrev j_M_cobble : Nat := 210
abbrev j_M_keeps : Nat := 211
abbrev j_M_laysBack : Nat := 212
abbrev j_M_ahead : Nat := 213
abbrev j_M_lendsTo : Nat := 214
abbrev j_M_paysLent : Nat := 215
abbrev j_M_findsLend : Nat := 216
abbrev j_M_lend : Nat := 217
abbrev j_M_worth : Nat := 218
abbrev j_M_bids : Nat := 219
abbrev j_M_power : Nat := 220
abbrev j_M_namedIn : Nat := 221
abbrev j_M_runsRelay : Nat := 222
abbrev j_M_relay : Nat := 223
abbrev j_M_print : Nat := 224
abbrev j_M_beginsBy : Nat := 225
abbrev j_M_woreAt : Nat := 226
abbrev j_M_arePrintsSo : Nat := 227
abbrev j_M_fitsPrints : Nat := 228
abbrev j_M_isOf : Nat := 229
abbrev j_M_feetBits : Nat := 230
abbrev j_M_feet : Nat := 231
abbrev j_M_fillsMost : Nat := 232
abbrev j_M_alikeAt : Nat := 233
abbrev j_M_look : Nat := 234
abbrev j_M_holesCost : Nat := 235
abbrev j_M_cobbler : Nat := 236
abbrev j_M_second : Nat := 237
abbrev j_M_seed : Nat := 238
abbrev j_M_draw : Nat := 239
abbrev j_M_winters : Nat := 240
abbrev j_M_count : Nat := 241
abbrev j_M_image : Nat := 242
abbrev j_M_back : Nat := 243
abbrev j_Integer_compare : Nat := 244
abbrev j_Integer_bitCount : Nat := 245
abbrev j_Long_compare : Nat := 246
abbrev j_Math_max : Nat := 247
abbrev j_Math_min : Nat := 248
abbrev j_String_length : Nat := 249
abbrev j_String_charAt : Nat := 250
abbrev j_String_coder : Nat := 251
abbrev j_String_isLatin1 : Nat := 252
abbrev j_String_checkIndex : Nat := 253
abbrev j_StringLatin1_charAt : Nat := 254
abbrev j_Arrays_fill : Nat := 255
abbrev j_Arrays_copyOf : Nat := 256
abbrev j_Preconditions_checkIndex : Nat := 257
abbrev j_L_law : Nat := 258
def xg0 : List (Option (Instr × Nat)) := [some (.aload 0, 1), some (.invokespecial 9999, 3), none, none, some (.aload 0, 1), some (.iconst 15, 2), none, some (.newarray .long, 2),
  none, some (.putfield 0, 3), none, none, some (.aload 0, 1), some (.iconst 40, 2), none, some (.newarray .long, 2),
  none, some (.putfield 1, 3), none, none, some (.aload 0, 1), some (.new 2, 3), none, none,
  some (.dup, 1), some (.invokespecial 9, 3), none, none, some (.putfield 2, 3), none, none, some (.aload 0, 1),
  some (.aconst_null, 1), some (.putfield 3, 3), none, none, some (.aload 0, 1), some (.iconst (-1), 1), some (.putfield 4, 3), none,
  none, some (.aload 0, 1), some (.iconst 0, 1), some (.putfield 5, 3), none, none, some (.return_, 1)]
def xg1 : List (Option (Instr × Nat)) := [some (.iload 2, 1), some (.ifCond .ne 21, 3), none, none, some (.aload 0, 1), some (.getfield 2, 3), none, none,
  some (.aload 1, 1), some (.getfield 640, 3), none, none, some (.iconst 30, 2), none, some (.iaload, 1), some (.invokevirtual 12, 3),
  none, none, some (.ifCond .eq 25, 3), none, none, some (.iconst 1, 1), some (.goto 26, 3), none,
  none, some (.iconst 0, 1), some (.istore 3, 1), some (.aload 0, 1), some (.aload 1, 1), some (.invokevirtual 2, 3), none, none,
  some (.istore 4, 2), none, some (.iconst 0, 1), some (.istore 5, 2), none, some (.iload 5, 2), none, some (.aload 0, 1),
  some (.getfield 2, 3), none, none, some (.getfield 138, 3), none, none, some (.if_icmp .ge 76, 3), none,
  none, some (.aload 1, 1), some (.getfield 640, 3), none, none, some (.iconst 12, 2), none, some (.iload 5, 2),
  none, some (.iadd, 1), some (.iaload, 1), some (.ifCond .ne 70, 3), none, none, some (.aload 0, 1), some (.aload 1, 1),
  some (.iload 5, 2), none, some (.iload 3, 1), some (.invokevirtual 3, 3), none, none, some (.iinc 5 1, 3), none,
  none, some (.goto 37, 3), none, none, some (.iconst 0, 1), some (.istore 5, 2), none, some (.iload 5, 2),
  none, some (.aload 0, 1), some (.getfield 2, 3), none, none, some (.getfield 138, 3), none, none,
  some (.if_icmp .ge 105, 3), none, none, some (.aload 0, 1), some (.aload 1, 1), some (.iload 5, 2), none, some (.iload 3, 1),
  some (.invokevirtual 5, 3), none, none, some (.iinc 5 1, 3), none, none, some (.goto 79, 3), none,
  none, some (.aload 0, 1), some (.aload 1, 1), some (.invokevirtual 7, 3), none, none, some (.iload 4, 2), none,
  some (.ireturn, 1)]
def xg2 : List (Option (Instr × Nat)) := [some (.iconst 0, 1), some (.istore 2, 1), some (.aload 0, 1), some (.getfield 2, 3), none, none, some (.getfield 132, 3), none,
  none, some (.astore 3, 1), some (.iconst 0, 1), some (.istore 4, 2), none, some (.iload 4, 2), none, some (.aload 0, 1),
  some (.getfield 2, 3), none, none, some (.getfield 140, 3), none, none, some (.if_icmp .ge 146, 3), none,
  none, some (.aload 3, 1), some (.iconst 4, 1), some (.iload 4, 2), none, some (.imul, 1), some (.iaload, 1), some (.istore 5, 2),
  none, some (.aload 1, 1), some (.getfield 640, 3), none, none, some (.iconst 0, 1), some (.iload 5, 2), none,
  some (.iadd, 1), some (.iaload, 1), some (.aload 3, 1), some (.iconst 4, 1), some (.iload 4, 2), none, some (.imul, 1), some (.iconst 1, 1),
  some (.iadd, 1), some (.iaload, 1), some (.if_icmp .ne 57, 3), none, none, some (.iconst 1, 1), some (.goto 58, 3), none,
  none, some (.iconst 0, 1), some (.istore 6, 2), none, some (.aload 1, 1), some (.getfield 640, 3), none, none,
  some (.iconst 30, 2), none, some (.iaload, 1), some (.aload 3, 1), some (.iconst 4, 1), some (.iload 4, 2), none, some (.imul, 1),
  some (.iconst 2, 1), some (.iadd, 1), some (.iaload, 1), some (.if_icmp .ne 82, 3), none, none, some (.iconst 1, 1), some (.goto 83, 3),
  none, none, some (.iconst 0, 1), some (.istore 7, 2), none, some (.iload 6, 2), none, some (.ifCond .eq 140, 3),
  none, none, some (.iload 7, 2), none, some (.ifCond .eq 140, 3), none, none, some (.aload 1, 1),
  some (.getfield 640, 3), none, none, some (.iconst 12, 2), none, some (.iload 5, 2), none, some (.iadd, 1),
  some (.iaload, 1), some (.ifCond .ne 140, 3), none, none, some (.aload 1, 1), some (.getfield 640, 3), none, none,
  some (.iconst 18, 2), none, some (.iload 5, 2), none, some (.iadd, 1), some (.dup2, 1), some (.iaload, 1), some (.aload 3, 1),
  some (.iconst 4, 1), some (.iload 4, 2), none, some (.imul, 1), some (.iconst 3, 1), some (.iadd, 1), some (.iaload, 1), some (.iadd, 1),
  some (.iastore, 1), some (.iload 2, 1), some (.aload 3, 1), some (.iconst 4, 1), some (.iload 4, 2), none, some (.imul, 1), some (.iconst 3, 1),
  some (.iadd, 1), some (.iaload, 1), some (.iadd, 1), some (.istore 2, 1), some (.iinc 4 1, 3), none, none, some (.goto 13, 3),
  none, none, some (.iload 2, 1), some (.ireturn, 1)]
def xg3 : List (Option (Instr × Nat)) := [some (.aload 1, 1), some (.getfield 640, 3), none, none, some (.iconst 0, 1), some (.iload 2, 1), some (.iadd, 1), some (.iaload, 1),
  some (.istore 4, 2), none, some (.iload 4, 2), none, some (.istore 5, 2), none, some (.aload 0, 1), some (.getfield 3, 3),
  none, none, some (.ifnonnull 49, 3), none, none, some (.iload 5, 2), none, some (.aload 0, 1),
  some (.getfield 2, 3), none, none, some (.iload 2, 1), some (.aload 1, 1), some (.getfield 640, 3), none, none,
  some (.iconst 30, 2), none, some (.iaload, 1), some (.invokevirtual 14, 3), none, none, some (.iload 4, 2), none,
  some (.invokestatic 244, 3), none, none, some (.iadd, 1), some (.istore 5, 2), none, some (.goto 80, 3), none,
  none, some (.aload 0, 1), some (.aload 1, 1), some (.iload 2, 1), some (.iload 3, 1), some (.invokevirtual 4, 3), none, none,
  some (.iload 5, 2), none, some (.aload 0, 1), some (.getfield 3, 3), none, none, some (.aload 0, 1), some (.getfield 0, 3),
  none, none, some (.aload 0, 1), some (.getfield 1, 3), none, none, some (.invokevirtual 40, 3), none,
  none, some (.ldc2_w 0, 1), some (.invokestatic 246, 3), none, none, some (.iadd, 1), some (.istore 5, 2), none,
  some (.iload 5, 2), none, some (.iload 4, 2), none, some (.if_icmp .eq 104, 3), none, none, some (.iload 5, 2),
  none, some (.ifCond .lt 104, 3), none, none, some (.iload 5, 2), none, some (.aload 0, 1), some (.getfield 2, 3),
  none, none, some (.getfield 134, 3), none, none, some (.if_icmp .lt 105, 3), none, none,
  some (.return_, 1), some (.aload 1, 1), some (.getfield 640, 3), none, none, some (.iconst 0, 1), some (.iload 2, 1), some (.iadd, 1),
  some (.iload 5, 2), none, some (.iastore, 1), some (.iconst 0, 1), some (.istore 6, 2), none, some (.iload 6, 2), none,
  some (.iconst 2, 1), some (.if_icmp .ge 184, 3), none, none, some (.aload 1, 1), some (.getfield 640, 3), none, none,
  some (.iconst 24, 2), none, some (.iload 6, 2), none, some (.iadd, 1), some (.iaload, 1), some (.iload 2, 1), some (.if_icmp .ne 178, 3),
  none, none, some (.aload 1, 1), some (.getfield 640, 3), none, none, some (.iconst 28, 2), none,
  some (.iload 6, 2), none, some (.iadd, 1), some (.iaload, 1), some (.iload 3, 1), some (.ifCond .eq 156, 3), none, none,
  some (.iconst 2, 1), some (.goto 157, 3), none, none, some (.iconst 1, 1), some (.iadd, 1), some (.istore 7, 2), none,
  some (.aload 1, 1), some (.getfield 640, 3), none, none, some (.iconst 28, 2), none, some (.iload 6, 2), none,
  some (.iadd, 1), some (.iload 7, 2), none, some (.iconst 999, 3), none, none, some (.invokestatic 248, 3), none,
  none, some (.iastore, 1), some (.iinc 6 1, 3), none, none, some (.goto 118, 3), none, none,
  some (.return_, 1)]
def xg4 : List (Option (Instr × Nat)) := [some (.aload 1, 1), some (.getfield 640, 3), none, none, some (.astore 4, 2), none, some (.aload 4, 2), none,
  some (.iconst 0, 1), some (.iload 2, 1), some (.iadd, 1), some (.iaload, 1), some (.istore 5, 2), none, some (.aload 4, 2), none,
  some (.iconst 30, 2), none, some (.iaload, 1), some (.istore 6, 2), none, some (.aload 0, 1), some (.getfield 2, 3), none,
  none, some (.iload 2, 1), some (.iload 6, 2), none, some (.invokevirtual 13, 3), none, none, some (.istore 7, 2),
  none, some (.aload 0, 1), some (.getfield 0, 3), none, none, some (.iconst 0, 1), some (.iload 2, 1), some (.i2l, 1),
  some (.lastore, 1), some (.aload 0, 1), some (.getfield 0, 3), none, none, some (.iconst 1, 1), some (.iload 5, 2), none,
  some (.i2l, 1), some (.lastore, 1), some (.aload 0, 1), some (.getfield 0, 3), none, none, some (.iconst 2, 1), some (.aload 0, 1),
  some (.getfield 2, 3), none, none, some (.getfield 129, 3), none, none, some (.iload 2, 1), some (.iaload, 1),
  some (.i2l, 1), some (.lastore, 1), some (.aload 0, 1), some (.getfield 0, 3), none, none, some (.iconst 3, 1), some (.aload 0, 1),
  some (.getfield 2, 3), none, none, some (.getfield 130, 3), none, none, some (.iload 2, 1), some (.iaload, 1),
  some (.i2l, 1), some (.lastore, 1), some (.aload 0, 1), some (.getfield 0, 3), none, none, some (.iconst 4, 1), some (.iload 6, 2),
  none, some (.i2l, 1), some (.lastore, 1), some (.aload 0, 1), some (.getfield 0, 3), none, none, some (.iconst 5, 1),
  some (.aload 4, 2), none, some (.iconst 31, 2), none, some (.iaload, 1), some (.i2l, 1), some (.lastore, 1), some (.aload 0, 1),
  some (.getfield 0, 3), none, none, some (.iconst 6, 2), none, some (.iload 7, 2), none, some (.ifCond .ge 127, 3),
  none, none, some (.aload 0, 1), some (.getfield 2, 3), none, none, some (.getfield 129, 3), none,
  none, some (.iload 2, 1), some (.iaload, 1), some (.i2l, 1), some (.goto 142, 3), none, none, some (.aload 0, 1),
  some (.getfield 2, 3), none, none, some (.getfield 132, 3), none, none, some (.iconst 4, 1), some (.iload 7, 2),
  none, some (.imul, 1), some (.iconst 1, 1), some (.iadd, 1), some (.iaload, 1), some (.i2l, 1), some (.lastore, 1), some (.aload 0, 1),
  some (.getfield 0, 3), none, none, some (.iconst 7, 2), none, some (.iload 7, 2), none, some (.ifCond .ge 158, 3),
  none, none, some (.ldc2_w 0, 1), some (.goto 173, 3), none, none, some (.aload 0, 1), some (.getfield 2, 3),
  none, none, some (.getfield 132, 3), none, none, some (.iconst 4, 1), some (.iload 7, 2), none,
  some (.imul, 1), some (.iconst 3, 1), some (.iadd, 1), some (.iaload, 1), some (.i2l, 1), some (.lastore, 1), some (.aload 0, 1), some (.getfield 0, 3),
  none, none, some (.iconst 8, 2), none, some (.iload 7, 2), none, some (.ifCond .ge 189, 3), none,
  none, some (.ldc2_w 0, 1), some (.goto 207, 3), none, none, some (.aload 0, 1), some (.getfield 2, 3), none,
  none, some (.getfield 132, 3), none, none, some (.iconst 4, 1), some (.iload 7, 2), none, some (.imul, 1),
  some (.iconst 2, 1), some (.iadd, 1), some (.iaload, 1), some (.iload 6, 2), none, some (.isub, 1), some (.i2l, 1), some (.lastore, 1),
  some (.aload 0, 1), some (.getfield 0, 3), none, none, some (.iconst 9, 2), none, some (.aload 0, 1), some (.getfield 2, 3),
  none, none, some (.getfield 128, 3), none, none, some (.iload 5, 2), none, some (.iaload, 1),
  some (.i2l, 1), some (.lastore, 1), some (.aload 0, 1), some (.getfield 0, 3), none, none, some (.iconst 10, 2), none,
  some (.iload 3, 1), some (.ifCond .eq 240, 3), none, none, some (.ldc2_w 1, 1), some (.goto 241, 3), none, none,
  some (.ldc2_w 0, 1), some (.lastore, 1), some (.aload 0, 1), some (.getfield 0, 3), none, none, some (.iconst 11, 2), none,
  some (.aload 0, 1), some (.getfield 4, 3), none, none, some (.iload 2, 1), some (.if_icmp .ne 262, 3), none, none,
  some (.ldc2_w 2, 3), none, none, some (.goto 271, 3), none, none, some (.aload 1, 1), some (.iload 2, 1),
  some (.invokevirtual 84, 3), none, none, some (.invokestatic 245, 3), none, none, some (.i2l, 1), some (.lastore, 1),
  some (.aload 0, 1), some (.getfield 0, 3), none, none, some (.iconst 12, 2), none, some (.aload 4, 2), none,
  some (.iconst 6, 2), none, some (.iload 2, 1), some (.iadd, 1), some (.iaload, 1), some (.i2l, 1), some (.lastore, 1), some (.iconst (-1), 1),
  some (.istore 8, 2), none, some (.iconst 0, 1), some (.istore 9, 2), none, some (.iload 9, 2), none, some (.aload 0, 1),
  some (.getfield 2, 3), none, none, some (.getfield 138, 3), none, none, some (.if_icmp .ge 333, 3), none,
  none, some (.iload 8, 2), none, some (.aload 4, 2), none, some (.iconst 0, 1), some (.iload 9, 2), none,
  some (.iadd, 1), some (.iaload, 1), some (.iload 5, 2), none, some (.if_icmp .ne 323, 3), none, none, some (.iconst 1, 1),
  some (.goto 324, 3), none, none, some (.iconst 0, 1), some (.iadd, 1), some (.istore 8, 2), none, some (.iinc 9 1, 3),
  none, none, some (.goto 293, 3), none, none, some (.aload 0, 1), some (.getfield 0, 3), none,
  none, some (.iconst 13, 2), none, some (.iload 8, 2), none, some (.i2l, 1), some (.lastore, 1), some (.iconst 0, 1),
  some (.istore 9, 2), none, some (.iconst 0, 1), some (.istore 10, 2), none, some (.iload 10, 2), none, some (.iconst 2, 1),
  some (.if_icmp .ge 408, 3), none, none, some (.aload 4, 2), none, some (.iconst 24, 2), none, some (.iload 10, 2),
  none, some (.iadd, 1), some (.iaload, 1), some (.iconst (-1), 1), some (.if_icmp .ne 384, 3), none, none, some (.aload 4, 2),
  none, some (.iconst 26, 2), none, some (.iload 10, 2), none, some (.iadd, 1), some (.iaload, 1), some (.iload 5, 2),
  none, some (.if_icmp .ne 384, 3), none, none, some (.iconst 1, 1), some (.goto 385, 3), none, none,
  some (.iconst 0, 1), some (.istore 11, 2), none, some (.iload 9, 2), none, some (.iload 11, 2), none, some (.ifCond .eq 398, 3),
  none, none, some (.iconst 1, 1), some (.goto 399, 3), none, none, some (.iconst 0, 1), some (.iadd, 1),
  some (.istore 9, 2), none, some (.iinc 10 1, 3), none, none, some (.goto 349, 3), none, none,
  some (.aload 0, 1), some (.getfield 0, 3), none, none, some (.iconst 14, 2), none, some (.iload 9, 2), none,
  some (.i2l, 1), some (.lastore, 1), some (.return_, 1)]
def xg5 : List (Option (Instr × Nat)) := [some (.aload 1, 1), some (.getfield 640, 3), none, none, some (.iconst 0, 1), some (.iload 2, 1), some (.iadd, 1), some (.iaload, 1),
  some (.istore 4, 2), none, some (.aload 1, 1), some (.getfield 640, 3), none, none, some (.iconst 6, 2), none,
  some (.iload 2, 1), some (.iadd, 1), some (.iaload, 1), some (.istore 5, 2), none, some (.iload 4, 2), none, some (.aload 0, 1),
  some (.getfield 2, 3), none, none, some (.getfield 129, 3), none, none, some (.iload 2, 1), some (.iaload, 1),
  some (.if_icmp .ne 53, 3), none, none, some (.aload 1, 1), some (.getfield 640, 3), none, none, some (.iconst 6, 2),
  none, some (.iload 2, 1), some (.iadd, 1), some (.iload 5, 2), none, some (.iconst 4, 1), some (.isub, 1), some (.iconst 0, 1),
  some (.invokestatic 247, 3), none, none, some (.iastore, 1), some (.return_, 1), some (.iload 3, 1), some (.ifCond .eq 72, 3), none,
  none, some (.iconst 2, 1), some (.aload 0, 1), some (.getfield 2, 3), none, none, some (.getfield 128, 3), none,
  none, some (.iload 4, 2), none, some (.iaload, 1), some (.imul, 1), some (.goto 82, 3), none, none,
  some (.aload 0, 1), some (.getfield 2, 3), none, none, some (.getfield 128, 3), none, none, some (.iload 4, 2),
  none, some (.iaload, 1), some (.istore 6, 2), none, some (.iload 5, 2), none, some (.aload 0, 1), some (.aload 1, 1),
  some (.iload 2, 1), some (.invokevirtual 6, 3), none, none, some (.iload 6, 2), none, some (.imul, 1), some (.iadd, 1),
  some (.iconst 99, 2), none, some (.invokestatic 248, 3), none, none, some (.istore 5, 2), none, some (.aload 1, 1),
  some (.getfield 640, 3), none, none, some (.iconst 6, 2), none, some (.iload 2, 1), some (.iadd, 1), some (.iload 5, 2),
  none, some (.iastore, 1), some (.iload 5, 2), none, some (.iconst 60, 2), none, some (.if_icmp .lt 153, 3), none,
  none, some (.aload 1, 1), some (.getfield 640, 3), none, none, some (.iconst 12, 2), none, some (.iload 2, 1),
  some (.iadd, 1), some (.iaload, 1), some (.ifCond .ne 153, 3), none, none, some (.aload 1, 1), some (.getfield 640, 3), none,
  none, some (.iconst 12, 2), none, some (.iload 2, 1), some (.iadd, 1), some (.iconst 1, 1), some (.iastore, 1), some (.aload 0, 1),
  some (.dup, 1), some (.getfield 5, 3), none, none, some (.iconst 1, 1), some (.iadd, 1), some (.putfield 5, 3), none,
  none, some (.return_, 1)]
def xg6 : List (Option (Instr × Nat)) := [some (.aload 0, 1), some (.getfield 4, 3), none, none, some (.iload 2, 1), some (.if_icmp .ne 10, 3), none, none,
  some (.iconst 0, 1), some (.ireturn, 1), some (.iconst 0, 1), some (.istore 3, 1), some (.iconst 0, 1), some (.istore 4, 2), none, some (.iload 4, 2),
  none, some (.iconst 2, 1), some (.if_icmp .ge 76, 3), none, none, some (.aload 1, 1), some (.getfield 640, 3), none,
  none, some (.iconst 28, 2), none, some (.iload 4, 2), none, some (.iadd, 1), some (.iaload, 1), some (.aload 0, 1),
  some (.getfield 2, 3), none, none, some (.getfield 136, 3), none, none, some (.if_icmp .ge 45, 3), none,
  none, some (.iconst 1, 1), some (.goto 46, 3), none, none, some (.iconst 0, 1), some (.istore 5, 2), none,
  some (.aload 1, 1), some (.getfield 640, 3), none, none, some (.iconst 24, 2), none, some (.iload 4, 2), none,
  some (.iadd, 1), some (.iaload, 1), some (.iload 2, 1), some (.if_icmp .ne 67, 3), none, none, some (.iload 5, 2), none,
  some (.ifCond .ne 70, 3), none, none, some (.iinc 3 1, 3), none, none, some (.iinc 4 1, 3), none,
  none, some (.goto 15, 3), none, none, some (.iload 3, 1), some (.ireturn, 1)]
def xg7 : List (Option (Instr × Nat)) := [some (.aload 1, 1), some (.getfield 640, 3), none, none, some (.iconst 30, 2), none, some (.iaload, 1), some (.iconst 23, 2),
  none, some (.if_icmp .ge 24, 3), none, none, some (.aload 1, 1), some (.getfield 640, 3), none, none,
  some (.iconst 30, 2), none, some (.dup2, 1), some (.iaload, 1), some (.iconst 1, 1), some (.iadd, 1), some (.iastore, 1), some (.return_, 1),
  some (.aload 1, 1), some (.getfield 640, 3), none, none, some (.iconst 30, 2), none, some (.iconst 0, 1), some (.iastore, 1),
  some (.aload 1, 1), some (.getfield 640, 3), none, none, some (.iconst 31, 2), none, some (.aload 1, 1), some (.getfield 640, 3),
  none, none, some (.iconst 31, 2), none, some (.iaload, 1), some (.iconst 1, 1), some (.iadd, 1), some (.iconst 999, 3),
  none, none, some (.invokestatic 248, 3), none, none, some (.iastore, 1), some (.iconst 0, 1), some (.istore 2, 1),
  some (.iload 2, 1), some (.aload 0, 1), some (.getfield 2, 3), none, none, some (.getfield 138, 3), none, none,
  some (.if_icmp .ge 110, 3), none, none, some (.aload 1, 1), some (.getfield 640, 3), none, none, some (.iconst 0, 1),
  some (.iload 2, 1), some (.iadd, 1), some (.aload 0, 1), some (.getfield 2, 3), none, none, some (.getfield 129, 3), none,
  none, some (.iload 2, 1), some (.iaload, 1), some (.iastore, 1), some (.aload 1, 1), some (.getfield 640, 3), none, none,
  some (.iconst 6, 2), none, some (.iload 2, 1), some (.iadd, 1), some (.iconst 0, 1), some (.iastore, 1), some (.aload 1, 1), some (.getfield 640, 3),
  none, none, some (.iconst 12, 2), none, some (.iload 2, 1), some (.iadd, 1), some (.iconst 0, 1), some (.iastore, 1),
  some (.iinc 2 1, 3), none, none, some (.goto 56, 3), none, none, some (.return_, 1)]
def xg8 : List (Option (Instr × Nat)) := [some (.aload 0, 1), some (.invokespecial 9999, 3), none, none, some (.aload 0, 1), some (.new 2, 3), none, none,
  some (.dup, 1), some (.invokespecial 9, 3), none, none, some (.putfield 64, 3), none, none, some (.aload 0, 1),
  some (.new 10, 3), none, none, some (.dup, 1), some (.invokespecial 79, 3), none, none, some (.putfield 65, 3),
  none, none, some (.aload 0, 1), some (.new 4, 3), none, none, some (.dup, 1), some (.invokespecial 29, 3),
  none, none, some (.putfield 66, 3), none, none, some (.aload 0, 1), some (.iconst (-1), 1), some (.putfield 67, 3),
  none, none, some (.aload 0, 1), some (.iconst 0, 1), some (.putfield 68, 3), none, none, some (.return_, 1)]
def xg9 : List (Option (Instr × Nat)) := [some (.aload 0, 1), some (.invokespecial 9999, 3), none, none, some (.aload 0, 1), some (.iconst 10, 2), none, some (.newarray .int, 2),
  none, some (.putfield 128, 3), none, none, some (.aload 0, 1), some (.iconst 6, 2), none, some (.newarray .int, 2),
  none, some (.putfield 129, 3), none, none, some (.aload 0, 1), some (.iconst 6, 2), none, some (.newarray .int, 2),
  none, some (.putfield 130, 3), none, none, some (.aload 0, 1), some (.iconst 8, 2), none, some (.newarray .int, 2),
  none, some (.putfield 131, 3), none, none, some (.aload 0, 1), some (.iconst 40, 2), none, some (.newarray .int, 2),
  none, some (.putfield 132, 3), none, none, some (.aload 0, 1), some (.iconst 4, 1), some (.newarray .int, 2), none,
  some (.putfield 133, 3), none, none, some (.aload 0, 1), some (.iconst 0, 1), some (.putfield 134, 3), none, none,
  some (.aload 0, 1), some (.iconst 0, 1), some (.putfield 135, 3), none, none, some (.aload 0, 1), some (.iconst 0, 1), some (.putfield 136, 3),
  none, none, some (.aload 0, 1), some (.iconst 0, 1), some (.putfield 137, 3), none, none, some (.aload 0, 1),
  some (.iconst 0, 1), some (.putfield 138, 3), none, none, some (.aload 0, 1), some (.iconst 0, 1), some (.putfield 139, 3), none,
  none, some (.aload 0, 1), some (.iconst 0, 1), some (.putfield 140, 3), none, none, some (.return_, 1)]
def xg10 : List (Option (Instr × Nat)) := [some (.aload 1, 1), some (.getfield 128, 3), none, none, some (.iconst 0, 1), some (.aload 0, 1), some (.getfield 128, 3), none,
  none, some (.iconst 0, 1), some (.aload 0, 1), some (.getfield 128, 3), none, none, some (.arraylength, 1), some (.invokestatic 9998, 3),
  none, none, some (.aload 1, 1), some (.getfield 129, 3), none, none, some (.iconst 0, 1), some (.aload 0, 1),
  some (.getfield 129, 3), none, none, some (.iconst 0, 1), some (.aload 0, 1), some (.getfield 129, 3), none, none,
  some (.arraylength, 1), some (.invokestatic 9998, 3), none, none, some (.aload 1, 1), some (.getfield 130, 3), none, none,
  some (.iconst 0, 1), some (.aload 0, 1), some (.getfield 130, 3), none, none, some (.iconst 0, 1), some (.aload 0, 1), some (.getfield 130, 3),
  none, none, some (.arraylength, 1), some (.invokestatic 9998, 3), none, none, some (.aload 1, 1), some (.getfield 131, 3),
  none, none, some (.iconst 0, 1), some (.aload 0, 1), some (.getfield 131, 3), none, none, some (.iconst 0, 1),
  some (.aload 0, 1), some (.getfield 131, 3), none, none, some (.arraylength, 1), some (.invokestatic 9998, 3), none, none,
  some (.aload 1, 1), some (.getfield 132, 3), none, none, some (.iconst 0, 1), some (.aload 0, 1), some (.getfield 132, 3), none,
  none, some (.iconst 0, 1), some (.aload 0, 1), some (.getfield 132, 3), none, none, some (.arraylength, 1), some (.invokestatic 9998, 3),
  none, none, some (.aload 0, 1), some (.aload 1, 1), some (.getfield 134, 3), none, none, some (.putfield 134, 3),
  none, none, some (.aload 0, 1), some (.aload 1, 1), some (.getfield 135, 3), none, none, some (.putfield 135, 3),
  none, none, some (.aload 0, 1), some (.aload 1, 1), some (.getfield 136, 3), none, none, some (.putfield 136, 3),
  none, none, some (.aload 0, 1), some (.aload 1, 1), some (.getfield 137, 3), none, none, some (.putfield 137, 3),
  none, none, some (.aload 0, 1), some (.aload 1, 1), some (.getfield 138, 3), none, none, some (.putfield 138, 3),
  none, none, some (.aload 0, 1), some (.aload 1, 1), some (.getfield 139, 3), none, none, some (.putfield 139, 3),
  none, none, some (.aload 0, 1), some (.aload 1, 1), some (.getfield 140, 3), none, none, some (.putfield 140, 3),
  none, none, some (.return_, 1)]
def xg11 : List (Option (Instr × Nat)) := [some (.aload 0, 1), some (.getfield 130, 3), none, none, some (.iload 1, 1), some (.iaload, 1), some (.aload 0, 1), some (.getfield 135, 3),
  none, none, some (.if_icmp .gt 17, 3), none, none, some (.iconst 1, 1), some (.goto 18, 3), none,
  none, some (.iconst 0, 1), some (.ireturn, 1)]
def xg12 : List (Option (Instr × Nat)) := [some (.iconst 0, 1), some (.istore 2, 1), some (.iload 2, 1), some (.aload 0, 1), some (.getfield 139, 3), none, none, some (.if_icmp .ge 44, 3),
  none, none, some (.aload 0, 1), some (.getfield 131, 3), none, none, some (.iconst 2, 1), some (.iload 2, 1),
  some (.imul, 1), some (.iaload, 1), some (.iload 1, 1), some (.if_icmp .gt 38, 3), none, none, some (.iload 1, 1), some (.aload 0, 1),
  some (.getfield 131, 3), none, none, some (.iconst 2, 1), some (.iload 2, 1), some (.imul, 1), some (.iconst 1, 1), some (.iadd, 1),
  some (.iaload, 1), some (.if_icmp .gt 38, 3), none, none, some (.iconst 1, 1), some (.ireturn, 1), some (.iinc 2 1, 3), none,
  none, some (.goto 2, 3), none, none, some (.iconst 0, 1), some (.ireturn, 1)]
def xg13 : List (Option (Instr × Nat)) := [some (.iconst (-1), 1), some (.istore 3, 1), some (.iconst 24, 2), none, some (.istore 4, 2), none, some (.iconst 0, 1), some (.istore 5, 2),
  none, some (.iload 5, 2), none, some (.aload 0, 1), some (.getfield 140, 3), none, none, some (.if_icmp .ge 70, 3),
  none, none, some (.aload 0, 1), some (.getfield 132, 3), none, none, some (.iconst 4, 1), some (.iload 5, 2),
  none, some (.imul, 1), some (.iconst 2, 1), some (.iadd, 1), some (.iaload, 1), some (.istore 6, 2), none, some (.aload 0, 1),
  some (.getfield 132, 3), none, none, some (.iconst 4, 1), some (.iload 5, 2), none, some (.imul, 1), some (.iaload, 1),
  some (.iload 1, 1), some (.if_icmp .ne 64, 3), none, none, some (.iload 6, 2), none, some (.iload 2, 1), some (.if_icmp .lt 64, 3),
  none, none, some (.iload 6, 2), none, some (.iload 4, 2), none, some (.if_icmp .ge 64, 3), none,
  none, some (.iload 5, 2), none, some (.istore 3, 1), some (.iload 6, 2), none, some (.istore 4, 2), none,
  some (.iinc 5 1, 3), none, none, some (.goto 9, 3), none, none, some (.iload 3, 1), some (.ireturn, 1)]
def xg14 : List (Option (Instr × Nat)) := [some (.aload 0, 1), some (.iload 1, 1), some (.iload 2, 1), some (.invokevirtual 13, 3), none, none, some (.istore 3, 1), some (.iload 3, 1),
  some (.ifCond .ge 20, 3), none, none, some (.aload 0, 1), some (.getfield 129, 3), none, none, some (.iload 1, 1),
  some (.iaload, 1), some (.goto 30, 3), none, none, some (.aload 0, 1), some (.getfield 132, 3), none, none,
  some (.iconst 4, 1), some (.iload 3, 1), some (.imul, 1), some (.iconst 1, 1), some (.iadd, 1), some (.iaload, 1), some (.ireturn, 1)]
def xg15 : List (Option (Instr × Nat)) := [some (.aload 0, 1), some (.invokevirtual 16, 3), none, none, some (.aload 1, 1), some (.invokevirtual 57, 3), none, none,
  some (.iconst 0, 1), some (.istore 2, 1), some (.iload 2, 1), some (.iconst 40, 2), none, some (.if_icmp .gt 121, 3), none, none,
  some (.aload 1, 1), some (.ldc 0, 2), none, some (.invokevirtual 62, 3), none, none, some (.istore 3, 1), some (.iload 3, 1),
  some (.ifCond .ge 33, 3), none, none, some (.aload 1, 1), some (.iconst 0, 1), some (.invokevirtual 64, 3), none, none,
  some (.ireturn, 1), some (.iload 2, 1), some (.iconst 40, 2), none, some (.if_icmp .eq 56, 3), none, none, some (.aload 0, 1),
  some (.iload 3, 1), some (.iload 2, 1), some (.ifCond .ne 49, 3), none, none, some (.iconst 1, 1), some (.goto 50, 3), none,
  none, some (.iconst 0, 1), some (.invokevirtual 18, 3), none, none, some (.ifCond .ne 62, 3), none, none,
  some (.aload 1, 1), some (.iconst 4, 1), some (.invokevirtual 64, 3), none, none, some (.ireturn, 1), some (.aload 1, 1), some (.invokevirtual 58, 3),
  none, none, some (.aload 0, 1), some (.aload 1, 1), some (.iload 3, 1), some (.invokevirtual 19, 3), none, none,
  some (.ifCond .ne 77, 3), none, none, some (.iconst 0, 1), some (.ireturn, 1), some (.aload 1, 1), some (.iconst 59, 2), none,
  some (.invokevirtual 60, 3), none, none, some (.ifCond .ne 111, 3), none, none, some (.aload 0, 1), some (.invokevirtual 17, 3),
  none, none, some (.aload 1, 1), some (.getfield 515, 3), none, none, some (.ifCond .eq 105, 3), none,
  none, some (.aload 1, 1), some (.iconst 0, 1), some (.invokevirtual 64, 3), none, none, some (.ifCond .eq 109, 3), none,
  none, some (.iconst 1, 1), some (.goto 110, 3), none, none, some (.iconst 0, 1), some (.ireturn, 1), some (.aload 1, 1),
  some (.invokevirtual 58, 3), none, none, some (.iinc 2 1, 3), none, none, some (.goto 10, 3), none,
  none, some (.iconst 0, 1), some (.ireturn, 1)]
def xg16 : List (Option (Instr × Nat)) := [some (.aload 0, 1), some (.getfield 128, 3), none, none, some (.iconst 0, 1), some (.invokestatic 255, 3), none, none,
  some (.aload 0, 1), some (.iconst 0, 1), some (.putfield 134, 3), none, none, some (.aload 0, 1), some (.iconst 0, 1), some (.putfield 135, 3),
  none, none, some (.aload 0, 1), some (.iconst (-1), 1), some (.putfield 136, 3), none, none, some (.aload 0, 1),
  some (.iconst (-1), 1), some (.putfield 137, 3), none, none, some (.aload 0, 1), some (.iconst 0, 1), some (.putfield 138, 3), none,
  none, some (.aload 0, 1), some (.iconst 0, 1), some (.putfield 139, 3), none, none, some (.aload 0, 1), some (.iconst 0, 1),
  some (.putfield 140, 3), none, none, some (.return_, 1)]
def xg17 : List (Option (Instr × Nat)) := [some (.aload 0, 1), some (.aload 0, 1), some (.getfield 136, 3), none, none, some (.iconst (-1), 1), some (.if_icmp .ne 14, 3), none,
  none, some (.iconst 30, 2), none, some (.goto 18, 3), none, none, some (.aload 0, 1), some (.getfield 136, 3),
  none, none, some (.putfield 136, 3), none, none, some (.aload 0, 1), some (.aload 0, 1), some (.getfield 137, 3),
  none, none, some (.iconst (-1), 1), some (.if_icmp .ne 34, 3), none, none, some (.iconst 0, 1), some (.goto 38, 3),
  none, none, some (.aload 0, 1), some (.getfield 137, 3), none, none, some (.putfield 137, 3), none,
  none, some (.return_, 1)]
def xg18 : List (Option (Instr × Nat)) := [some (.iload 2, 1), some (.ifCond .ne 8, 3), none, none, some (.iload 1, 1), some (.ifCond .ne 22, 3), none, none,
  some (.iload 2, 1), some (.ifCond .eq 20, 3), none, none, some (.iload 1, 1), some (.ifCond .ne 20, 3), none, none,
  some (.iconst 1, 1), some (.goto 21, 3), none, none, some (.iconst 0, 1), some (.ireturn, 1), some (.iload 1, 1), some (.tableswitch 116 1 5 #[56, 71, 73, 87, 102], 33),
  none, none, none, none, none, none, none, none,
  none, none, none, none, none, none, none, none,
  none, none, none, none, none, none, none, none,
  none, none, none, none, none, none, none, none,
  some (.aload 0, 1), some (.getfield 138, 3), none, none, some (.iconst 6, 2), none, some (.if_icmp .ge 69, 3), none,
  none, some (.iconst 1, 1), some (.goto 70, 3), none, none, some (.iconst 0, 1), some (.ireturn, 1), some (.iconst 1, 1),
  some (.ireturn, 1), some (.aload 0, 1), some (.getfield 139, 3), none, none, some (.iconst 4, 1), some (.if_icmp .ge 85, 3), none,
  none, some (.iconst 1, 1), some (.goto 86, 3), none, none, some (.iconst 0, 1), some (.ireturn, 1), some (.aload 0, 1),
  some (.getfield 140, 3), none, none, some (.iconst 10, 2), none, some (.if_icmp .ge 100, 3), none, none,
  some (.iconst 1, 1), some (.goto 101, 3), none, none, some (.iconst 0, 1), some (.ireturn, 1), some (.aload 0, 1), some (.getfield 136, 3),
  none, none, some (.iconst (-1), 1), some (.if_icmp .ne 114, 3), none, none, some (.iconst 1, 1), some (.goto 115, 3),
  none, none, some (.iconst 0, 1), some (.ireturn, 1), some (.aload 0, 1), some (.getfield 137, 3), none, none,
  some (.iconst (-1), 1), some (.if_icmp .ne 128, 3), none, none, some (.iconst 1, 1), some (.goto 129, 3), none, none,
  some (.iconst 0, 1), some (.ireturn, 1)]
def xg19 : List (Option (Instr × Nat)) := [some (.iload 2, 1), some (.tableswitch 96 0 5 #[40, 46, 52, 58, 64, 70], 39), none, none, none, none, none, none,
  none, none, none, none, none, none, none, none,
  none, none, none, none, none, none, none, none,
  none, none, none, none, none, none, none, none,
  none, none, none, none, none, none, none, none,
  some (.aload 0, 1), some (.aload 1, 1), some (.invokevirtual 20, 3), none, none, some (.ireturn, 1), some (.aload 0, 1), some (.aload 1, 1),
  some (.invokevirtual 21, 3), none, none, some (.ireturn, 1), some (.aload 0, 1), some (.aload 1, 1), some (.invokevirtual 22, 3), none,
  none, some (.ireturn, 1), some (.aload 0, 1), some (.aload 1, 1), some (.invokevirtual 23, 3), none, none, some (.ireturn, 1),
  some (.aload 0, 1), some (.aload 1, 1), some (.invokevirtual 24, 3), none, none, some (.ireturn, 1), some (.aload 0, 1), some (.aload 1, 1),
  some (.iconst 0, 1), some (.iconst 1, 1), some (.iconst 99, 2), none, some (.invokevirtual 25, 3), none, none, some (.ifCond .ne 84, 3),
  none, none, some (.iconst 0, 1), some (.ireturn, 1), some (.aload 0, 1), some (.aload 0, 1), some (.getfield 133, 3), none,
  none, some (.iconst 0, 1), some (.iaload, 1), some (.putfield 136, 3), none, none, some (.iconst 1, 1), some (.ireturn, 1),
  some (.aload 0, 1), some (.aload 1, 1), some (.iconst 0, 1), some (.iconst 0, 1), some (.aload 0, 1), some (.getfield 134, 3), none, none,
  some (.iconst 1, 1), some (.isub, 1), some (.invokevirtual 25, 3), none, none, some (.ifCond .ne 114, 3), none, none,
  some (.iconst 0, 1), some (.ireturn, 1), some (.aload 0, 1), some (.aload 0, 1), some (.getfield 133, 3), none, none, some (.iconst 0, 1),
  some (.iaload, 1), some (.putfield 137, 3), none, none, some (.iconst 1, 1), some (.ireturn, 1)]
def xg20 : List (Option (Instr × Nat)) := [some (.aload 0, 1), some (.aload 1, 1), some (.iconst 0, 1), some (.iconst 2, 1), some (.iconst 10, 2), none, some (.invokevirtual 25, 3), none,
  none, some (.ifCond .eq 24, 3), none, none, some (.aload 0, 1), some (.aload 1, 1), some (.iconst 1, 1), some (.iconst 0, 1),
  some (.iconst 9, 2), none, some (.invokevirtual 25, 3), none, none, some (.ifCond .ne 26, 3), none, none,
  some (.iconst 0, 1), some (.ireturn, 1), some (.aload 0, 1), some (.aload 0, 1), some (.getfield 133, 3), none, none, some (.iconst 0, 1),
  some (.iaload, 1), some (.putfield 134, 3), none, none, some (.aload 0, 1), some (.aload 0, 1), some (.getfield 133, 3), none,
  none, some (.iconst 1, 1), some (.iaload, 1), some (.putfield 135, 3), none, none, some (.iconst 1, 1), some (.ireturn, 1)]
def xg21 : List (Option (Instr × Nat)) := [some (.aload 0, 1), some (.aload 1, 1), some (.iconst 0, 1), some (.iconst 0, 1), some (.aload 0, 1), some (.getfield 134, 3), none, none,
  some (.iconst 1, 1), some (.isub, 1), some (.invokevirtual 25, 3), none, none, some (.ifCond .eq 28, 3), none, none,
  some (.aload 0, 1), some (.aload 1, 1), some (.iconst 1, 1), some (.iconst 0, 1), some (.iconst 9, 2), none, some (.invokevirtual 25, 3), none,
  none, some (.ifCond .ne 30, 3), none, none, some (.iconst 0, 1), some (.ireturn, 1), some (.aload 0, 1), some (.getfield 129, 3),
  none, none, some (.aload 0, 1), some (.getfield 138, 3), none, none, some (.aload 0, 1), some (.getfield 133, 3),
  none, none, some (.iconst 0, 1), some (.iaload, 1), some (.iastore, 1), some (.aload 0, 1), some (.getfield 130, 3), none,
  none, some (.aload 0, 1), some (.getfield 138, 3), none, none, some (.aload 0, 1), some (.getfield 133, 3), none,
  none, some (.iconst 1, 1), some (.iaload, 1), some (.iastore, 1), some (.aload 0, 1), some (.dup, 1), some (.getfield 138, 3), none,
  none, some (.iconst 1, 1), some (.iadd, 1), some (.putfield 138, 3), none, none, some (.iconst 1, 1), some (.ireturn, 1)]
def xg22 : List (Option (Instr × Nat)) := [some (.aload 0, 1), some (.aload 1, 1), some (.iconst 0, 1), some (.iconst 0, 1), some (.aload 0, 1), some (.getfield 134, 3), none, none,
  some (.iconst 1, 1), some (.isub, 1), some (.invokevirtual 25, 3), none, none, some (.ifCond .eq 28, 3), none, none,
  some (.aload 0, 1), some (.aload 1, 1), some (.iconst 1, 1), some (.iconst 0, 1), some (.iconst 9, 2), none, some (.invokevirtual 25, 3), none,
  none, some (.ifCond .ne 30, 3), none, none, some (.iconst 0, 1), some (.ireturn, 1), some (.aload 0, 1), some (.getfield 128, 3),
  none, none, some (.aload 0, 1), some (.getfield 133, 3), none, none, some (.iconst 0, 1), some (.iaload, 1),
  some (.aload 0, 1), some (.getfield 133, 3), none, none, some (.iconst 1, 1), some (.iaload, 1), some (.iastore, 1), some (.iconst 1, 1),
  some (.ireturn, 1)]
def xg23 : List (Option (Instr × Nat)) := [some (.aload 0, 1), some (.aload 1, 1), some (.iconst 0, 1), some (.iconst 0, 1), some (.iconst 23, 2), none, some (.invokevirtual 25, 3), none,
  none, some (.ifCond .eq 29, 3), none, none, some (.aload 0, 1), some (.aload 1, 1), some (.iconst 1, 1), some (.aload 0, 1),
  some (.getfield 133, 3), none, none, some (.iconst 0, 1), some (.iaload, 1), some (.iconst 23, 2), none, some (.invokevirtual 25, 3),
  none, none, some (.ifCond .ne 31, 3), none, none, some (.iconst 0, 1), some (.ireturn, 1), some (.aload 0, 1),
  some (.getfield 131, 3), none, none, some (.iconst 2, 1), some (.aload 0, 1), some (.getfield 139, 3), none, none,
  some (.imul, 1), some (.aload 0, 1), some (.getfield 133, 3), none, none, some (.iconst 0, 1), some (.iaload, 1), some (.iastore, 1),
  some (.aload 0, 1), some (.getfield 131, 3), none, none, some (.iconst 2, 1), some (.aload 0, 1), some (.getfield 139, 3), none,
  none, some (.imul, 1), some (.iconst 1, 1), some (.iadd, 1), some (.aload 0, 1), some (.getfield 133, 3), none, none,
  some (.iconst 1, 1), some (.iaload, 1), some (.iastore, 1), some (.aload 0, 1), some (.dup, 1), some (.getfield 139, 3), none, none,
  some (.iconst 1, 1), some (.iadd, 1), some (.putfield 139, 3), none, none, some (.iconst 1, 1), some (.ireturn, 1)]
def xg24 : List (Option (Instr × Nat)) := [some (.aload 0, 1), some (.aload 1, 1), some (.iconst 0, 1), some (.iconst 0, 1), some (.aload 0, 1), some (.getfield 138, 3), none, none,
  some (.iconst 1, 1), some (.isub, 1), some (.invokevirtual 25, 3), none, none, some (.ifCond .eq 60, 3), none, none,
  some (.aload 0, 1), some (.aload 1, 1), some (.iconst 1, 1), some (.iconst 0, 1), some (.aload 0, 1), some (.getfield 134, 3), none, none,
  some (.iconst 1, 1), some (.isub, 1), some (.invokevirtual 25, 3), none, none, some (.ifCond .eq 60, 3), none, none,
  some (.aload 0, 1), some (.aload 1, 1), some (.iconst 2, 1), some (.iconst 0, 1), some (.iconst 23, 2), none, some (.invokevirtual 25, 3), none,
  none, some (.ifCond .eq 60, 3), none, none, some (.aload 0, 1), some (.aload 1, 1), some (.iconst 3, 1), some (.iconst 1, 1),
  some (.iconst 50, 2), none, some (.invokevirtual 25, 3), none, none, some (.ifCond .eq 60, 3), none, none,
  some (.iconst 1, 1), some (.goto 61, 3), none, none, some (.iconst 0, 1), some (.istore 2, 1), some (.iload 2, 1), some (.ifCond .ne 68, 3),
  none, none, some (.iconst 0, 1), some (.ireturn, 1), some (.aload 0, 1), some (.getfield 133, 3), none, none,
  some (.iconst 0, 1), some (.aload 0, 1), some (.getfield 132, 3), none, none, some (.iconst 4, 1), some (.aload 0, 1), some (.getfield 140, 3),
  none, none, some (.imul, 1), some (.iconst 4, 1), some (.invokestatic 9998, 3), none, none, some (.aload 0, 1),
  some (.dup, 1), some (.getfield 140, 3), none, none, some (.iconst 1, 1), some (.iadd, 1), some (.putfield 140, 3), none,
  none, some (.iconst 1, 1), some (.ireturn, 1)]
def xg25 : List (Option (Instr × Nat)) := [some (.aload 1, 1), some (.getfield 515, 3), none, none, some (.iconst 2, 1), some (.if_icmp .eq 14, 3), none, none,
  some (.aload 1, 1), some (.iconst 0, 1), some (.invokevirtual 64, 3), none, none, some (.ireturn, 1), some (.aload 1, 1), some (.invokevirtual 61, 3),
  none, none, some (.ifCond .ne 38, 3), none, none, some (.aload 1, 1), some (.getfield 518, 3), none,
  none, some (.iload 3, 1), some (.if_icmp .lt 38, 3), none, none, some (.aload 1, 1), some (.getfield 518, 3), none,
  none, some (.iload 4, 2), none, some (.if_icmp .le 44, 3), none, none, some (.aload 1, 1), some (.iconst 1, 1),
  some (.invokevirtual 64, 3), none, none, some (.ireturn, 1), some (.aload 0, 1), some (.getfield 133, 3), none, none,
  some (.iload 2, 1), some (.aload 1, 1), some (.getfield 518, 3), none, none, some (.iastore, 1), some (.aload 1, 1), some (.invokevirtual 58, 3),
  none, none, some (.iconst 1, 1), some (.ireturn, 1)]
def xg26 : List (Option (Instr × Nat)) := [some (.aload 0, 1), some (.invokespecial 9999, 3), none, none, some (.aload 0, 1), some (.iconst 660, 3), none, none,
  some (.newarray .int, 2), none, some (.putfield 192, 3), none, none, some (.aload 0, 1), some (.iconst 0, 1), some (.putfield 193, 3),
  none, none, some (.aload 0, 1), some (.iconst 0, 1), some (.putfield 194, 3), none, none, some (.return_, 1)]
def xg27 : List (Option (Instr × Nat)) := [some (.aload 1, 1), some (.getfield 640, 3), none, none, some (.iconst 0, 1), some (.aload 0, 1), some (.getfield 192, 3), none,
  none, some (.aload 0, 1), some (.getfield 193, 3), none, none, some (.iconst 33, 2), none, some (.imul, 1),
  some (.iconst 33, 2), none, some (.invokestatic 9998, 3), none, none, some (.aload 0, 1), some (.aload 0, 1), some (.getfield 193, 3),
  none, none, some (.iconst 1, 1), some (.iadd, 1), some (.iconst 20, 2), none, some (.irem, 1), some (.putfield 193, 3),
  none, none, some (.aload 0, 1), some (.aload 0, 1), some (.getfield 194, 3), none, none, some (.iconst 1, 1),
  some (.iadd, 1), some (.iconst 20, 2), none, some (.invokestatic 248, 3), none, none, some (.putfield 194, 3), none,
  none, some (.return_, 1)]
def xg28 : List (Option (Instr × Nat)) := [some (.aload 0, 1), some (.getfield 194, 3), none, none, some (.ifCond .ne 9, 3), none, none, some (.iconst 0, 1),
  some (.ireturn, 1), some (.aload 0, 1), some (.dup, 1), some (.getfield 194, 3), none, none, some (.iconst 1, 1), some (.isub, 1),
  some (.putfield 194, 3), none, none, some (.aload 0, 1), some (.aload 0, 1), some (.getfield 193, 3), none, none,
  some (.iconst 20, 2), none, some (.iadd, 1), some (.iconst 1, 1), some (.isub, 1), some (.iconst 20, 2), none, some (.irem, 1),
  some (.putfield 193, 3), none, none, some (.aload 0, 1), some (.getfield 192, 3), none, none, some (.aload 0, 1),
  some (.getfield 193, 3), none, none, some (.iconst 33, 2), none, some (.imul, 1), some (.aload 1, 1), some (.getfield 640, 3),
  none, none, some (.iconst 0, 1), some (.iconst 33, 2), none, some (.invokestatic 9998, 3), none, none,
  some (.iconst 1, 1), some (.ireturn, 1)]
def xg29 : List (Option (Instr × Nat)) := [some (.aload 0, 1), some (.invokespecial 9999, 3), none, none, some (.aload 0, 1), some (.iconst 40, 2), none, some (.newarray .int, 2),
  none, some (.putfield 256, 3), none, none, some (.aload 0, 1), some (.iconst 0, 1), some (.putfield 257, 3), none,
  none, some (.return_, 1)]
def xg30 : List (Option (Instr × Nat)) := [some (.aload 0, 1), some (.getfield 257, 3), none, none, some (.iconst 10, 2), none, some (.if_icmp .ge 82, 3), none,
  none, some (.aload 0, 1), some (.getfield 256, 3), none, none, some (.iconst 4, 1), some (.aload 0, 1), some (.getfield 257, 3),
  none, none, some (.imul, 1), some (.iload 1, 1), some (.iastore, 1), some (.aload 0, 1), some (.getfield 256, 3), none,
  none, some (.iconst 4, 1), some (.aload 0, 1), some (.getfield 257, 3), none, none, some (.imul, 1), some (.iconst 1, 1),
  some (.iadd, 1), some (.iload 2, 1), some (.iastore, 1), some (.aload 0, 1), some (.getfield 256, 3), none, none, some (.iconst 4, 1),
  some (.aload 0, 1), some (.getfield 257, 3), none, none, some (.imul, 1), some (.iconst 2, 1), some (.iadd, 1), some (.iload 3, 1),
  some (.iastore, 1), some (.aload 0, 1), some (.getfield 256, 3), none, none, some (.iconst 4, 1), some (.aload 0, 1), some (.getfield 257, 3),
  none, none, some (.imul, 1), some (.iconst 3, 1), some (.iadd, 1), some (.iload 4, 2), none, some (.ifCond .eq 70, 3),
  none, none, some (.iconst 1, 1), some (.goto 71, 3), none, none, some (.iconst 0, 1), some (.iastore, 1),
  some (.aload 0, 1), some (.dup, 1), some (.getfield 257, 3), none, none, some (.iconst 1, 1), some (.iadd, 1), some (.putfield 257, 3),
  none, none, some (.return_, 1)]
def xg31 : List (Option (Instr × Nat)) := [some (.aload 1, 1), some (.getfield 256, 3), none, none, some (.iconst 0, 1), some (.aload 0, 1), some (.getfield 256, 3), none,
  none, some (.iconst 0, 1), some (.aload 0, 1), some (.getfield 256, 3), none, none, some (.arraylength, 1), some (.invokestatic 9998, 3),
  none, none, some (.aload 0, 1), some (.aload 1, 1), some (.getfield 257, 3), none, none, some (.putfield 257, 3),
  none, none, some (.return_, 1)]
def xg32 : List (Option (Instr × Nat)) := [some (.iconst 0, 1), some (.istore 1, 1), some (.iconst 0, 1), some (.istore 2, 1), some (.iload 2, 1), some (.aload 0, 1), some (.getfield 257, 3), none,
  none, some (.if_icmp .ge 31, 3), none, none, some (.iload 1, 1), some (.aload 0, 1), some (.getfield 256, 3), none,
  none, some (.iconst 4, 1), some (.iload 2, 1), some (.imul, 1), some (.iaload, 1), some (.invokestatic 247, 3), none, none,
  some (.istore 1, 1), some (.iinc 2 1, 3), none, none, some (.goto 4, 3), none, none, some (.iload 1, 1),
  some (.ireturn, 1)]
def xg33 : List (Option (Instr × Nat)) := [some (.iconst 0, 1), some (.istore 4, 2), none, some (.iload 4, 2), none, some (.aload 0, 1), some (.getfield 257, 3), none,
  none, some (.if_icmp .ge 131, 3), none, none, some (.aload 0, 1), some (.getfield 256, 3), none, none,
  some (.iconst 4, 1), some (.iload 4, 2), none, some (.imul, 1), some (.iaload, 1), some (.iload 3, 1), some (.if_icmp .eq 28, 3), none,
  none, some (.goto 125, 3), none, none, some (.iconst 0, 1), some (.istore 5, 2), none, some (.iconst 0, 1),
  some (.istore 6, 2), none, some (.iload 6, 2), none, some (.iload 2, 1), some (.if_icmp .ge 107, 3), none, none,
  some (.aload 1, 1), some (.getfield 640, 3), none, none, some (.iconst 0, 1), some (.iload 6, 2), none, some (.iadd, 1),
  some (.iaload, 1), some (.aload 0, 1), some (.getfield 256, 3), none, none, some (.iconst 4, 1), some (.iload 4, 2), none,
  some (.imul, 1), some (.iconst 1, 1), some (.iadd, 1), some (.iaload, 1), some (.if_icmp .ne 67, 3), none, none, some (.iconst 1, 1),
  some (.goto 68, 3), none, none, some (.iconst 0, 1), some (.istore 7, 2), none, some (.iload 7, 2), none,
  some (.ifCond .eq 101, 3), none, none, some (.aload 1, 1), some (.iload 6, 2), none, some (.invokevirtual 84, 3), none,
  none, some (.invokestatic 245, 3), none, none, some (.aload 0, 1), some (.getfield 256, 3), none, none,
  some (.iconst 4, 1), some (.iload 4, 2), none, some (.imul, 1), some (.iconst 2, 1), some (.iadd, 1), some (.iaload, 1), some (.if_icmp .ne 101, 3),
  none, none, some (.iconst 1, 1), some (.istore 5, 2), none, some (.iinc 6 1, 3), none, none,
  some (.goto 34, 3), none, none, some (.iload 5, 2), none, some (.aload 0, 1), some (.getfield 256, 3), none,
  none, some (.iconst 4, 1), some (.iload 4, 2), none, some (.imul, 1), some (.iconst 3, 1), some (.iadd, 1), some (.iaload, 1),
  some (.if_icmp .eq 125, 3), none, none, some (.iconst 0, 1), some (.ireturn, 1), some (.iinc 4 1, 3), none, none,
  some (.goto 3, 3), none, none, some (.iconst 1, 1), some (.ireturn, 1)]
def xg34 : List (Option (Instr × Nat)) := [some (.aload 0, 1), some (.invokespecial 9999, 3), none, none, some (.aload 0, 1), some (.iconst 5, 1), some (.anewarray 6, 3), none,
  none, some (.putfield 320, 3), none, none, some (.aload 0, 1), some (.iconst 4, 1), some (.newarray .int, 2), none,
  some (.putfield 321, 3), none, none, some (.aload 0, 1), some (.iconst 0, 1), some (.putfield 322, 3), none, none,
  some (.aload 0, 1), some (.iconst 0, 1), some (.putfield 323, 3), none, none, some (.aload 0, 1), some (.iconst 4, 1), some (.newarray .int, 2),
  none, some (.putfield 324, 3), none, none, some (.aload 0, 1), some (.iconst 0, 1), some (.putfield 325, 3), none,
  none, some (.iconst 0, 1), some (.istore 1, 1), some (.iload 1, 1), some (.iconst 4, 1), some (.if_icmp .gt 67, 3), none, none,
  some (.aload 0, 1), some (.getfield 320, 3), none, none, some (.iload 1, 1), some (.new 10, 3), none, none,
  some (.dup, 1), some (.invokespecial 79, 3), none, none, some (.aastore, 1), some (.iinc 1 1, 3), none, none,
  some (.goto 43, 3), none, none, some (.return_, 1)]
def xg35 : List (Option (Instr × Nat)) := [some (.aload 0, 1), some (.getfield 320, 3), none, none, some (.iconst 0, 1), some (.aaload, 1), some (.aload 2, 1), some (.invokevirtual 80, 3),
  none, none, some (.aload 0, 1), some (.iconst 0, 1), some (.putfield 322, 3), none, none, some (.aload 0, 1),
  some (.aload 1, 1), some (.iload 3, 1), some (.iconst 0, 1), some (.iconst 0, 1), some (.invokevirtual 36, 3), none, none, some (.return_, 1)]
def xg36 : List (Option (Instr × Nat)) := [some (.iload 3, 1), some (.iload 2, 1), some (.if_icmp .ge 10, 3), none, none, some (.iload 3, 1), some (.iconst 4, 1), some (.if_icmp .lt 26, 3),
  none, none, some (.aload 0, 1), some (.aload 0, 1), some (.getfield 320, 3), none, none, some (.iload 3, 1),
  some (.aaload, 1), some (.invokevirtual 86, 3), none, none, some (.iload 4, 2), none, some (.invokevirtual 38, 3), none,
  none, some (.return_, 1), some (.aload 0, 1), some (.getfield 320, 3), none, none, some (.iload 3, 1), some (.iconst 1, 1),
  some (.iadd, 1), some (.aaload, 1), some (.astore 5, 2), none, some (.iconst (-1), 1), some (.istore 6, 2), none, some (.iload 6, 2),
  none, some (.aload 1, 1), some (.getfield 2, 3), none, none, some (.getfield 138, 3), none, none,
  some (.if_icmp .ge 123, 3), none, none, some (.aload 5, 2), none, some (.aload 0, 1), some (.getfield 320, 3), none,
  none, some (.iload 3, 1), some (.aaload, 1), some (.invokevirtual 80, 3), none, none, some (.iload 6, 2), none,
  some (.iconst (-1), 1), some (.if_icmp .eq 90, 3), none, none, some (.aload 1, 1), some (.getfield 2, 3), none, none,
  some (.iload 6, 2), none, some (.invokevirtual 11, 3), none, none, some (.ifCond .eq 117, 3), none, none,
  some (.aload 5, 2), none, some (.iload 6, 2), none, some (.invokestatic 37, 3), none, none, some (.ifCond .eq 117, 3),
  none, none, some (.aload 0, 1), some (.getfield 321, 3), none, none, some (.iload 3, 1), some (.iload 6, 2),
  none, some (.iastore, 1), some (.aload 0, 1), some (.aload 1, 1), some (.iload 2, 1), some (.iload 3, 1), some (.iconst 1, 1), some (.iadd, 1),
  some (.iload 4, 2), none, some (.aload 1, 1), some (.aload 5, 2), none, some (.iconst 0, 1), some (.invokevirtual 1, 3), none,
  none, some (.iadd, 1), some (.invokevirtual 36, 3), none, none, some (.iinc 6 1, 3), none, none,
  some (.goto 39, 3), none, none, some (.return_, 1)]
def xg37 : List (Option (Instr × Nat)) := [some (.iconst 0, 1), some (.istore 2, 1), some (.iconst 0, 1), some (.istore 3, 1), some (.iload 3, 1), some (.iconst 2, 1), some (.if_icmp .ge 68, 3), none,
  none, some (.aload 0, 1), some (.iload 3, 1), some (.invokevirtual 83, 3), none, none, some (.aload 0, 1), some (.getfield 640, 3),
  none, none, some (.iconst 0, 1), some (.iload 1, 1), some (.iadd, 1), some (.iaload, 1), some (.if_icmp .ne 29, 3), none,
  none, some (.iconst 1, 1), some (.goto 30, 3), none, none, some (.iconst 0, 1), some (.istore 4, 2), none,
  some (.iload 4, 2), none, some (.ifCond .eq 62, 3), none, none, some (.aload 0, 1), some (.getfield 640, 3), none,
  none, some (.iconst 24, 2), none, some (.iload 3, 1), some (.iadd, 1), some (.iaload, 1), some (.iload 1, 1), some (.if_icmp .eq 62, 3),
  none, none, some (.aload 0, 1), some (.getfield 640, 3), none, none, some (.iconst 24, 2), none,
  some (.iload 3, 1), some (.iadd, 1), some (.iload 1, 1), some (.iastore, 1), some (.iconst 1, 1), some (.istore 2, 1), some (.iinc 3 1, 3), none,
  none, some (.goto 4, 3), none, none, some (.iload 2, 1), some (.ireturn, 1)]
def xg38 : List (Option (Instr × Nat)) := [some (.aload 0, 1), some (.getfield 322, 3), none, none, some (.ifCond .eq 31, 3), none, none, some (.iload 2, 1),
  some (.aload 0, 1), some (.getfield 325, 3), none, none, some (.if_icmp .gt 31, 3), none, none, some (.iload 2, 1),
  some (.aload 0, 1), some (.getfield 325, 3), none, none, some (.if_icmp .ne 60, 3), none, none, some (.iload 1, 1),
  some (.aload 0, 1), some (.getfield 323, 3), none, none, some (.if_icmp .ge 60, 3), none, none, some (.aload 0, 1),
  some (.iconst 1, 1), some (.putfield 322, 3), none, none, some (.aload 0, 1), some (.iload 2, 1), some (.putfield 325, 3), none,
  none, some (.aload 0, 1), some (.iload 1, 1), some (.putfield 323, 3), none, none, some (.aload 0, 1), some (.getfield 321, 3),
  none, none, some (.iconst 0, 1), some (.aload 0, 1), some (.getfield 324, 3), none, none, some (.iconst 0, 1),
  some (.iconst 4, 1), some (.invokestatic 9998, 3), none, none, some (.return_, 1)]
def xg39 : List (Option (Instr × Nat)) := [some (.aload 0, 1), some (.invokespecial 9999, 3), none, none, some (.aload 0, 1), some (.aload 1, 1), some (.putfield 384, 3), none,
  none, some (.aload 0, 1), some (.aload 2, 1), some (.putfield 385, 3), none, none, some (.return_, 1)]
def xg40 : List (Option (Instr × Nat)) := [some (.iconst 0, 1), some (.istore 3, 1), some (.iconst 0, 1), some (.istore 4, 2), none, some (.iload 4, 2), none, some (.iconst 1, 1),
  some (.iadd, 1), some (.aload 0, 1), some (.getfield 385, 3), none, none, some (.arraylength, 1), some (.if_icmp .ge 78, 3), none,
  none, some (.aload 0, 1), some (.getfield 385, 3), none, none, some (.iload 4, 2), none, some (.iaload, 1),
  some (.istore 5, 2), none, some (.aload 0, 1), some (.getfield 385, 3), none, none, some (.iload 4, 2), none,
  some (.iconst 1, 1), some (.iadd, 1), some (.iaload, 1), some (.istore 6, 2), none, some (.iload 5, 2), none, some (.iload 6, 2),
  none, some (.if_icmp .eq 59, 3), none, none, some (.aload 0, 1), some (.iload 5, 2), none, some (.iload 6, 2),
  none, some (.aload 1, 1), some (.aload 2, 1), some (.invokevirtual 41, 3), none, none, some (.ldc2_w 0, 1), some (.lcmp, 1),
  some (.ifCond .eq 69, 3), none, none, some (.aload 0, 1), some (.iload 3, 1), some (.iload 5, 2), none, some (.aload 1, 1),
  some (.aload 2, 1), some (.invokevirtual 41, 3), none, none, some (.lreturn, 1), some (.iload 6, 2), none, some (.istore 3, 1),
  some (.iinc 4 2, 3), none, none, some (.goto 5, 3), none, none, some (.ldc2_w 0, 1), some (.lreturn, 1)]
def xg41 : List (Option (Instr × Nat)) := [some (.iconst 0, 1), some (.istore 5, 2), none, some (.iload 1, 1), some (.istore 6, 2), none, some (.iload 6, 2), none,
  some (.iload 2, 1), some (.if_icmp .ge 151, 3), none, none, some (.aload 0, 1), some (.getfield 384, 3), none, none,
  some (.iload 6, 2), none, some (.iaload, 1), some (.iconst 31, 2), none, some (.iand, 1), some (.istore 7, 2), none,
  some (.iload 7, 2), none, some (.iconst 15, 2), none, some (.if_icmp .gt 76, 3), none, none, some (.iload 5, 2),
  none, some (.aload 4, 2), none, some (.arraylength, 1), some (.if_icmp .lt 41, 3), none, none, some (.ldc2_w 0, 1),
  some (.lreturn, 1), some (.aload 4, 2), none, some (.iload 5, 2), none, some (.iload 7, 2), none, some (.iconst 15, 2),
  none, some (.if_icmp .ne 65, 3), none, none, some (.aload 0, 1), some (.getfield 384, 3), none, none,
  some (.iload 6, 2), none, some (.iaload, 1), some (.iconst 5, 1), some (.ishr, 1), some (.i2l, 1), some (.goto 69, 3), none,
  none, some (.aload 3, 1), some (.iload 7, 2), none, some (.laload, 1), some (.lastore, 1), some (.iinc 5 1, 3), none,
  none, some (.goto 145, 3), none, none, some (.iload 7, 2), none, some (.iconst 16, 2), none,
  some (.if_icmp .ne 110, 3), none, none, some (.iload 5, 2), none, some (.iconst 1, 1), some (.if_icmp .ge 91, 3), none,
  none, some (.ldc2_w 0, 1), some (.lreturn, 1), some (.aload 4, 2), none, some (.iload 5, 2), none, some (.iconst 1, 1),
  some (.isub, 1), some (.ldc2_w 1, 1), some (.aload 4, 2), none, some (.iload 5, 2), none, some (.iconst 1, 1), some (.isub, 1),
  some (.laload, 1), some (.lsub, 1), some (.lastore, 1), some (.goto 145, 3), none, none, some (.iload 5, 2), none,
  some (.iconst 2, 1), some (.if_icmp .ge 118, 3), none, none, some (.ldc2_w 0, 1), some (.lreturn, 1), some (.iinc 5 (-1), 3), none,
  none, some (.aload 4, 2), none, some (.iload 5, 2), none, some (.iconst 1, 1), some (.isub, 1), some (.iload 7, 2),
  none, some (.aload 4, 2), none, some (.iload 5, 2), none, some (.iconst 1, 1), some (.isub, 1), some (.laload, 1),
  some (.aload 4, 2), none, some (.iload 5, 2), none, some (.laload, 1), some (.invokestatic 42, 3), none, none,
  some (.lastore, 1), some (.iinc 6 1, 3), none, none, some (.goto 6, 3), none, none, some (.iload 5, 2),
  none, some (.iconst 1, 1), some (.if_icmp .ne 164, 3), none, none, some (.aload 4, 2), none, some (.iconst 0, 1),
  some (.laload, 1), some (.goto 165, 3), none, none, some (.ldc2_w 0, 1), some (.lreturn, 1)]
def xg42 : List (Option (Instr × Nat)) := [some (.iload 0, 1), some (.tableswitch 164 17 27 #[60, 64, 68, 72, 86, 100, 112, 124, 136, 148, 160], 59), none, none, none, none, none, none,
  none, none, none, none, none, none, none, none,
  none, none, none, none, none, none, none, none,
  none, none, none, none, none, none, none, none,
  none, none, none, none, none, none, none, none,
  none, none, none, none, none, none, none, none,
  none, none, none, none, none, none, none, none,
  none, none, none, none, some (.lload 1, 1), some (.lload 3, 1), some (.ladd, 1), some (.lreturn, 1),
  some (.lload 1, 1), some (.lload 3, 1), some (.lsub, 1), some (.lreturn, 1), some (.lload 1, 1), some (.lload 3, 1), some (.lmul, 1), some (.lreturn, 1),
  some (.lload 3, 1), some (.ldc2_w 0, 1), some (.lcmp, 1), some (.ifCond .ne 82, 3), none, none, some (.ldc2_w 0, 1), some (.goto 85, 3),
  none, none, some (.lload 1, 1), some (.lload 3, 1), some (.ldiv, 1), some (.lreturn, 1), some (.lload 3, 1), some (.ldc2_w 0, 1),
  some (.lcmp, 1), some (.ifCond .ne 96, 3), none, none, some (.ldc2_w 0, 1), some (.goto 99, 3), none, none,
  some (.lload 1, 1), some (.lload 3, 1), some (.lrem, 1), some (.lreturn, 1), some (.lload 1, 1), some (.lload 3, 1), some (.lcmp, 1), some (.ifCond .ge 110, 3),
  none, none, some (.ldc2_w 1, 1), some (.goto 111, 3), none, none, some (.ldc2_w 0, 1), some (.lreturn, 1),
  some (.lload 1, 1), some (.lload 3, 1), some (.lcmp, 1), some (.ifCond .gt 122, 3), none, none, some (.ldc2_w 1, 1), some (.goto 123, 3),
  none, none, some (.ldc2_w 0, 1), some (.lreturn, 1), some (.lload 1, 1), some (.lload 3, 1), some (.lcmp, 1), some (.ifCond .ne 134, 3),
  none, none, some (.ldc2_w 1, 1), some (.goto 135, 3), none, none, some (.ldc2_w 0, 1), some (.lreturn, 1),
  some (.lload 1, 1), some (.lload 3, 1), some (.lcmp, 1), some (.ifCond .lt 146, 3), none, none, some (.ldc2_w 1, 1), some (.goto 147, 3),
  none, none, some (.ldc2_w 0, 1), some (.lreturn, 1), some (.lload 1, 1), some (.lload 3, 1), some (.lcmp, 1), some (.ifCond .le 158, 3),
  none, none, some (.ldc2_w 1, 1), some (.goto 159, 3), none, none, some (.ldc2_w 0, 1), some (.lreturn, 1),
  some (.lload 1, 1), some (.lload 3, 1), some (.land, 1), some (.lreturn, 1), some (.lload 1, 1), some (.lload 3, 1), some (.lor, 1), some (.lreturn, 1)]
def xg43 : List (Option (Instr × Nat)) := [some (.aload 0, 1), some (.invokespecial 9999, 3), none, none, some (.aload 0, 1), some (.iconst 400, 3), none, none,
  some (.newarray .int, 2), none, some (.putfield 448, 3), none, none, some (.aload 0, 1), some (.iconst 24, 2), none,
  some (.newarray .int, 2), none, some (.putfield 449, 3), none, none, some (.aload 0, 1), some (.iconst 0, 1), some (.putfield 450, 3),
  none, none, some (.aload 0, 1), some (.iconst 0, 1), some (.putfield 451, 3), none, none, some (.aload 0, 1),
  some (.iconst 0, 1), some (.putfield 452, 3), none, none, some (.return_, 1)]
def xg44 : List (Option (Instr × Nat)) := [some (.new 6, 3), none, none, some (.dup, 1), some (.aload 0, 1), some (.getfield 448, 3), none, none,
  some (.aload 0, 1), some (.getfield 450, 3), none, none, some (.invokestatic 256, 3), none, none, some (.aload 0, 1),
  some (.getfield 449, 3), none, none, some (.iconst 2, 1), some (.aload 0, 1), some (.getfield 451, 3), none, none,
  some (.imul, 1), some (.invokestatic 256, 3), none, none, some (.invokespecial 39, 3), none, none, some (.areturn, 1)]
def xg45 : List (Option (Instr × Nat)) := [some (.aload 0, 1), some (.iconst 0, 1), some (.putfield 450, 3), none, none, some (.aload 0, 1), some (.iconst 0, 1), some (.putfield 452, 3),
  none, none, some (.aload 1, 1), some (.invokevirtual 57, 3), none, none, some (.iconst 0, 1), some (.istore 2, 1),
  some (.iload 2, 1), some (.iconst 12, 2), none, some (.if_icmp .gt 160, 3), none, none, some (.aload 1, 1), some (.ldc 2, 2),
  none, some (.invokevirtual 62, 3), none, none, some (.ifCond .ge 37, 3), none, none, some (.aload 1, 1),
  some (.iconst 0, 1), some (.invokevirtual 64, 3), none, none, some (.ireturn, 1), some (.iload 2, 1), some (.iconst 12, 2), none,
  some (.if_icmp .ne 49, 3), none, none, some (.aload 1, 1), some (.iconst 4, 1), some (.invokevirtual 64, 3), none, none,
  some (.ireturn, 1), some (.aload 1, 1), some (.invokevirtual 58, 3), none, none, some (.aload 0, 1), some (.aload 1, 1), some (.invokevirtual 50, 3),
  none, none, some (.ifCond .ne 63, 3), none, none, some (.iconst 0, 1), some (.ireturn, 1), some (.aload 0, 1),
  some (.getfield 449, 3), none, none, some (.iconst 2, 1), some (.iload 2, 1), some (.imul, 1), some (.aload 0, 1), some (.getfield 450, 3),
  none, none, some (.iastore, 1), some (.aload 1, 1), some (.ldc 6, 2), none, some (.invokevirtual 62, 3), none,
  none, some (.ifCond .ne 99, 3), none, none, some (.aload 1, 1), some (.invokevirtual 58, 3), none, none,
  some (.aload 0, 1), some (.aload 1, 1), some (.iconst 0, 1), some (.invokevirtual 46, 3), none, none, some (.ifCond .ne 99, 3), none,
  none, some (.iconst 0, 1), some (.ireturn, 1), some (.aload 0, 1), some (.getfield 449, 3), none, none, some (.iconst 2, 1),
  some (.iload 2, 1), some (.imul, 1), some (.iconst 1, 1), some (.iadd, 1), some (.aload 0, 1), some (.getfield 450, 3), none, none,
  some (.iastore, 1), some (.aload 0, 1), some (.iload 2, 1), some (.iconst 1, 1), some (.iadd, 1), some (.putfield 451, 3), none, none,
  some (.aload 1, 1), some (.iconst 59, 2), none, some (.invokevirtual 60, 3), none, none, some (.ifCond .ne 150, 3), none,
  none, some (.aload 1, 1), some (.getfield 515, 3), none, none, some (.ifCond .eq 144, 3), none, none,
  some (.aload 1, 1), some (.iconst 0, 1), some (.invokevirtual 64, 3), none, none, some (.ifCond .eq 148, 3), none, none,
  some (.iconst 1, 1), some (.goto 149, 3), none, none, some (.iconst 0, 1), some (.ireturn, 1), some (.aload 1, 1), some (.invokevirtual 58, 3),
  none, none, some (.iinc 2 1, 3), none, none, some (.goto 16, 3), none, none,
  some (.iconst 0, 1), some (.ireturn, 1)]
def xg46 : List (Option (Instr × Nat)) := [some (.aload 0, 1), some (.aload 1, 1), some (.iload 2, 1), some (.invokevirtual 47, 3), none, none, some (.ifCond .ne 11, 3), none,
  none, some (.iconst 0, 1), some (.ireturn, 1), some (.iconst 0, 1), some (.istore 3, 1), some (.iconst 0, 1), some (.istore 4, 2), none,
  some (.iload 4, 2), none, some (.iconst 400, 3), none, none, some (.if_icmp .ge 91, 3), none, none,
  some (.aload 1, 1), some (.ldc 10, 2), none, some (.invokevirtual 62, 3), none, none, some (.istore 5, 2), none,
  some (.iload 5, 2), none, some (.ifCond .eq 47, 3), none, none, some (.iload 3, 1), some (.ifCond .eq 47, 3), none,
  none, some (.aload 0, 1), some (.iconst 28, 2), none, some (.invokevirtual 54, 3), none, none, some (.iload 5, 2),
  none, some (.ifCond .ge 54, 3), none, none, some (.iconst 1, 1), some (.ireturn, 1), some (.aload 1, 1), some (.invokevirtual 58, 3),
  none, none, some (.aload 0, 1), some (.aload 1, 1), some (.iload 2, 1), some (.invokevirtual 47, 3), none, none,
  some (.ifCond .ne 69, 3), none, none, some (.iconst 0, 1), some (.ireturn, 1), some (.iload 5, 2), none, some (.ifCond .ne 83, 3),
  none, none, some (.aload 0, 1), some (.iconst 27, 2), none, some (.invokevirtual 54, 3), none, none,
  some (.goto 85, 3), none, none, some (.iconst 1, 1), some (.istore 3, 1), some (.iinc 4 1, 3), none, none,
  some (.goto 16, 3), none, none, some (.iconst 0, 1), some (.ireturn, 1)]
def xg47 : List (Option (Instr × Nat)) := [some (.aload 1, 1), some (.ldc 8, 2), none, some (.invokevirtual 62, 3), none, none, some (.ifCond .ne 13, 3), none,
  none, some (.iconst 1, 1), some (.goto 14, 3), none, none, some (.iconst 0, 1), some (.istore 3, 1), some (.iload 3, 1),
  some (.ifCond .ne 28, 3), none, none, some (.aload 1, 1), some (.iconst 91, 2), none, some (.invokevirtual 60, 3), none,
  none, some (.ifCond .eq 36, 3), none, none, some (.aload 0, 1), some (.aload 1, 1), some (.iload 2, 1), some (.iload 3, 1),
  some (.invokevirtual 48, 3), none, none, some (.ireturn, 1), some (.aload 0, 1), some (.aload 1, 1), some (.invokevirtual 50, 3), none,
  none, some (.ifCond .ne 46, 3), none, none, some (.iconst 0, 1), some (.ireturn, 1), some (.aload 1, 1), some (.invokestatic 49, 3),
  none, none, some (.istore 4, 2), none, some (.iload 4, 2), none, some (.ifCond .ge 63, 3), none,
  none, some (.aload 1, 1), some (.iconst 0, 1), some (.invokevirtual 64, 3), none, none, some (.ireturn, 1), some (.aload 0, 1),
  some (.aload 1, 1), some (.invokevirtual 53, 3), none, none, some (.ifCond .ne 73, 3), none, none, some (.iconst 0, 1),
  some (.ireturn, 1), some (.aload 1, 1), some (.invokevirtual 58, 3), none, none, some (.aload 0, 1), some (.aload 1, 1), some (.invokevirtual 50, 3),
  none, none, some (.ifCond .ne 87, 3), none, none, some (.iconst 0, 1), some (.ireturn, 1), some (.aload 0, 1),
  some (.iload 4, 2), none, some (.invokevirtual 54, 3), none, none, some (.iconst 1, 1), some (.ireturn, 1)]
def xg48 : List (Option (Instr × Nat)) := [some (.iload 2, 1), some (.iconst 10, 2), none, some (.if_icmp .lt 12, 3), none, none, some (.aload 1, 1), some (.iconst 2, 1),
  some (.invokevirtual 64, 3), none, none, some (.ireturn, 1), some (.aload 1, 1), some (.invokevirtual 58, 3), none, none,
  some (.iload 3, 1), some (.ifCond .eq 41, 3), none, none, some (.aload 0, 1), some (.aload 1, 1), some (.iload 2, 1), some (.iconst 1, 1),
  some (.iadd, 1), some (.invokevirtual 47, 3), none, none, some (.ifCond .ne 33, 3), none, none, some (.iconst 0, 1),
  some (.ireturn, 1), some (.aload 0, 1), some (.iconst 16, 2), none, some (.invokevirtual 54, 3), none, none, some (.iconst 1, 1),
  some (.ireturn, 1), some (.aload 0, 1), some (.aload 1, 1), some (.iload 2, 1), some (.iconst 1, 1), some (.iadd, 1), some (.invokevirtual 46, 3), none,
  none, some (.ifCond .ne 54, 3), none, none, some (.iconst 0, 1), some (.ireturn, 1), some (.aload 1, 1), some (.iconst 93, 2),
  none, some (.invokevirtual 60, 3), none, none, some (.ifCond .ne 69, 3), none, none, some (.aload 1, 1),
  some (.iconst 0, 1), some (.invokevirtual 64, 3), none, none, some (.ireturn, 1), some (.aload 1, 1), some (.invokevirtual 58, 3), none,
  none, some (.iconst 1, 1), some (.ireturn, 1)]
def xg49 : List (Option (Instr × Nat)) := [some (.aload 0, 1), some (.getfield 515, 3), none, none, some (.iconst 3, 1), some (.if_icmp .eq 10, 3), none, none,
  some (.iconst (-1), 1), some (.ireturn, 1), some (.aload 0, 1), some (.getfield 518, 3), none, none, some (.lookupswitch 79 #[(60, 64), (61, 70), (62, 76), (316, 67), (318, 73)], 50), none,
  none, none, none, none, none, none, none, none,
  none, none, none, none, none, none, none, none,
  none, none, none, none, none, none, none, none,
  none, none, none, none, none, none, none, none,
  none, none, none, none, none, none, none, none,
  none, none, none, none, none, none, none, none,
  some (.iconst 22, 2), none, some (.ireturn, 1), some (.iconst 23, 2), none, some (.ireturn, 1), some (.iconst 24, 2), none,
  some (.ireturn, 1), some (.iconst 25, 2), none, some (.ireturn, 1), some (.iconst 26, 2), none, some (.ireturn, 1), some (.iconst (-1), 1),
  some (.ireturn, 1)]
def xg50 : List (Option (Instr × Nat)) := [some (.aload 0, 1), some (.aload 1, 1), some (.invokevirtual 52, 3), none, none, some (.ifCond .ne 10, 3), none, none,
  some (.iconst 0, 1), some (.ireturn, 1), some (.iconst (-1), 1), some (.istore 2, 1), some (.iconst 0, 1), some (.istore 3, 1), some (.iload 3, 1), some (.iconst 400, 3),
  none, none, some (.if_icmp .ge 99, 3), none, none, some (.aload 1, 1), some (.invokestatic 51, 3), none,
  none, some (.istore 4, 2), none, some (.iload 4, 2), none, some (.iconst 19, 2), none, some (.if_icmp .lt 38, 3),
  none, none, some (.iconst 1, 1), some (.goto 39, 3), none, none, some (.iconst 0, 1), some (.istore 5, 2),
  none, some (.iload 5, 2), none, some (.ifCond .ne 55, 3), none, none, some (.iload 2, 1), some (.ifCond .lt 55, 3),
  none, none, some (.aload 0, 1), some (.iload 2, 1), some (.invokevirtual 54, 3), none, none, some (.iload 4, 2),
  none, some (.ifCond .ge 62, 3), none, none, some (.iconst 1, 1), some (.ireturn, 1), some (.aload 1, 1), some (.invokevirtual 58, 3),
  none, none, some (.aload 0, 1), some (.aload 1, 1), some (.invokevirtual 52, 3), none, none, some (.ifCond .ne 76, 3),
  none, none, some (.iconst 0, 1), some (.ireturn, 1), some (.iload 5, 2), none, some (.ifCond .eq 90, 3), none,
  none, some (.aload 0, 1), some (.iload 4, 2), none, some (.invokevirtual 54, 3), none, none, some (.goto 93, 3),
  none, none, some (.iload 4, 2), none, some (.istore 2, 1), some (.iinc 3 1, 3), none, none,
  some (.goto 14, 3), none, none, some (.iconst 0, 1), some (.ireturn, 1)]
def xg51 : List (Option (Instr × Nat)) := [some (.aload 0, 1), some (.getfield 515, 3), none, none, some (.iconst 3, 1), some (.if_icmp .eq 10, 3), none, none,
  some (.iconst (-1), 1), some (.ireturn, 1), some (.aload 0, 1), some (.getfield 518, 3), none, none, some (.tableswitch 87 37 47 #[84, 87, 87, 87, 87, 78, 72, 87, 75, 87, 81], 58), none,
  none, none, none, none, none, none, none, none,
  none, none, none, none, none, none, none, none,
  none, none, none, none, none, none, none, none,
  none, none, none, none, none, none, none, none,
  none, none, none, none, none, none, none, none,
  none, none, none, none, none, none, none, none,
  none, none, none, none, none, none, none, none,
  some (.iconst 17, 2), none, some (.ireturn, 1), some (.iconst 18, 2), none, some (.ireturn, 1), some (.iconst 19, 2), none,
  some (.ireturn, 1), some (.iconst 20, 2), none, some (.ireturn, 1), some (.iconst 21, 2), none, some (.ireturn, 1), some (.iconst (-1), 1),
  some (.ireturn, 1)]
def xg52 : List (Option (Instr × Nat)) := [some (.aload 1, 1), some (.getfield 515, 3), none, none, some (.iconst 2, 1), some (.if_icmp .ne 34, 3), none, none,
  some (.aload 1, 1), some (.invokevirtual 61, 3), none, none, some (.ifCond .eq 21, 3), none, none, some (.aload 1, 1),
  some (.iconst 1, 1), some (.invokevirtual 64, 3), none, none, some (.ireturn, 1), some (.iconst 15, 2), none, some (.aload 1, 1),
  some (.getfield 518, 3), none, none, some (.iconst 5, 1), some (.ishl, 1), some (.ior, 1), some (.istore 2, 1), some (.goto 51, 3),
  none, none, some (.aload 1, 1), some (.ldc 4, 2), none, some (.invokevirtual 62, 3), none, none,
  some (.istore 2, 1), some (.iload 2, 1), some (.ifCond .ge 51, 3), none, none, some (.aload 1, 1), some (.iconst 0, 1), some (.invokevirtual 64, 3),
  none, none, some (.ireturn, 1), some (.aload 0, 1), some (.aload 1, 1), some (.invokevirtual 53, 3), none, none,
  some (.ifCond .ne 61, 3), none, none, some (.iconst 0, 1), some (.ireturn, 1), some (.aload 0, 1), some (.iload 2, 1), some (.invokevirtual 54, 3),
  none, none, some (.aload 1, 1), some (.invokevirtual 58, 3), none, none, some (.iconst 1, 1), some (.ireturn, 1)]
def xg53 : List (Option (Instr × Nat)) := [some (.aload 0, 1), some (.dup, 1), some (.getfield 452, 3), none, none, some (.iconst 1, 1), some (.iadd, 1), some (.putfield 452, 3),
  none, none, some (.aload 0, 1), some (.getfield 452, 3), none, none, some (.iconst 60, 2), none,
  some (.if_icmp .le 27, 3), none, none, some (.aload 1, 1), some (.iconst 3, 1), some (.invokevirtual 64, 3), none, none,
  some (.ifCond .eq 31, 3), none, none, some (.iconst 1, 1), some (.goto 32, 3), none, none, some (.iconst 0, 1),
  some (.ireturn, 1)]
def xg54 : List (Option (Instr × Nat)) := [some (.aload 0, 1), some (.getfield 450, 3), none, none, some (.aload 0, 1), some (.getfield 448, 3), none, none,
  some (.arraylength, 1), some (.if_icmp .ge 32, 3), none, none, some (.aload 0, 1), some (.getfield 448, 3), none, none,
  some (.aload 0, 1), some (.getfield 450, 3), none, none, some (.iload 1, 1), some (.iastore, 1), some (.aload 0, 1), some (.dup, 1),
  some (.getfield 450, 3), none, none, some (.iconst 1, 1), some (.iadd, 1), some (.putfield 450, 3), none, none,
  some (.return_, 1)]
def xg55 : List (Option (Instr × Nat)) := [some (.aload 0, 1), some (.invokespecial 9999, 3), none, none, some (.aload 0, 1), some (.iconst 400, 3), none, none,
  some (.newarray .byte, 2), none, some (.putfield 512, 3), none, none, some (.aload 0, 1), some (.iconst 0, 1), some (.putfield 513, 3),
  none, none, some (.aload 0, 1), some (.iconst 0, 1), some (.putfield 514, 3), none, none, some (.aload 0, 1),
  some (.iconst 0, 1), some (.putfield 515, 3), none, none, some (.aload 0, 1), some (.iconst 0, 1), some (.putfield 516, 3), none,
  none, some (.aload 0, 1), some (.iconst 0, 1), some (.putfield 517, 3), none, none, some (.aload 0, 1), some (.iconst 0, 1),
  some (.putfield 518, 3), none, none, some (.return_, 1)]
def xg56 : List (Option (Instr × Nat)) := [some (.iconst 24, 2), none, some (.istore 2, 1), some (.iload 2, 1), some (.ifCond .lt 46, 3), none, none, some (.aload 0, 1),
  some (.getfield 513, 3), none, none, some (.iconst 400, 3), none, none, some (.if_icmp .ge 40, 3), none,
  none, some (.aload 0, 1), some (.getfield 512, 3), none, none, some (.aload 0, 1), some (.getfield 513, 3), none,
  none, some (.iload 1, 1), some (.iload 2, 1), some (.ishr, 1), some (.i2b, 1), some (.bastore, 1), some (.aload 0, 1), some (.dup, 1),
  some (.getfield 513, 3), none, none, some (.iconst 1, 1), some (.iadd, 1), some (.putfield 513, 3), none, none,
  some (.iinc 2 (-8), 3), none, none, some (.goto 3, 3), none, none, some (.return_, 1)]
def xg57 : List (Option (Instr × Nat)) := [some (.aload 0, 1), some (.iconst 0, 1), some (.putfield 514, 3), none, none, some (.aload 0, 1), some (.iconst 0, 1), some (.putfield 517, 3),
  none, none, some (.aload 0, 1), some (.invokevirtual 58, 3), none, none, some (.return_, 1)]
def xg58 : List (Option (Instr × Nat)) := [some (.aload 0, 1), some (.aload 0, 1), some (.aload 0, 1), some (.getfield 517, 3), none, none, some (.iconst 32, 2), none,
  some (.iconst 32, 2), none, some (.invokevirtual 59, 3), none, none, some (.putfield 516, 3), none, none,
  some (.aload 0, 1), some (.aload 0, 1), some (.getfield 516, 3), none, none, some (.putfield 517, 3), none, none,
  some (.aload 0, 1), some (.iconst 0, 1), some (.putfield 518, 3), none, none, some (.aload 0, 1), some (.getfield 516, 3), none,
  none, some (.aload 0, 1), some (.getfield 513, 3), none, none, some (.if_icmp .lt 46, 3), none, none,
  some (.aload 0, 1), some (.iconst 0, 1), some (.putfield 515, 3), none, none, some (.return_, 1), some (.aload 0, 1), some (.getfield 512, 3),
  none, none, some (.aload 0, 1), some (.getfield 516, 3), none, none, some (.baload, 1), some (.iconst 255, 3),
  none, none, some (.iand, 1), some (.istore 1, 1), some (.iload 1, 1), some (.iconst 97, 2), none, some (.if_icmp .lt 96, 3),
  none, none, some (.iload 1, 1), some (.iconst 122, 2), none, some (.if_icmp .gt 96, 3), none, none,
  some (.aload 0, 1), some (.iconst 1, 1), some (.putfield 515, 3), none, none, some (.aload 0, 1), some (.aload 0, 1), some (.aload 0, 1),
  some (.getfield 516, 3), none, none, some (.iconst 97, 2), none, some (.iconst 122, 2), none, some (.invokevirtual 59, 3),
  none, none, some (.putfield 517, 3), none, none, some (.goto 261, 3), none, none,
  some (.iload 1, 1), some (.iconst 48, 2), none, some (.if_icmp .lt 182, 3), none, none, some (.iload 1, 1), some (.iconst 57, 2),
  none, some (.if_icmp .gt 182, 3), none, none, some (.aload 0, 1), some (.iconst 2, 1), some (.putfield 515, 3), none,
  none, some (.aload 0, 1), some (.aload 0, 1), some (.aload 0, 1), some (.getfield 516, 3), none, none, some (.iconst 48, 2),
  none, some (.iconst 57, 2), none, some (.invokevirtual 59, 3), none, none, some (.putfield 517, 3), none,
  none, some (.aload 0, 1), some (.getfield 516, 3), none, none, some (.istore 2, 1), some (.iload 2, 1), some (.aload 0, 1),
  some (.getfield 517, 3), none, none, some (.if_icmp .ge 179, 3), none, none, some (.iload 2, 1), some (.aload 0, 1),
  some (.getfield 516, 3), none, none, some (.iconst 5, 1), some (.iadd, 1), some (.if_icmp .ge 179, 3), none, none,
  some (.aload 0, 1), some (.aload 0, 1), some (.getfield 518, 3), none, none, some (.iconst 10, 2), none, some (.imul, 1),
  some (.aload 0, 1), some (.getfield 512, 3), none, none, some (.iload 2, 1), some (.baload, 1), some (.iadd, 1), some (.iconst 48, 2),
  none, some (.isub, 1), some (.putfield 518, 3), none, none, some (.iinc 2 1, 3), none, none,
  some (.goto 134, 3), none, none, some (.goto 261, 3), none, none, some (.aload 0, 1), some (.iconst 3, 1),
  some (.putfield 515, 3), none, none, some (.aload 0, 1), some (.aload 0, 1), some (.getfield 516, 3), none, none,
  some (.iconst 1, 1), some (.iadd, 1), some (.putfield 517, 3), none, none, some (.aload 0, 1), some (.iload 1, 1), some (.putfield 518, 3),
  none, none, some (.iload 1, 1), some (.iconst 60, 2), none, some (.if_icmp .eq 214, 3), none, none,
  some (.iload 1, 1), some (.iconst 62, 2), none, some (.if_icmp .ne 261, 3), none, none, some (.aload 0, 1), some (.getfield 517, 3),
  none, none, some (.aload 0, 1), some (.getfield 513, 3), none, none, some (.if_icmp .ge 261, 3), none,
  none, some (.aload 0, 1), some (.getfield 512, 3), none, none, some (.aload 0, 1), some (.getfield 517, 3), none,
  none, some (.baload, 1), some (.iconst 61, 2), none, some (.if_icmp .ne 261, 3), none, none, some (.aload 0, 1),
  some (.dup, 1), some (.getfield 517, 3), none, none, some (.iconst 1, 1), some (.iadd, 1), some (.putfield 517, 3), none,
  none, some (.aload 0, 1), some (.dup, 1), some (.getfield 518, 3), none, none, some (.iconst 256, 3), none,
  none, some (.iadd, 1), some (.putfield 518, 3), none, none, some (.return_, 1)]
def xg59 : List (Option (Instr × Nat)) := [some (.iload 1, 1), some (.istore 4, 2), none, some (.iload 4, 2), none, some (.aload 0, 1), some (.getfield 513, 3), none,
  none, some (.if_icmp .ge 40, 3), none, none, some (.aload 0, 1), some (.getfield 512, 3), none, none,
  some (.iload 4, 2), none, some (.baload, 1), some (.iload 2, 1), some (.if_icmp .lt 40, 3), none, none, some (.aload 0, 1),
  some (.getfield 512, 3), none, none, some (.iload 4, 2), none, some (.baload, 1), some (.iload 3, 1), some (.if_icmp .gt 40, 3),
  none, none, some (.iinc 4 1, 3), none, none, some (.goto 3, 3), none, none,
  some (.iload 4, 2), none, some (.ireturn, 1)]
def xg60 : List (Option (Instr × Nat)) := [some (.aload 0, 1), some (.getfield 515, 3), none, none, some (.iconst 3, 1), some (.if_icmp .ne 20, 3), none, none,
  some (.aload 0, 1), some (.getfield 518, 3), none, none, some (.iload 1, 1), some (.if_icmp .ne 20, 3), none, none,
  some (.iconst 1, 1), some (.goto 21, 3), none, none, some (.iconst 0, 1), some (.ireturn, 1)]
def xg61 : List (Option (Instr × Nat)) := [some (.aload 0, 1), some (.getfield 517, 3), none, none, some (.aload 0, 1), some (.getfield 516, 3), none, none,
  some (.isub, 1), some (.iconst 5, 1), some (.if_icmp .le 17, 3), none, none, some (.iconst 1, 1), some (.goto 18, 3), none,
  none, some (.iconst 0, 1), some (.ireturn, 1)]
def xg62 : List (Option (Instr × Nat)) := [some (.aload 0, 1), some (.getfield 515, 3), none, none, some (.iconst 1, 1), some (.if_icmp .eq 10, 3), none, none,
  some (.iconst (-1), 1), some (.ireturn, 1), some (.iconst 0, 1), some (.istore 2, 1), some (.iconst 0, 1), some (.istore 3, 1), some (.iconst 0, 1), some (.istore 4, 2),
  none, some (.iload 4, 2), none, some (.aload 1, 1), some (.invokevirtual 249, 3), none, none, some (.if_icmp .gt 73, 3),
  none, none, some (.iload 4, 2), none, some (.aload 1, 1), some (.invokevirtual 249, 3), none, none,
  some (.if_icmp .eq 46, 3), none, none, some (.aload 1, 1), some (.iload 4, 2), none, some (.invokevirtual 250, 3), none,
  none, some (.iconst 32, 2), none, some (.if_icmp .ne 67, 3), none, none, some (.aload 0, 1), some (.aload 1, 1),
  some (.iload 3, 1), some (.iload 4, 2), none, some (.invokevirtual 63, 3), none, none, some (.ifCond .eq 59, 3), none,
  none, some (.iload 2, 1), some (.ireturn, 1), some (.iinc 2 1, 3), none, none, some (.iload 4, 2), none,
  some (.iconst 1, 1), some (.iadd, 1), some (.istore 3, 1), some (.iinc 4 1, 3), none, none, some (.goto 17, 3), none,
  none, some (.iconst (-1), 1), some (.ireturn, 1)]
def xg63 : List (Option (Instr × Nat)) := [some (.iload 3, 1), some (.iload 2, 1), some (.isub, 1), some (.aload 0, 1), some (.getfield 517, 3), none, none, some (.aload 0, 1),
  some (.getfield 516, 3), none, none, some (.isub, 1), some (.if_icmp .eq 17, 3), none, none, some (.iconst 0, 1),
  some (.ireturn, 1), some (.iload 2, 1), some (.istore 4, 2), none, some (.iload 4, 2), none, some (.iload 3, 1), some (.if_icmp .ge 57, 3),
  none, none, some (.aload 0, 1), some (.getfield 512, 3), none, none, some (.aload 0, 1), some (.getfield 516, 3),
  none, none, some (.iload 4, 2), none, some (.iadd, 1), some (.iload 2, 1), some (.isub, 1), some (.baload, 1),
  some (.aload 1, 1), some (.iload 4, 2), none, some (.invokevirtual 250, 3), none, none, some (.if_icmp .eq 51, 3), none,
  none, some (.iconst 0, 1), some (.ireturn, 1), some (.iinc 4 1, 3), none, none, some (.goto 20, 3), none,
  none, some (.iconst 1, 1), some (.ireturn, 1)]
def xg64 : List (Option (Instr × Nat)) := [some (.aload 0, 1), some (.iconst 1, 1), some (.iconst 8, 2), none, some (.aload 0, 1), some (.getfield 516, 3), none, none,
  some (.imul, 1), some (.iadd, 1), some (.iload 1, 1), some (.iadd, 1), some (.putfield 514, 3), none, none, some (.iconst 0, 1),
  some (.ireturn, 1)]
def xg65 : List (Option (Instr × Nat)) := [some (.aload 0, 1), some (.invokespecial 9999, 3), none, none, some (.aload 0, 1), some (.new 10, 3), none, none,
  some (.dup, 1), some (.invokespecial 79, 3), none, none, some (.putfield 576, 3), none, none, some (.aload 0, 1),
  some (.iconst 40, 2), none, some (.newarray .int, 2), none, some (.putfield 577, 3), none, none, some (.aload 0, 1),
  some (.iconst 31, 2), none, some (.newarray .int, 2), none, some (.putfield 578, 3), none, none, some (.aload 0, 1),
  some (.iconst (-1), 1), some (.putfield 579, 3), none, none, some (.aload 0, 1), some (.iconst 0, 1), some (.putfield 580, 3), none,
  none, some (.return_, 1)]
def xg66 : List (Option (Instr × Nat)) := [some (.aload 0, 1), some (.getfield 576, 3), none, none, some (.aload 2, 1), some (.invokevirtual 80, 3), none, none,
  some (.aload 0, 1), some (.aload 1, 1), some (.iload 3, 1), some (.invokevirtual 67, 3), none, none, some (.pop, 1), some (.aload 0, 1),
  some (.getfield 576, 3), none, none, some (.areturn, 1)]
def xg67 : List (Option (Instr × Nat)) := [some (.iconst 0, 1), some (.istore 3, 1), some (.iconst 0, 1), some (.istore 4, 2), none, some (.iload 4, 2), none, some (.iload 2, 1),
  some (.if_icmp .ge 29, 3), none, none, some (.iload 3, 1), some (.aload 1, 1), some (.aload 0, 1), some (.getfield 576, 3), none,
  none, some (.iconst 0, 1), some (.invokevirtual 1, 3), none, none, some (.iadd, 1), some (.istore 3, 1), some (.iinc 4 1, 3),
  none, none, some (.goto 5, 3), none, none, some (.iload 3, 1), some (.ireturn, 1)]
def xg68 : List (Option (Instr × Nat)) := [some (.aload 0, 1), some (.getfield 576, 3), none, none, some (.aload 1, 1), some (.invokevirtual 80, 3), none, none,
  some (.aload 0, 1), some (.getfield 576, 3), none, none, some (.iload 2, 1), some (.invokevirtual 82, 3), none, none,
  some (.return_, 1)]
def xg69 : List (Option (Instr × Nat)) := [some (.aload 0, 1), some (.aload 2, 1), some (.iconst (-1), 1), some (.invokevirtual 68, 3), none, none, some (.aload 0, 1), some (.aload 1, 1),
  some (.iload 3, 1), some (.invokevirtual 67, 3), none, none, some (.istore 5, 2), none, some (.iconst (-1), 1), some (.istore 6, 2),
  none, some (.iconst 0, 1), some (.istore 7, 2), none, some (.iload 7, 2), none, some (.aload 1, 1), some (.getfield 2, 3),
  none, none, some (.getfield 138, 3), none, none, some (.if_icmp .ge 90, 3), none, none,
  some (.iload 7, 2), none, some (.iload 4, 2), none, some (.if_icmp .eq 84, 3), none, none, some (.aload 1, 1),
  some (.getfield 2, 3), none, none, some (.iload 7, 2), none, some (.invokevirtual 11, 3), none, none,
  some (.ifCond .ne 54, 3), none, none, some (.goto 84, 3), none, none, some (.aload 0, 1), some (.aload 2, 1),
  some (.iload 7, 2), none, some (.invokevirtual 68, 3), none, none, some (.aload 0, 1), some (.aload 1, 1), some (.iload 3, 1),
  some (.invokevirtual 67, 3), none, none, some (.istore 8, 2), none, some (.iload 8, 2), none, some (.iload 5, 2),
  none, some (.if_icmp .le 84, 3), none, none, some (.iload 8, 2), none, some (.istore 5, 2), none,
  some (.iload 7, 2), none, some (.istore 6, 2), none, some (.iinc 7 1, 3), none, none, some (.goto 20, 3),
  none, none, some (.aload 0, 1), some (.iload 6, 2), none, some (.putfield 579, 3), none, none,
  some (.iload 5, 2), none, some (.ireturn, 1)]
def xg70 : List (Option (Instr × Nat)) := [some (.aload 0, 1), some (.aload 2, 1), some (.iconst (-1), 1), some (.invokevirtual 68, 3), none, none, some (.aload 0, 1), some (.aload 1, 1),
  some (.iload 3, 1), some (.invokevirtual 67, 3), none, none, some (.istore 4, 2), none, some (.iconst 0, 1), some (.istore 5, 2),
  none, some (.iconst 0, 1), some (.istore 6, 2), none, some (.iconst 0, 1), some (.istore 7, 2), none, some (.iload 7, 2),
  none, some (.aload 1, 1), some (.getfield 2, 3), none, none, some (.getfield 138, 3), none, none,
  some (.if_icmp .ge 94, 3), none, none, some (.aload 1, 1), some (.getfield 2, 3), none, none, some (.iload 7, 2),
  none, some (.invokevirtual 11, 3), none, none, some (.ifCond .eq 88, 3), none, none, some (.aload 0, 1),
  some (.aload 2, 1), some (.iload 7, 2), none, some (.invokevirtual 68, 3), none, none, some (.aload 0, 1), some (.aload 1, 1),
  some (.iload 3, 1), some (.invokevirtual 67, 3), none, none, some (.iload 4, 2), none, some (.isub, 1), some (.istore 8, 2),
  none, some (.iload 6, 2), none, some (.iload 8, 2), none, some (.iload 5, 2), none, some (.invokestatic 248, 3),
  none, none, some (.invokestatic 247, 3), none, none, some (.istore 6, 2), none, some (.iload 5, 2),
  none, some (.iload 8, 2), none, some (.invokestatic 247, 3), none, none, some (.istore 5, 2), none,
  some (.iinc 7 1, 3), none, none, some (.goto 23, 3), none, none, some (.iload 6, 2), none,
  some (.ireturn, 1)]
def xg71 : List (Option (Instr × Nat)) := [some (.aload 0, 1), some (.getfield 576, 3), none, none, some (.aload 2, 1), some (.invokevirtual 80, 3), none, none,
  some (.aload 0, 1), some (.aload 1, 1), some (.iload 4, 2), none, some (.invokevirtual 67, 3), none, none, some (.istore 5, 2),
  none, some (.iconst 0, 1), some (.istore 6, 2), none, some (.iconst (-2), 2), none, some (.istore 7, 2), none,
  some (.iconst 0, 1), some (.istore 8, 2), none, some (.iload 8, 2), none, some (.aload 1, 1), some (.getfield 2, 3), none,
  none, some (.getfield 138, 3), none, none, some (.if_icmp .ge 117, 3), none, none, some (.aload 1, 1),
  some (.getfield 2, 3), none, none, some (.getfield 130, 3), none, none, some (.iload 8, 2), none,
  some (.iaload, 1), some (.iload 3, 1), some (.if_icmp .gt 111, 3), none, none, some (.aload 2, 1), some (.iload 8, 2), none,
  some (.invokevirtual 84, 3), none, none, some (.ifCond .eq 65, 3), none, none, some (.goto 111, 3), none,
  none, some (.aload 1, 1), some (.iload 8, 2), none, some (.putfield 4, 3), none, none, some (.aload 0, 1),
  some (.getfield 576, 3), none, none, some (.aload 2, 1), some (.invokevirtual 80, 3), none, none, some (.aload 0, 1),
  some (.aload 1, 1), some (.iload 4, 2), none, some (.invokevirtual 67, 3), none, none, some (.iload 5, 2), none,
  some (.isub, 1), some (.istore 9, 2), none, some (.iload 7, 2), none, some (.ifCond .lt 103, 3), none, none,
  some (.iload 9, 2), none, some (.iload 6, 2), none, some (.if_icmp .le 111, 3), none, none, some (.iload 9, 2),
  none, some (.istore 6, 2), none, some (.iload 8, 2), none, some (.istore 7, 2), none, some (.iinc 8 1, 3),
  none, none, some (.goto 27, 3), none, none, some (.aload 1, 1), some (.iconst (-1), 1), some (.putfield 4, 3),
  none, none, some (.aload 0, 1), some (.iload 7, 2), none, some (.putfield 579, 3), none, none,
  some (.iload 6, 2), none, some (.ireturn, 1)]
def xg72 : List (Option (Instr × Nat)) := [some (.aload 0, 1), some (.getfield 576, 3), none, none, some (.aload 2, 1), some (.invokevirtual 80, 3), none, none,
  some (.iconst 0, 1), some (.istore 5, 2), none, some (.iconst 0, 1), some (.istore 6, 2), none, some (.iload 6, 2), none,
  some (.iload 3, 1), some (.if_icmp .ge 80, 3), none, none, some (.aload 0, 1), some (.aload 0, 1), some (.getfield 580, 3), none,
  none, some (.i2l, 1), some (.ldc2_w 1103515245, 3), none, none, some (.lmul, 1), some (.ldc2_w 12345, 3), none,
  none, some (.ladd, 1), some (.l2i, 1), some (.iconst 2147483647, 2), none, some (.iand, 1), some (.putfield 580, 3), none,
  none, some (.iload 5, 2), none, some (.aload 1, 1), some (.aload 0, 1), some (.getfield 576, 3), none, none,
  some (.aload 0, 1), some (.getfield 580, 3), none, none, some (.iconst 65536, 2), none, some (.idiv, 1), some (.iconst 100, 2),
  none, some (.irem, 1), some (.iload 4, 2), none, some (.if_icmp .ge 67, 3), none, none, some (.iconst 1, 1),
  some (.goto 68, 3), none, none, some (.iconst 0, 1), some (.invokevirtual 1, 3), none, none, some (.iadd, 1),
  some (.istore 5, 2), none, some (.iinc 6 1, 3), none, none, some (.goto 14, 3), none, none,
  some (.iload 5, 2), none, some (.ireturn, 1)]
def xg73 : List (Option (Instr × Nat)) := [some (.iconst 0, 1), some (.istore 3, 1), some (.iconst (-1), 1), some (.istore 4, 2), none, some (.iload 4, 2), none, some (.aload 1, 1),
  some (.getfield 2, 3), none, none, some (.getfield 138, 3), none, none, some (.if_icmp .ge 78, 3), none,
  none, some (.iload 4, 2), none, some (.iconst (-1), 1), some (.if_icmp .eq 35, 3), none, none, some (.aload 1, 1),
  some (.getfield 2, 3), none, none, some (.iload 4, 2), none, some (.invokevirtual 11, 3), none, none,
  some (.ifCond .eq 72, 3), none, none, some (.aload 0, 1), some (.aload 1, 1), some (.aload 2, 1), some (.iload 4, 2), none,
  some (.invokevirtual 74, 3), none, none, some (.ifCond .eq 72, 3), none, none, some (.aload 0, 1), some (.iload 3, 1),
  some (.ifCond .ne 56, 3), none, none, some (.iload 4, 2), none, some (.goto 60, 3), none, none,
  some (.aload 0, 1), some (.getfield 579, 3), none, none, some (.putfield 579, 3), none, none, some (.iload 3, 1),
  some (.iconst 1, 1), some (.iload 4, 2), none, some (.iconst 1, 1), some (.iadd, 1), some (.ishl, 1), some (.ior, 1), some (.istore 3, 1),
  some (.iinc 4 1, 3), none, none, some (.goto 5, 3), none, none, some (.iload 3, 1), some (.ireturn, 1)]
def xg74 : List (Option (Instr × Nat)) := [some (.aload 0, 1), some (.getfield 576, 3), none, none, some (.aload 1, 1), some (.getfield 2, 3), none, none,
  some (.invokevirtual 81, 3), none, none, some (.aload 0, 1), some (.getfield 576, 3), none, none, some (.iload 3, 1),
  some (.invokevirtual 82, 3), none, none, some (.aload 2, 1), some (.invokevirtual 32, 3), none, none, some (.istore 4, 2),
  none, some (.iconst 0, 1), some (.istore 5, 2), none, some (.iload 5, 2), none, some (.iload 4, 2), none,
  some (.if_icmp .gt 80, 3), none, none, some (.aload 2, 1), some (.aload 0, 1), some (.getfield 576, 3), none, none,
  some (.aload 1, 1), some (.getfield 2, 3), none, none, some (.getfield 138, 3), none, none, some (.iload 5, 2),
  none, some (.invokevirtual 33, 3), none, none, some (.ifCond .ne 57, 3), none, none, some (.iconst 0, 1),
  some (.ireturn, 1), some (.iload 5, 2), none, some (.iload 4, 2), none, some (.if_icmp .ge 74, 3), none, none,
  some (.aload 1, 1), some (.aload 0, 1), some (.getfield 576, 3), none, none, some (.iconst 0, 1), some (.invokevirtual 1, 3), none,
  none, some (.pop, 1), some (.iinc 5 1, 3), none, none, some (.goto 28, 3), none, none,
  some (.iconst 1, 1), some (.ireturn, 1)]
def xg75 : List (Option (Instr × Nat)) := [some (.aload 0, 1), some (.getfield 577, 3), none, none, some (.iconst 0, 1), some (.invokestatic 255, 3), none, none,
  some (.iconst (-1), 1), some (.istore 4, 2), none, some (.iload 4, 2), none, some (.aload 1, 1), some (.getfield 2, 3), none,
  none, some (.getfield 138, 3), none, none, some (.if_icmp .ge 76, 3), none, none, some (.iload 2, 1),
  some (.iload 4, 2), none, some (.iconst 1, 1), some (.iadd, 1), some (.ishr, 1), some (.iconst 1, 1), some (.iand, 1), some (.iconst 1, 1),
  some (.if_icmp .ne 70, 3), none, none, some (.aload 0, 1), some (.getfield 576, 3), none, none, some (.aload 1, 1),
  some (.getfield 2, 3), none, none, some (.invokevirtual 81, 3), none, none, some (.aload 0, 1), some (.getfield 576, 3),
  none, none, some (.iload 4, 2), none, some (.invokevirtual 82, 3), none, none, some (.aload 0, 1),
  some (.aload 1, 1), some (.iload 3, 1), some (.invokevirtual 67, 3), none, none, some (.pop, 1), some (.aload 0, 1), some (.aload 1, 1),
  some (.getfield 2, 3), none, none, some (.invokevirtual 76, 3), none, none, some (.iinc 4 1, 3), none,
  none, some (.goto 11, 3), none, none, some (.iconst 8, 2), none, some (.istore 4, 2), none,
  some (.iconst 0, 1), some (.istore 5, 2), none, some (.iload 5, 2), none, some (.aload 1, 1), some (.getfield 2, 3), none,
  none, some (.getfield 134, 3), none, none, some (.if_icmp .ge 155, 3), none, none, some (.iconst 0, 1),
  some (.istore 6, 2), none, some (.iconst 0, 1), some (.istore 7, 2), none, some (.iload 7, 2), none, some (.iconst 4, 1),
  some (.if_icmp .ge 132, 3), none, none, some (.iload 6, 2), none, some (.aload 0, 1), some (.getfield 577, 3), none,
  none, some (.iload 5, 2), none, some (.iconst 4, 1), some (.imul, 1), some (.iload 7, 2), none, some (.iadd, 1),
  some (.iaload, 1), some (.invokestatic 247, 3), none, none, some (.istore 6, 2), none, some (.iinc 7 1, 3), none,
  none, some (.goto 101, 3), none, none, some (.iload 6, 2), none, some (.iload 4, 2), none,
  some (.if_icmp .ge 149, 3), none, none, some (.iload 6, 2), none, some (.istore 4, 2), none, some (.aload 0, 1),
  some (.iload 5, 2), none, some (.putfield 579, 3), none, none, some (.iinc 5 1, 3), none, none,
  some (.goto 83, 3), none, none, some (.iload 4, 2), none, some (.ireturn, 1)]
def xg76 : List (Option (Instr × Nat)) := [some (.iconst 0, 1), some (.istore 2, 1), some (.iload 2, 1), some (.aload 1, 1), some (.getfield 134, 3), none, none, some (.if_icmp .ge 85, 3),
  none, none, some (.iconst 0, 1), some (.istore 3, 1), some (.iconst 0, 1), some (.istore 4, 2), none, some (.iload 4, 2),
  none, some (.aload 1, 1), some (.getfield 138, 3), none, none, some (.if_icmp .ge 65, 3), none, none,
  some (.aload 0, 1), some (.getfield 576, 3), none, none, some (.getfield 640, 3), none, none, some (.iconst 0, 1),
  some (.iload 4, 2), none, some (.iadd, 1), some (.iaload, 1), some (.iload 2, 1), some (.if_icmp .ne 59, 3), none, none,
  some (.iload 3, 1), some (.iconst 1, 1), some (.aload 0, 1), some (.getfield 576, 3), none, none, some (.iload 4, 2), none,
  some (.invokevirtual 84, 3), none, none, some (.invokestatic 245, 3), none, none, some (.iadd, 1), some (.invokestatic 247, 3),
  none, none, some (.istore 3, 1), some (.iinc 4 1, 3), none, none, some (.goto 15, 3), none,
  none, some (.aload 0, 1), some (.getfield 577, 3), none, none, some (.iload 2, 1), some (.iconst 4, 1), some (.imul, 1),
  some (.iload 3, 1), some (.iadd, 1), some (.dup2, 1), some (.iaload, 1), some (.iconst 1, 1), some (.iadd, 1), some (.iastore, 1), some (.iinc 2 1, 3),
  none, none, some (.goto 2, 3), none, none, some (.return_, 1)]
def xg77 : List (Option (Instr × Nat)) := [some (.iload 3, 1), some (.ifCond .lt 10, 3), none, none, some (.iload 3, 1), some (.iconst 30, 2), none, some (.if_icmp .le 12, 3),
  none, none, some (.iconst 0, 1), some (.ireturn, 1), some (.aload 0, 1), some (.getfield 578, 3), none, none,
  some (.iload 3, 1), some (.iconst 0, 1), some (.iastore, 1), some (.iload 3, 1), some (.iconst 1, 1), some (.isub, 1), some (.istore 7, 2), none,
  some (.iload 7, 2), none, some (.ifCond .lt 66, 3), none, none, some (.aload 0, 1), some (.iload 1, 1), some (.iconst 0, 1),
  some (.iload 4, 2), none, some (.iload 6, 2), none, some (.iload 7, 2), none, some (.iload 7, 2), none,
  some (.iconst 1, 1), some (.iadd, 1), some (.iload 3, 1), some (.invokevirtual 78, 3), none, none, some (.istore 8, 2), none,
  some (.aload 0, 1), some (.getfield 578, 3), none, none, some (.iload 7, 2), none, some (.iload 5, 2), none,
  some (.iload 8, 2), none, some (.iadd, 1), some (.iastore, 1), some (.iinc 7 (-1), 3), none, none, some (.goto 24, 3),
  none, none, some (.aload 0, 1), some (.iload 1, 1), some (.iload 2, 1), some (.iload 4, 2), none, some (.iload 6, 2),
  none, some (.iconst 0, 1), some (.iconst 0, 1), some (.iload 3, 1), some (.invokevirtual 78, 3), none, none, some (.ireturn, 1)]
def xg78 : List (Option (Instr × Nat)) := [some (.iload 2, 1), some (.istore 8, 2), none, some (.iconst 0, 1), some (.istore 9, 2), none, some (.iconst 2147483647, 2), none,
  some (.istore 10, 2), none, some (.iload 5, 2), none, some (.istore 11, 2), none, some (.iload 11, 2), none,
  some (.iload 7, 2), none, some (.if_icmp .gt 101, 3), none, none, some (.iload 11, 2), none, some (.iload 6, 2),
  none, some (.if_icmp .lt 72, 3), none, none, some (.iload 9, 2), none, some (.aload 0, 1), some (.getfield 578, 3),
  none, none, some (.iload 11, 2), none, some (.iaload, 1), some (.iadd, 1), some (.iload 10, 2), none,
  some (.if_icmp .gt 72, 3), none, none, some (.iload 9, 2), none, some (.aload 0, 1), some (.getfield 578, 3), none,
  none, some (.iload 11, 2), none, some (.iaload, 1), some (.iadd, 1), some (.istore 10, 2), none, some (.aload 0, 1),
  some (.iload 11, 2), none, some (.iload 7, 2), none, some (.if_icmp .ge 68, 3), none, none, some (.iload 11, 2),
  none, some (.goto 69, 3), none, none, some (.iconst (-1), 1), some (.putfield 579, 3), none, none,
  some (.iload 8, 2), none, some (.iload 3, 1), some (.iadd, 1), some (.istore 8, 2), none, some (.iload 9, 2), none,
  some (.iload 8, 2), none, some (.iload 1, 1), some (.if_icmp .lt 91, 3), none, none, some (.iload 4, 2), none,
  some (.goto 92, 3), none, none, some (.iconst 0, 1), some (.iadd, 1), some (.istore 9, 2), none, some (.iinc 11 1, 3),
  none, none, some (.goto 14, 3), none, none, some (.iload 10, 2), none, some (.ireturn, 1)]
def xg79 : List (Option (Instr × Nat)) := [some (.aload 0, 1), some (.invokespecial 9999, 3), none, none, some (.aload 0, 1), some (.iconst 33, 2), none, some (.newarray .int, 2),
  none, some (.putfield 640, 3), none, none, some (.return_, 1)]
def xg80 : List (Option (Instr × Nat)) := [some (.aload 1, 1), some (.getfield 640, 3), none, none, some (.iconst 0, 1), some (.aload 0, 1), some (.getfield 640, 3), none,
  none, some (.iconst 0, 1), some (.iconst 33, 2), none, some (.invokestatic 9998, 3), none, none, some (.return_, 1)]
def xg81 : List (Option (Instr × Nat)) := [some (.aload 0, 1), some (.getfield 640, 3), none, none, some (.iconst 0, 1), some (.invokestatic 255, 3), none, none,
  some (.aload 1, 1), some (.getfield 129, 3), none, none, some (.iconst 0, 1), some (.aload 0, 1), some (.getfield 640, 3), none,
  none, some (.iconst 0, 1), some (.aload 1, 1), some (.getfield 138, 3), none, none, some (.invokestatic 9998, 3), none,
  none, some (.iconst 0, 1), some (.istore 2, 1), some (.iload 2, 1), some (.iconst 2, 1), some (.if_icmp .ge 61, 3), none, none,
  some (.aload 0, 1), some (.getfield 640, 3), none, none, some (.iconst 24, 2), none, some (.iload 2, 1), some (.iadd, 1),
  some (.iconst (-1), 1), some (.iastore, 1), some (.aload 0, 1), some (.getfield 640, 3), none, none, some (.iconst 26, 2), none,
  some (.iload 2, 1), some (.iadd, 1), some (.aload 1, 1), some (.getfield 137, 3), none, none, some (.iastore, 1), some (.iinc 2 1, 3),
  none, none, some (.goto 27, 3), none, none, some (.return_, 1)]
def xg82 : List (Option (Instr × Nat)) := [some (.iconst 0, 1), some (.istore 2, 1), some (.iload 2, 1), some (.iconst 2, 1), some (.if_icmp .ge 33, 3), none, none, some (.aload 0, 1),
  some (.getfield 640, 3), none, none, some (.iconst 24, 2), none, some (.iload 2, 1), some (.iadd, 1), some (.iload 1, 1),
  some (.iastore, 1), some (.aload 0, 1), some (.getfield 640, 3), none, none, some (.iconst 26, 2), none, some (.iload 2, 1),
  some (.iadd, 1), some (.iconst 0, 1), some (.iastore, 1), some (.iinc 2 1, 3), none, none, some (.goto 2, 3), none,
  none, some (.return_, 1)]
def xg83 : List (Option (Instr × Nat)) := [some (.aload 0, 1), some (.getfield 640, 3), none, none, some (.iconst 24, 2), none, some (.iload 1, 1), some (.iadd, 1),
  some (.iaload, 1), some (.istore 2, 1), some (.iload 2, 1), some (.ifCond .ge 26, 3), none, none, some (.aload 0, 1), some (.getfield 640, 3),
  none, none, some (.iconst 26, 2), none, some (.iload 1, 1), some (.iadd, 1), some (.iaload, 1), some (.goto 34, 3),
  none, none, some (.aload 0, 1), some (.getfield 640, 3), none, none, some (.iconst 0, 1), some (.iload 2, 1),
  some (.iadd, 1), some (.iaload, 1), some (.ireturn, 1)]
def xg84 : List (Option (Instr × Nat)) := [some (.aload 0, 1), some (.getfield 640, 3), none, none, some (.iconst 24, 2), none, some (.iaload, 1), some (.iload 1, 1),
  some (.if_icmp .ne 15, 3), none, none, some (.iconst 1, 1), some (.goto 16, 3), none, none, some (.iconst 0, 1),
  some (.istore 2, 1), some (.aload 0, 1), some (.getfield 640, 3), none, none, some (.iconst 25, 2), none, some (.iaload, 1),
  some (.iload 1, 1), some (.if_icmp .ne 34, 3), none, none, some (.iload 2, 1), some (.iconst 2, 1), some (.iadd, 1), some (.goto 35, 3),
  none, none, some (.iload 2, 1), some (.ireturn, 1)]
def xg85 : List (Option (Instr × Nat)) := [some (.aload 0, 1), some (.iconst 18, 2), none, some (.invokevirtual 87, 3), none, none, some (.ireturn, 1)]
def xg86 : List (Option (Instr × Nat)) := [some (.aload 0, 1), some (.iconst 6, 2), none, some (.invokevirtual 87, 3), none, none, some (.ireturn, 1)]
def xg87 : List (Option (Instr × Nat)) := [some (.iconst 0, 1), some (.istore 2, 1), some (.iconst 0, 1), some (.istore 3, 1), some (.iload 3, 1), some (.iconst 6, 2), none, some (.if_icmp .ge 27, 3),
  none, none, some (.iload 2, 1), some (.aload 0, 1), some (.getfield 640, 3), none, none, some (.iload 1, 1),
  some (.iload 3, 1), some (.iadd, 1), some (.iaload, 1), some (.iadd, 1), some (.istore 2, 1), some (.iinc 3 1, 3), none, none,
  some (.goto 4, 3), none, none, some (.iload 2, 1), some (.ireturn, 1)]
def xg88 : List (Option (Instr × Nat)) := [some (.aload 0, 1), some (.invokespecial 9999, 3), none, none, some (.aload 0, 1), some (.new 8, 3), none, none,
  some (.dup, 1), some (.invokespecial 55, 3), none, none, some (.putfield 704, 3), none, none, some (.aload 0, 1),
  some (.new 7, 3), none, none, some (.dup, 1), some (.invokespecial 43, 3), none, none, some (.putfield 705, 3),
  none, none, some (.aload 0, 1), some (.iconst 6, 2), none, some (.anewarray 4, 3), none, none,
  some (.putfield 706, 3), none, none, some (.aload 0, 1), some (.iconst 4, 1), some (.anewarray 5, 3), none, none,
  some (.putfield 707, 3), none, none, some (.aload 0, 1), some (.new 10, 3), none, none, some (.dup, 1),
  some (.invokespecial 79, 3), none, none, some (.putfield 708, 3), none, none, some (.aload 0, 1), some (.new 3, 3),
  none, none, some (.dup, 1), some (.invokespecial 26, 3), none, none, some (.putfield 709, 3), none,
  none, some (.aload 0, 1), some (.new 4, 3), none, none, some (.dup, 1), some (.invokespecial 29, 3), none,
  none, some (.putfield 710, 3), none, none, some (.aload 0, 1), some (.new 0, 3), none, none,
  some (.dup, 1), some (.invokespecial 0, 3), none, none, some (.putfield 711, 3), none, none, some (.aload 0, 1),
  some (.new 9, 3), none, none, some (.dup, 1), some (.invokespecial 65, 3), none, none, some (.putfield 712, 3),
  none, none, some (.aload 0, 1), some (.new 5, 3), none, none, some (.dup, 1), some (.invokespecial 34, 3),
  none, none, some (.putfield 713, 3), none, none, some (.aload 0, 1), some (.aload 0, 1), some (.getfield 711, 3),
  none, none, some (.getfield 2, 3), none, none, some (.putfield 714, 3), none, none,
  some (.aload 0, 1), some (.new 2, 3), none, none, some (.dup, 1), some (.invokespecial 9, 3), none, none,
  some (.putfield 715, 3), none, none, some (.aload 0, 1), some (.iconst 0, 1), some (.putfield 716, 3), none, none,
  some (.aload 0, 1), some (.iconst (-1), 1), some (.putfield 717, 3), none, none, some (.aload 0, 1), some (.iconst 0, 1), some (.putfield 718, 3),
  none, none, some (.return_, 1)]
def xg89 : List (Option (Instr × Nat)) := [some (.aload 0, 1), some (.getfield 704, 3), none, none, some (.getfield 513, 3), none, none, some (.iconst 20, 2),
  none, some (.iadd, 1), some (.iconst 400, 3), none, none, some (.if_icmp .le 18, 3), none, none,
  some (.iconst (-1), 1), some (.ireturn, 1), some (.aload 0, 1), some (.getfield 704, 3), none, none, some (.iload 1, 1), some (.invokevirtual 56, 3),
  none, none, some (.aload 0, 1), some (.getfield 704, 3), none, none, some (.iload 2, 1), some (.invokevirtual 56, 3),
  none, none, some (.aload 0, 1), some (.getfield 704, 3), none, none, some (.iload 3, 1), some (.invokevirtual 56, 3),
  none, none, some (.aload 0, 1), some (.getfield 704, 3), none, none, some (.iload 4, 2), none,
  some (.invokevirtual 56, 3), none, none, some (.aload 0, 1), some (.getfield 704, 3), none, none, some (.iload 5, 2),
  none, some (.invokevirtual 56, 3), none, none, some (.aload 0, 1), some (.getfield 704, 3), none, none,
  some (.getfield 513, 3), none, none, some (.ireturn, 1)]
def xg90 : List (Option (Instr × Nat)) := [some (.iload 1, 1), some (.ifCond .lt 15, 3), none, none, some (.iload 1, 1), some (.aload 0, 1), some (.getfield 704, 3), none,
  none, some (.getfield 513, 3), none, none, some (.if_icmp .le 17, 3), none, none, some (.iconst (-1), 1),
  some (.ireturn, 1), some (.aload 0, 1), some (.getfield 704, 3), none, none, some (.iload 1, 1), some (.putfield 513, 3), none,
  none, some (.iload 1, 1), some (.ireturn, 1)]
def xg91 : List (Option (Instr × Nat)) := [some (.aload 0, 1), some (.getfield 715, 3), none, none, some (.aload 0, 1), some (.getfield 704, 3), none, none,
  some (.invokevirtual 15, 3), none, none, some (.istore 1, 1), some (.aload 0, 1), some (.getfield 704, 3), none, none,
  some (.iconst 0, 1), some (.putfield 513, 3), none, none, some (.iload 1, 1), some (.ifCond .ne 35, 3), none, none,
  some (.iconst (-2), 2), none, some (.aload 0, 1), some (.getfield 704, 3), none, none, some (.getfield 514, 3), none,
  none, some (.isub, 1), some (.ireturn, 1), some (.aload 0, 1), some (.getfield 714, 3), none, none, some (.aload 0, 1),
  some (.getfield 715, 3), none, none, some (.invokevirtual 10, 3), none, none, some (.aload 0, 1), some (.getfield 708, 3),
  none, none, some (.aload 0, 1), some (.getfield 714, 3), none, none, some (.invokevirtual 81, 3), none,
  none, some (.aload 0, 1), some (.getfield 710, 3), none, none, some (.iconst 0, 1), some (.putfield 257, 3), none,
  none, some (.aload 0, 1), some (.getfield 709, 3), none, none, some (.iconst 0, 1), some (.putfield 194, 3), none,
  none, some (.aload 0, 1), some (.getfield 714, 3), none, none, some (.getfield 138, 3), none, none,
  some (.ireturn, 1)]
def xg92 : List (Option (Instr × Nat)) := [some (.aload 0, 1), some (.getfield 716, 3), none, none, some (.iconst 6, 2), none, some (.if_icmp .lt 11, 3), none,
  none, some (.iconst (-1), 1), some (.ireturn, 1), some (.aload 0, 1), some (.getfield 705, 3), none, none, some (.aload 0, 1),
  some (.getfield 704, 3), none, none, some (.invokevirtual 45, 3), none, none, some (.istore 1, 1), some (.aload 0, 1),
  some (.getfield 704, 3), none, none, some (.iconst 0, 1), some (.putfield 513, 3), none, none, some (.iload 1, 1),
  some (.ifCond .ne 46, 3), none, none, some (.iconst (-2), 2), none, some (.aload 0, 1), some (.getfield 704, 3), none,
  none, some (.getfield 514, 3), none, none, some (.isub, 1), some (.ireturn, 1), some (.aload 0, 1), some (.getfield 706, 3),
  none, none, some (.aload 0, 1), some (.getfield 716, 3), none, none, some (.aload 0, 1), some (.getfield 705, 3),
  none, none, some (.invokevirtual 44, 3), none, none, some (.aastore, 1), some (.aload 0, 1), some (.dup, 1),
  some (.getfield 716, 3), none, none, some (.iconst 1, 1), some (.iadd, 1), some (.putfield 716, 3), none, none,
  some (.aload 0, 1), some (.getfield 716, 3), none, none, some (.iconst 1, 1), some (.isub, 1), some (.ireturn, 1)]
def xg93 : List (Option (Instr × Nat)) := [some (.iload 1, 1), some (.iconst (-1), 1), some (.if_icmp .lt 13, 3), none, none, some (.iload 1, 1), some (.aload 0, 1), some (.getfield 716, 3),
  none, none, some (.if_icmp .lt 16, 3), none, none, some (.iconst (-2), 2), none, some (.ireturn, 1),
  some (.aload 0, 1), some (.getfield 717, 3), none, none, some (.istore 2, 1), some (.aload 0, 1), some (.iload 1, 1), some (.putfield 717, 3),
  none, none, some (.iload 2, 1), some (.ireturn, 1)]
def xg94 : List (Option (Instr × Nat)) := [some (.aload 0, 1), some (.iload 1, 1), some (.invokevirtual 118, 3), none, none, some (.ifCond .ne 10, 3), none, none,
  some (.iconst (-1), 1), some (.ireturn, 1), some (.iload 2, 1), some (.tableswitch 155 0 7 #[56, 68, 78, 88, 101, 114, 123, 136], 45), none, none, none, none,
  none, none, none, none, none, none, none, none,
  none, none, none, none, none, none, none, none,
  none, none, none, none, none, none, none, none,
  none, none, none, none, none, none, none, none,
  none, none, none, none, none, none, none, none,
  some (.aload 0, 1), some (.getfield 708, 3), none, none, some (.getfield 640, 3), none, none, some (.iconst 0, 1),
  some (.iload 1, 1), some (.iadd, 1), some (.iaload, 1), some (.ireturn, 1), some (.aload 0, 1), some (.getfield 714, 3), none, none,
  some (.getfield 129, 3), none, none, some (.iload 1, 1), some (.iaload, 1), some (.ireturn, 1), some (.aload 0, 1), some (.getfield 714, 3),
  none, none, some (.getfield 130, 3), none, none, some (.iload 1, 1), some (.iaload, 1), some (.ireturn, 1),
  some (.aload 0, 1), some (.getfield 708, 3), none, none, some (.getfield 640, 3), none, none, some (.iconst 6, 2),
  none, some (.iload 1, 1), some (.iadd, 1), some (.iaload, 1), some (.ireturn, 1), some (.aload 0, 1), some (.getfield 708, 3), none,
  none, some (.getfield 640, 3), none, none, some (.iconst 12, 2), none, some (.iload 1, 1), some (.iadd, 1),
  some (.iaload, 1), some (.ireturn, 1), some (.aload 0, 1), some (.getfield 708, 3), none, none, some (.iload 1, 1), some (.invokevirtual 84, 3),
  none, none, some (.ireturn, 1), some (.aload 0, 1), some (.getfield 708, 3), none, none, some (.getfield 640, 3),
  none, none, some (.iconst 18, 2), none, some (.iload 1, 1), some (.iadd, 1), some (.iaload, 1), some (.ireturn, 1),
  some (.aload 0, 1), some (.getfield 714, 3), none, none, some (.iload 1, 1), some (.aload 0, 1), some (.getfield 708, 3), none,
  none, some (.getfield 640, 3), none, none, some (.iconst 30, 2), none, some (.iaload, 1), some (.invokevirtual 14, 3),
  none, none, some (.ireturn, 1), some (.iconst (-1), 1), some (.ireturn, 1)]
def xg95 : List (Option (Instr × Nat)) := [some (.aload 0, 1), some (.iload 1, 1), some (.invokevirtual 120, 3), none, none, some (.ifCond .ne 11, 3), none, none,
  some (.iconst (-2), 2), none, some (.ireturn, 1), some (.iload 2, 1), some (.tableswitch 107 0 3 #[44, 57, 66, 79], 32), none, none, none,
  none, none, none, none, none, none, none, none,
  none, none, none, none, none, none, none, none,
  none, none, none, none, none, none, none, none,
  none, none, none, none, some (.aload 0, 1), some (.getfield 708, 3), none, none,
  some (.getfield 640, 3), none, none, some (.iconst 24, 2), none, some (.iload 1, 1), some (.iadd, 1), some (.iaload, 1),
  some (.ireturn, 1), some (.aload 0, 1), some (.getfield 708, 3), none, none, some (.iload 1, 1), some (.invokevirtual 83, 3), none,
  none, some (.ireturn, 1), some (.aload 0, 1), some (.getfield 708, 3), none, none, some (.getfield 640, 3), none,
  none, some (.iconst 28, 2), none, some (.iload 1, 1), some (.iadd, 1), some (.iaload, 1), some (.ireturn, 1), some (.aload 0, 1),
  some (.getfield 708, 3), none, none, some (.getfield 640, 3), none, none, some (.iconst 28, 2), none,
  some (.iload 1, 1), some (.iadd, 1), some (.iaload, 1), some (.aload 0, 1), some (.getfield 714, 3), none, none, some (.getfield 136, 3),
  none, none, some (.if_icmp .lt 105, 3), none, none, some (.iconst 1, 1), some (.goto 106, 3), none,
  none, some (.iconst 0, 1), some (.ireturn, 1), some (.iconst (-2), 2), none, some (.ireturn, 1)]
def xg96 : List (Option (Instr × Nat)) := [some (.aload 0, 1), some (.iload 1, 1), some (.invokevirtual 119, 3), none, none, some (.ifCond .eq 20, 3), none, none,
  some (.aload 0, 1), some (.getfield 714, 3), none, none, some (.getfield 128, 3), none, none, some (.iload 1, 1),
  some (.iaload, 1), some (.goto 21, 3), none, none, some (.iconst (-1), 1), some (.ireturn, 1)]
def xg97 : List (Option (Instr × Nat)) := [some (.aload 0, 1), some (.getfield 708, 3), none, none, some (.getfield 640, 3), none, none, some (.iconst 30, 2),
  none, some (.iaload, 1), some (.iconst 23, 2), none, some (.if_icmp .lt 35, 3), none, none, some (.aload 0, 1),
  some (.getfield 708, 3), none, none, some (.getfield 640, 3), none, none, some (.iconst 31, 2), none,
  some (.iaload, 1), some (.iconst 999, 3), none, none, some (.if_icmp .lt 35, 3), none, none, some (.iconst 1, 1),
  some (.goto 36, 3), none, none, some (.iconst 0, 1), some (.istore 1, 1), some (.aload 0, 1), some (.invokevirtual 117, 3), none,
  none, some (.ifCond .eq 48, 3), none, none, some (.iload 1, 1), some (.ifCond .eq 50, 3), none, none,
  some (.iconst (-1), 1), some (.ireturn, 1), some (.aload 0, 1), some (.getfield 709, 3), none, none, some (.aload 0, 1), some (.getfield 708, 3),
  none, none, some (.invokevirtual 27, 3), none, none, some (.aload 0, 1), some (.invokevirtual 124, 3), none,
  none, some (.aload 0, 1), some (.getfield 708, 3), none, none, some (.iconst 0, 1), some (.invokevirtual 1, 3), none,
  none, some (.ireturn, 1)]
def xg98 : List (Option (Instr × Nat)) := [some (.aload 0, 1), some (.iload 1, 1), some (.invokevirtual 120, 3), none, none, some (.ifCond .eq 27, 3), none, none,
  some (.aload 0, 1), some (.iload 2, 1), some (.invokevirtual 118, 3), none, none, some (.ifCond .eq 27, 3), none, none,
  some (.aload 0, 1), some (.getfield 714, 3), none, none, some (.iload 2, 1), some (.invokevirtual 11, 3), none, none,
  some (.ifCond .ne 30, 3), none, none, some (.iconst (-2), 2), none, some (.ireturn, 1), some (.aload 0, 1), some (.getfield 708, 3),
  none, none, some (.getfield 640, 3), none, none, some (.iconst 24, 2), none, some (.iload 1, 1),
  some (.iadd, 1), some (.iaload, 1), some (.istore 3, 1), some (.iload 3, 1), some (.iload 2, 1), some (.if_icmp .eq 70, 3), none, none,
  some (.aload 0, 1), some (.getfield 708, 3), none, none, some (.iload 1, 1), some (.invokevirtual 83, 3), none, none,
  some (.aload 0, 1), some (.getfield 708, 3), none, none, some (.getfield 640, 3), none, none, some (.iconst 0, 1),
  some (.iload 2, 1), some (.iadd, 1), some (.iaload, 1), some (.if_icmp .eq 73, 3), none, none, some (.iconst (-2), 2), none,
  some (.ireturn, 1), some (.aload 0, 1), some (.getfield 709, 3), none, none, some (.aload 0, 1), some (.getfield 708, 3), none,
  none, some (.invokevirtual 27, 3), none, none, some (.aload 0, 1), some (.getfield 708, 3), none, none,
  some (.getfield 640, 3), none, none, some (.iconst 24, 2), none, some (.iload 1, 1), some (.iadd, 1), some (.iload 2, 1),
  some (.iastore, 1), some (.iload 3, 1), some (.ireturn, 1)]
def xg99 : List (Option (Instr × Nat)) := [some (.aload 0, 1), some (.iload 1, 1), some (.invokevirtual 120, 3), none, none, some (.ifCond .eq 24, 3), none, none,
  some (.aload 0, 1), some (.getfield 708, 3), none, none, some (.getfield 640, 3), none, none, some (.iconst 24, 2),
  none, some (.iload 1, 1), some (.iadd, 1), some (.iaload, 1), some (.iconst (-1), 1), some (.if_icmp .ne 26, 3), none, none,
  some (.iconst (-1), 1), some (.ireturn, 1), some (.aload 0, 1), some (.getfield 709, 3), none, none, some (.aload 0, 1), some (.getfield 708, 3),
  none, none, some (.invokevirtual 27, 3), none, none, some (.aload 0, 1), some (.getfield 708, 3), none,
  none, some (.iload 1, 1), some (.invokevirtual 83, 3), none, none, some (.istore 2, 1), some (.aload 0, 1), some (.getfield 708, 3),
  none, none, some (.getfield 640, 3), none, none, some (.iconst 24, 2), none, some (.iload 1, 1),
  some (.iadd, 1), some (.iconst (-1), 1), some (.iastore, 1), some (.aload 0, 1), some (.getfield 708, 3), none, none, some (.getfield 640, 3),
  none, none, some (.iconst 26, 2), none, some (.iload 1, 1), some (.iadd, 1), some (.iload 2, 1), some (.iastore, 1),
  some (.iload 2, 1), some (.ireturn, 1)]
def xg100 : List (Option (Instr × Nat)) := [some (.aload 0, 1), some (.getfield 708, 3), none, none, some (.invokevirtual 85, 3), none, none, some (.aload 0, 1),
  some (.getfield 708, 3), none, none, some (.getfield 640, 3), none, none, some (.iconst 32, 2), none,
  some (.iaload, 1), some (.isub, 1), some (.istore 2, 1), some (.aload 0, 1), some (.iload 1, 1), some (.invokevirtual 120, 3), none, none,
  some (.ifCond .eq 48, 3), none, none, some (.aload 0, 1), some (.getfield 708, 3), none, none, some (.getfield 640, 3),
  none, none, some (.iconst 28, 2), none, some (.iload 1, 1), some (.iadd, 1), some (.iaload, 1), some (.ifCond .eq 48, 3),
  none, none, some (.iload 2, 1), some (.iconst 10, 2), none, some (.if_icmp .ge 50, 3), none, none,
  some (.iconst (-1), 1), some (.ireturn, 1), some (.aload 0, 1), some (.getfield 709, 3), none, none, some (.aload 0, 1), some (.getfield 708, 3),
  none, none, some (.invokevirtual 27, 3), none, none, some (.aload 0, 1), some (.getfield 708, 3), none,
  none, some (.getfield 640, 3), none, none, some (.iconst 28, 2), none, some (.iload 1, 1), some (.iadd, 1),
  some (.iconst 0, 1), some (.iastore, 1), some (.aload 0, 1), some (.getfield 708, 3), none, none, some (.getfield 640, 3), none,
  none, some (.iconst 32, 2), none, some (.dup2, 1), some (.iaload, 1), some (.iconst 10, 2), none, some (.iadd, 1),
  some (.iastore, 1), some (.iload 2, 1), some (.iconst 10, 2), none, some (.isub, 1), some (.ireturn, 1)]
def xg101 : List (Option (Instr × Nat)) := [some (.aload 0, 1), some (.getfield 709, 3), none, none, some (.aload 0, 1), some (.getfield 708, 3), none, none,
  some (.invokevirtual 28, 3), none, none, some (.ifCond .eq 24, 3), none, none, some (.aload 0, 1), some (.getfield 709, 3),
  none, none, some (.getfield 194, 3), none, none, some (.goto 25, 3), none, none,
  some (.iconst (-1), 1), some (.ireturn, 1)]
def xg102 : List (Option (Instr × Nat)) := [some (.aload 0, 1), some (.iload 1, 1), some (.invokevirtual 118, 3), none, none, some (.ifCond .eq 27, 3), none, none,
  some (.iload 2, 1), some (.ifCond .lt 27, 3), none, none, some (.iload 2, 1), some (.iconst 96, 2), none, some (.if_icmp .gt 27, 3),
  none, none, some (.iload 3, 1), some (.ifCond .lt 27, 3), none, none, some (.iload 3, 1), some (.iconst 2, 1),
  some (.if_icmp .le 29, 3), none, none, some (.iconst (-1), 1), some (.ireturn, 1), some (.aload 0, 1), some (.getfield 712, 3), none,
  none, some (.aload 0, 1), some (.invokevirtual 124, 3), none, none, some (.aload 0, 1), some (.getfield 708, 3), none,
  none, some (.iload 2, 1), some (.invokevirtual 66, 3), none, none, some (.astore 4, 2), none, some (.iload 3, 1),
  some (.lookupswitch 97 #[(0, 76), (1, 86)], 28), none, none, none, none, none, none, none,
  none, none, none, none, none, none, none, none,
  none, none, none, none, none, none, none, none,
  none, none, none, none, some (.aload 4, 2), none, some (.getfield 640, 3), none,
  none, some (.iconst 0, 1), some (.iload 1, 1), some (.iadd, 1), some (.iaload, 1), some (.ireturn, 1), some (.aload 4, 2), none,
  some (.getfield 640, 3), none, none, some (.iconst 6, 2), none, some (.iload 1, 1), some (.iadd, 1), some (.iaload, 1),
  some (.ireturn, 1), some (.aload 4, 2), none, some (.getfield 640, 3), none, none, some (.iconst 18, 2), none,
  some (.iload 1, 1), some (.iadd, 1), some (.iaload, 1), some (.ireturn, 1)]
def xg103 : List (Option (Instr × Nat)) := [some (.aload 0, 1), some (.invokevirtual 117, 3), none, none, some (.ifCond .eq 23, 3), none, none, some (.iload 1, 1),
  some (.invokestatic 121, 3), none, none, some (.ifCond .eq 23, 3), none, none, some (.iload 2, 1), some (.ifCond .lt 23, 3),
  none, none, some (.iload 2, 1), some (.iconst 1, 1), some (.if_icmp .le 26, 3), none, none, some (.iconst (-2), 2),
  none, some (.ireturn, 1), some (.aload 0, 1), some (.getfield 712, 3), none, none, some (.aload 0, 1), some (.invokevirtual 124, 3),
  none, none, some (.aload 0, 1), some (.getfield 708, 3), none, none, some (.iload 1, 1), some (.iconst (-1), 1),
  some (.invokevirtual 69, 3), none, none, some (.istore 3, 1), some (.iload 2, 1), some (.ifCond .ne 58, 3), none, none,
  some (.aload 0, 1), some (.getfield 712, 3), none, none, some (.getfield 579, 3), none, none, some (.goto 59, 3),
  none, none, some (.iload 3, 1), some (.ireturn, 1)]
def xg104 : List (Option (Instr × Nat)) := [some (.aload 0, 1), some (.iload 1, 1), some (.invokevirtual 118, 3), none, none, some (.ifCond .eq 15, 3), none, none,
  some (.iload 2, 1), some (.invokestatic 121, 3), none, none, some (.ifCond .ne 17, 3), none, none, some (.iconst (-1), 1),
  some (.ireturn, 1), some (.aload 0, 1), some (.invokevirtual 124, 3), none, none, some (.astore 3, 1), some (.aload 0, 1), some (.getfield 712, 3),
  none, none, some (.aload 3, 1), some (.aload 0, 1), some (.getfield 708, 3), none, none, some (.iload 2, 1),
  some (.iconst (-1), 1), some (.invokevirtual 69, 3), none, none, some (.aload 0, 1), some (.getfield 712, 3), none, none,
  some (.aload 3, 1), some (.aload 0, 1), some (.getfield 708, 3), none, none, some (.iload 2, 1), some (.iload 1, 1), some (.invokevirtual 69, 3),
  none, none, some (.isub, 1), some (.ireturn, 1)]
def xg105 : List (Option (Instr × Nat)) := [some (.aload 0, 1), some (.invokevirtual 117, 3), none, none, some (.ifCond .eq 14, 3), none, none, some (.iload 1, 1),
  some (.invokestatic 121, 3), none, none, some (.ifCond .ne 16, 3), none, none, some (.iconst (-1), 1), some (.ireturn, 1),
  some (.aload 0, 1), some (.getfield 712, 3), none, none, some (.aload 0, 1), some (.invokevirtual 124, 3), none, none,
  some (.aload 0, 1), some (.getfield 708, 3), none, none, some (.iload 1, 1), some (.invokevirtual 70, 3), none, none,
  some (.ireturn, 1)]
def xg106 : List (Option (Instr × Nat)) := [some (.aload 0, 1), some (.invokevirtual 117, 3), none, none, some (.ifCond .eq 26, 3), none, none, some (.iload 1, 1),
  some (.iconst 1, 1), some (.if_icmp .lt 26, 3), none, none, some (.iload 1, 1), some (.iconst 4, 1), some (.if_icmp .gt 26, 3), none,
  none, some (.iload 2, 1), some (.ifCond .lt 26, 3), none, none, some (.iload 2, 1), some (.iconst 4, 1), some (.if_icmp .le 29, 3),
  none, none, some (.iconst (-3), 2), none, some (.ireturn, 1), some (.iload 2, 1), some (.iload 1, 1), some (.if_icmp .le 37, 3),
  none, none, some (.iconst (-2), 2), none, some (.ireturn, 1), some (.aload 0, 1), some (.getfield 713, 3), none,
  none, some (.aload 0, 1), some (.invokevirtual 124, 3), none, none, some (.aload 0, 1), some (.getfield 708, 3), none,
  none, some (.iload 1, 1), some (.invokevirtual 35, 3), none, none, some (.iload 2, 1), some (.ifCond .ne 67, 3), none,
  none, some (.aload 0, 1), some (.getfield 713, 3), none, none, some (.getfield 325, 3), none, none,
  some (.goto 78, 3), none, none, some (.aload 0, 1), some (.getfield 713, 3), none, none, some (.getfield 324, 3),
  none, none, some (.iload 2, 1), some (.iconst 1, 1), some (.isub, 1), some (.iaload, 1), some (.ireturn, 1)]
def xg107 : List (Option (Instr × Nat)) := [some (.iload 1, 1), some (.iconst (-1), 1), some (.if_icmp .ne 15, 3), none, none, some (.aload 0, 1), some (.getfield 710, 3), none,
  none, some (.iconst 0, 1), some (.putfield 257, 3), none, none, some (.iconst 0, 1), some (.ireturn, 1), some (.iload 1, 1),
  some (.invokestatic 122, 3), none, none, some (.ifCond .eq 43, 3), none, none, some (.aload 0, 1), some (.iload 2, 1),
  some (.invokevirtual 119, 3), none, none, some (.ifCond .eq 43, 3), none, none, some (.iload 3, 1), some (.ifCond .lt 43, 3),
  none, none, some (.iload 3, 1), some (.iconst 2, 1), some (.if_icmp .gt 43, 3), none, none, some (.iconst 1, 1),
  some (.goto 44, 3), none, none, some (.iconst 0, 1), some (.istore 5, 2), none, some (.iload 5, 2), none,
  some (.ifCond .eq 63, 3), none, none, some (.aload 0, 1), some (.getfield 710, 3), none, none, some (.getfield 257, 3),
  none, none, some (.iconst 10, 2), none, some (.if_icmp .lt 66, 3), none, none, some (.iconst (-2), 2),
  none, some (.ireturn, 1), some (.aload 0, 1), some (.getfield 710, 3), none, none, some (.iload 1, 1), some (.iload 2, 1),
  some (.iload 3, 1), some (.iload 4, 2), none, some (.invokevirtual 30, 3), none, none, some (.aload 0, 1), some (.getfield 710, 3),
  none, none, some (.getfield 257, 3), none, none, some (.ireturn, 1)]
def xg108 : List (Option (Instr × Nat)) := [some (.aload 0, 1), some (.invokevirtual 117, 3), none, none, some (.ifCond .eq 16, 3), none, none, some (.iload 1, 1),
  some (.ifCond .lt 16, 3), none, none, some (.iload 1, 1), some (.iconst 1, 1), some (.if_icmp .le 19, 3), none, none,
  some (.iconst (-3), 2), none, some (.ireturn, 1), some (.aload 0, 1), some (.getfield 712, 3), none, none, some (.aload 0, 1),
  some (.invokevirtual 124, 3), none, none, some (.aload 0, 1), some (.getfield 710, 3), none, none, some (.invokevirtual 73, 3),
  none, none, some (.istore 2, 1), some (.iload 1, 1), some (.ifCond .ne 44, 3), none, none, some (.iload 2, 1),
  some (.invokestatic 245, 3), none, none, some (.ireturn, 1), some (.iload 2, 1), some (.ifCond .ne 53, 3), none, none,
  some (.iconst (-2), 2), none, some (.goto 60, 3), none, none, some (.aload 0, 1), some (.getfield 712, 3), none,
  none, some (.getfield 579, 3), none, none, some (.ireturn, 1)]
def xg109 : List (Option (Instr × Nat)) := [some (.aload 0, 1), some (.invokevirtual 117, 3), none, none, some (.ifCond .eq 23, 3), none, none, some (.iload 1, 1),
  some (.invokestatic 122, 3), none, none, some (.ifCond .eq 23, 3), none, none, some (.iload 2, 1), some (.ifCond .lt 23, 3),
  none, none, some (.iload 2, 1), some (.iconst 1, 1), some (.if_icmp .le 25, 3), none, none, some (.iconst (-1), 1),
  some (.ireturn, 1), some (.aload 0, 1), some (.invokevirtual 124, 3), none, none, some (.astore 3, 1), some (.aload 0, 1), some (.getfield 712, 3),
  none, none, some (.aload 3, 1), some (.aload 0, 1), some (.getfield 710, 3), none, none, some (.invokevirtual 73, 3),
  none, none, some (.istore 4, 2), none, some (.iload 4, 2), none, some (.ifCond .ne 52, 3), none,
  none, some (.iconst (-2), 2), none, some (.ireturn, 1), some (.aload 0, 1), some (.getfield 712, 3), none, none,
  some (.aload 3, 1), some (.iload 4, 2), none, some (.iload 1, 1), some (.invokevirtual 75, 3), none, none, some (.istore 5, 2),
  none, some (.iload 2, 1), some (.ifCond .ne 79, 3), none, none, some (.aload 0, 1), some (.getfield 712, 3), none,
  none, some (.getfield 579, 3), none, none, some (.goto 81, 3), none, none, some (.iload 5, 2),
  none, some (.ireturn, 1)]
def xg110 : List (Option (Instr × Nat)) := [some (.aload 0, 1), some (.iload 1, 1), some (.invokevirtual 120, 3), none, none, some (.ifCond .eq 34, 3), none, none,
  some (.iload 2, 1), some (.iconst 1, 1), some (.if_icmp .lt 34, 3), none, none, some (.iload 2, 1), some (.iconst 30, 2), none,
  some (.if_icmp .gt 34, 3), none, none, some (.iload 6, 2), none, some (.ifCond .lt 34, 3), none, none,
  some (.iload 6, 2), none, some (.iconst 1, 1), some (.if_icmp .gt 34, 3), none, none, some (.iconst 1, 1), some (.goto 35, 3),
  none, none, some (.iconst 0, 1), some (.istore 7, 2), none, some (.iload 7, 2), none, some (.ifCond .eq 65, 3),
  none, none, some (.iload 3, 1), some (.invokestatic 123, 3), none, none, some (.ifCond .eq 65, 3), none,
  none, some (.iload 4, 2), none, some (.invokestatic 123, 3), none, none, some (.ifCond .eq 65, 3), none,
  none, some (.iload 5, 2), none, some (.invokestatic 123, 3), none, none, some (.ifCond .ne 68, 3), none,
  none, some (.iconst (-2), 2), none, some (.ireturn, 1), some (.aload 0, 1), some (.getfield 712, 3), none, none,
  some (.aload 0, 1), some (.getfield 714, 3), none, none, some (.getfield 136, 3), none, none, some (.aload 0, 1),
  some (.getfield 708, 3), none, none, some (.getfield 640, 3), none, none, some (.iconst 28, 2), none,
  some (.iload 1, 1), some (.iadd, 1), some (.iaload, 1), some (.iload 2, 1), some (.iload 3, 1), some (.iload 4, 2), none, some (.iload 5, 2),
  none, some (.invokevirtual 77, 3), none, none, some (.istore 8, 2), none, some (.iload 6, 2), none,
  some (.ifCond .ne 112, 3), none, none, some (.iload 8, 2), none, some (.goto 119, 3), none, none,
  some (.aload 0, 1), some (.getfield 712, 3), none, none, some (.getfield 579, 3), none, none, some (.ireturn, 1)]
def xg111 : List (Option (Instr × Nat)) := [some (.aload 0, 1), some (.invokevirtual 117, 3), none, none, some (.ifCond .eq 33, 3), none, none, some (.iload 1, 1),
  some (.ifCond .lt 33, 3), none, none, some (.iload 1, 1), some (.iconst 9, 2), none, some (.if_icmp .gt 33, 3), none,
  none, some (.iload 2, 1), some (.invokestatic 121, 3), none, none, some (.ifCond .eq 33, 3), none, none,
  some (.iload 3, 1), some (.ifCond .lt 33, 3), none, none, some (.iload 3, 1), some (.iconst 1, 1), some (.if_icmp .le 36, 3), none,
  none, some (.iconst (-100000), 2), none, some (.ireturn, 1), some (.aload 0, 1), some (.getfield 712, 3), none, none,
  some (.aload 0, 1), some (.invokevirtual 124, 3), none, none, some (.aload 0, 1), some (.getfield 708, 3), none, none,
  some (.iload 1, 1), some (.iload 2, 1), some (.invokevirtual 71, 3), none, none, some (.istore 4, 2), none, some (.iload 3, 1),
  some (.ifCond .ne 64, 3), none, none, some (.iload 4, 2), none, some (.goto 71, 3), none, none,
  some (.aload 0, 1), some (.getfield 712, 3), none, none, some (.getfield 579, 3), none, none, some (.ireturn, 1)]
def xg112 : List (Option (Instr × Nat)) := [some (.iload 1, 1), some (.ifCond .ge 6, 3), none, none, some (.iconst (-1), 1), some (.ireturn, 1), some (.aload 0, 1), some (.getfield 718, 3),
  none, none, some (.istore 2, 1), some (.aload 0, 1), some (.iload 1, 1), some (.putfield 718, 3), none, none,
  some (.iload 2, 1), some (.ireturn, 1)]
def xg113 : List (Option (Instr × Nat)) := [some (.iload 1, 1), some (.iconst 1, 1), some (.if_icmp .lt 26, 3), none, none, some (.iload 1, 1), some (.iconst 10, 2), none,
  some (.if_icmp .gt 26, 3), none, none, some (.iload 2, 1), some (.iconst 1, 1), some (.if_icmp .lt 26, 3), none, none,
  some (.iload 2, 1), some (.iconst 72, 2), none, some (.if_icmp .gt 26, 3), none, none, some (.iconst 1, 1), some (.goto 27, 3),
  none, none, some (.iconst 0, 1), some (.istore 5, 2), none, some (.aload 0, 1), some (.invokevirtual 117, 3), none,
  none, some (.ifCond .eq 62, 3), none, none, some (.iload 5, 2), none, some (.ifCond .eq 62, 3), none,
  none, some (.iload 3, 1), some (.ifCond .lt 62, 3), none, none, some (.iload 3, 1), some (.iconst 100, 2), none,
  some (.if_icmp .gt 62, 3), none, none, some (.iload 4, 2), none, some (.ifCond .lt 62, 3), none, none,
  some (.iload 4, 2), none, some (.iconst 1, 1), some (.if_icmp .le 64, 3), none, none, some (.iconst (-1), 1), some (.ireturn, 1),
  some (.aload 0, 1), some (.invokevirtual 124, 3), none, none, some (.astore 6, 2), none, some (.aload 0, 1), some (.getfield 712, 3),
  none, none, some (.aload 0, 1), some (.getfield 718, 3), none, none, some (.putfield 580, 3), none,
  none, some (.iconst 0, 1), some (.istore 7, 2), none, some (.iconst 0, 1), some (.istore 8, 2), none, some (.iload 8, 2),
  none, some (.iload 1, 1), some (.if_icmp .ge 119, 3), none, none, some (.iload 7, 2), none, some (.aload 0, 1),
  some (.getfield 712, 3), none, none, some (.aload 6, 2), none, some (.aload 0, 1), some (.getfield 708, 3), none,
  none, some (.iload 2, 1), some (.iload 3, 1), some (.invokevirtual 72, 3), none, none, some (.iadd, 1), some (.istore 7, 2),
  none, some (.iinc 8 1, 3), none, none, some (.goto 87, 3), none, none, some (.iload 4, 2),
  none, some (.ifCond .ne 129, 3), none, none, some (.iload 7, 2), none, some (.goto 134, 3), none,
  none, some (.aload 6, 2), none, some (.getfield 5, 3), none, none, some (.ireturn, 1)]
def xg114 : List (Option (Instr × Nat)) := [some (.iload 1, 1), some (.tableswitch 230 0 15 #[80, 88, 107, 115, 123, 131, 136, 141, 152, 163, 171, 182, 190, 198, 203, 211], 79), none, none, none, none, none, none,
  none, none, none, none, none, none, none, none,
  none, none, none, none, none, none, none, none,
  none, none, none, none, none, none, none, none,
  none, none, none, none, none, none, none, none,
  none, none, none, none, none, none, none, none,
  none, none, none, none, none, none, none, none,
  none, none, none, none, none, none, none, none,
  none, none, none, none, none, none, none, none,
  none, none, none, none, none, none, none, none,
  some (.aload 0, 1), some (.getfield 714, 3), none, none, some (.getfield 134, 3), none, none, some (.ireturn, 1),
  some (.aload 0, 1), some (.invokevirtual 117, 3), none, none, some (.ifCond .eq 105, 3), none, none, some (.aload 0, 1),
  some (.getfield 714, 3), none, none, some (.getfield 135, 3), none, none, some (.goto 106, 3), none,
  none, some (.iconst (-1), 1), some (.ireturn, 1), some (.aload 0, 1), some (.getfield 714, 3), none, none, some (.getfield 138, 3),
  none, none, some (.ireturn, 1), some (.aload 0, 1), some (.getfield 714, 3), none, none, some (.getfield 139, 3),
  none, none, some (.ireturn, 1), some (.aload 0, 1), some (.getfield 714, 3), none, none, some (.getfield 140, 3),
  none, none, some (.ireturn, 1), some (.aload 0, 1), some (.getfield 716, 3), none, none, some (.ireturn, 1),
  some (.aload 0, 1), some (.getfield 717, 3), none, none, some (.ireturn, 1), some (.aload 0, 1), some (.getfield 708, 3), none,
  none, some (.getfield 640, 3), none, none, some (.iconst 30, 2), none, some (.iaload, 1), some (.ireturn, 1),
  some (.aload 0, 1), some (.getfield 708, 3), none, none, some (.getfield 640, 3), none, none, some (.iconst 31, 2),
  none, some (.iaload, 1), some (.ireturn, 1), some (.aload 0, 1), some (.getfield 708, 3), none, none, some (.invokevirtual 85, 3),
  none, none, some (.ireturn, 1), some (.aload 0, 1), some (.getfield 708, 3), none, none, some (.getfield 640, 3),
  none, none, some (.iconst 32, 2), none, some (.iaload, 1), some (.ireturn, 1), some (.aload 0, 1), some (.getfield 710, 3),
  none, none, some (.getfield 257, 3), none, none, some (.ireturn, 1), some (.aload 0, 1), some (.getfield 709, 3),
  none, none, some (.getfield 194, 3), none, none, some (.ireturn, 1), some (.aload 0, 1), some (.getfield 718, 3),
  none, none, some (.ireturn, 1), some (.aload 0, 1), some (.getfield 704, 3), none, none, some (.getfield 513, 3),
  none, none, some (.ireturn, 1), some (.aload 0, 1), some (.invokevirtual 117, 3), none, none, some (.ifCond .eq 228, 3),
  none, none, some (.aload 0, 1), some (.getfield 714, 3), none, none, some (.getfield 136, 3), none,
  none, some (.goto 229, 3), none, none, some (.iconst (-1), 1), some (.ireturn, 1), some (.iconst (-1), 1), some (.ireturn, 1)]
def xg115 : List (Option (Instr × Nat)) := [some (.iload 1, 1), some (.ifCond .lt 9, 3), none, none, some (.iload 1, 1), some (.iconst 4, 1), some (.if_icmp .lt 11, 3), none,
  none, some (.iconst (-1), 1), some (.ireturn, 1), some (.aload 0, 1), some (.getfield 707, 3), none, none, some (.iload 1, 1),
  some (.aaload, 1), some (.astore 2, 1), some (.aload 2, 1), some (.ifnonnull 37, 3), none, none, some (.new 1, 3), none,
  none, some (.dup, 1), some (.invokespecial 8, 3), none, none, some (.astore 2, 1), some (.aload 0, 1), some (.getfield 707, 3),
  none, none, some (.iload 1, 1), some (.aload 2, 1), some (.aastore, 1), some (.aload 2, 1), some (.getfield 64, 3), none,
  none, some (.aload 0, 1), some (.getfield 714, 3), none, none, some (.invokevirtual 10, 3), none, none,
  some (.aload 2, 1), some (.getfield 65, 3), none, none, some (.aload 0, 1), some (.getfield 708, 3), none, none,
  some (.invokevirtual 80, 3), none, none, some (.aload 2, 1), some (.getfield 66, 3), none, none, some (.aload 0, 1),
  some (.getfield 710, 3), none, none, some (.invokevirtual 31, 3), none, none, some (.aload 2, 1), some (.aload 0, 1),
  some (.getfield 717, 3), none, none, some (.putfield 67, 3), none, none, some (.aload 2, 1), some (.aload 0, 1),
  some (.getfield 718, 3), none, none, some (.putfield 68, 3), none, none, some (.aload 0, 1), some (.getfield 708, 3),
  none, none, some (.getfield 640, 3), none, none, some (.iconst 31, 2), none, some (.iaload, 1),
  some (.ireturn, 1)]
def xg116 : List (Option (Instr × Nat)) := [some (.iload 1, 1), some (.ifCond .lt 9, 3), none, none, some (.iload 1, 1), some (.iconst 4, 1), some (.if_icmp .lt 11, 3), none,
  none, some (.iconst (-1), 1), some (.ireturn, 1), some (.aload 0, 1), some (.getfield 707, 3), none, none, some (.iload 1, 1),
  some (.aaload, 1), some (.astore 2, 1), some (.aload 2, 1), some (.ifnonnull 24, 3), none, none, some (.iconst (-1), 1), some (.ireturn, 1),
  some (.aload 0, 1), some (.getfield 714, 3), none, none, some (.aload 2, 1), some (.getfield 64, 3), none, none,
  some (.invokevirtual 10, 3), none, none, some (.aload 0, 1), some (.getfield 708, 3), none, none, some (.aload 2, 1),
  some (.getfield 65, 3), none, none, some (.invokevirtual 80, 3), none, none, some (.aload 0, 1), some (.getfield 710, 3),
  none, none, some (.aload 2, 1), some (.getfield 66, 3), none, none, some (.invokevirtual 31, 3), none,
  none, some (.aload 0, 1), some (.aload 2, 1), some (.getfield 67, 3), none, none, some (.putfield 717, 3), none,
  none, some (.aload 0, 1), some (.aload 2, 1), some (.getfield 68, 3), none, none, some (.putfield 718, 3), none,
  none, some (.aload 0, 1), some (.getfield 709, 3), none, none, some (.iconst 0, 1), some (.putfield 194, 3), none,
  none, some (.aload 0, 1), some (.getfield 708, 3), none, none, some (.getfield 640, 3), none, none,
  some (.iconst 31, 2), none, some (.iaload, 1), some (.ireturn, 1)]
def xg117 : List (Option (Instr × Nat)) := [some (.aload 0, 1), some (.getfield 714, 3), none, none, some (.getfield 134, 3), none, none, some (.ifCond .le 14, 3),
  none, none, some (.iconst 1, 1), some (.goto 15, 3), none, none, some (.iconst 0, 1), some (.ireturn, 1)]
def xg118 : List (Option (Instr × Nat)) := [some (.iload 1, 1), some (.ifCond .lt 19, 3), none, none, some (.iload 1, 1), some (.aload 0, 1), some (.getfield 714, 3), none,
  none, some (.getfield 138, 3), none, none, some (.if_icmp .ge 19, 3), none, none, some (.iconst 1, 1),
  some (.goto 20, 3), none, none, some (.iconst 0, 1), some (.ireturn, 1)]
def xg119 : List (Option (Instr × Nat)) := [some (.iload 1, 1), some (.ifCond .lt 19, 3), none, none, some (.iload 1, 1), some (.aload 0, 1), some (.getfield 714, 3), none,
  none, some (.getfield 134, 3), none, none, some (.if_icmp .ge 19, 3), none, none, some (.iconst 1, 1),
  some (.goto 20, 3), none, none, some (.iconst 0, 1), some (.ireturn, 1)]
def xg120 : List (Option (Instr × Nat)) := [some (.aload 0, 1), some (.invokevirtual 117, 3), none, none, some (.ifCond .eq 20, 3), none, none, some (.iload 1, 1),
  some (.ifCond .lt 20, 3), none, none, some (.iload 1, 1), some (.iconst 2, 1), some (.if_icmp .ge 20, 3), none, none,
  some (.iconst 1, 1), some (.goto 21, 3), none, none, some (.iconst 0, 1), some (.ireturn, 1)]
def xg121 : List (Option (Instr × Nat)) := [some (.iload 0, 1), some (.iconst 1, 1), some (.if_icmp .lt 15, 3), none, none, some (.iload 0, 1), some (.iconst 24, 2), none,
  some (.if_icmp .gt 15, 3), none, none, some (.iconst 1, 1), some (.goto 16, 3), none, none, some (.iconst 0, 1),
  some (.ireturn, 1)]
def xg122 : List (Option (Instr × Nat)) := [some (.iload 0, 1), some (.ifCond .lt 14, 3), none, none, some (.iload 0, 1), some (.iconst 47, 2), none, some (.if_icmp .gt 14, 3),
  none, none, some (.iconst 1, 1), some (.goto 15, 3), none, none, some (.iconst 0, 1), some (.ireturn, 1)]
def xg123 : List (Option (Instr × Nat)) := [some (.iload 0, 1), some (.ifCond .lt 14, 3), none, none, some (.iload 0, 1), some (.iconst 99, 2), none, some (.if_icmp .gt 14, 3),
  none, none, some (.iconst 1, 1), some (.goto 15, 3), none, none, some (.iconst 0, 1), some (.ireturn, 1)]
def xg124 : List (Option (Instr × Nat)) := [some (.aload 0, 1), some (.getfield 717, 3), none, none, some (.ifCond .lt 22, 3), none, none, some (.aload 0, 1),
  some (.getfield 717, 3), none, none, some (.aload 0, 1), some (.getfield 716, 3), none, none, some (.if_icmp .ge 22, 3),
  none, none, some (.iconst 1, 1), some (.goto 23, 3), none, none, some (.iconst 0, 1), some (.istore 1, 1),
  some (.aload 0, 1), some (.getfield 711, 3), none, none, some (.iload 1, 1), some (.ifCond .eq 44, 3), none, none,
  some (.aload 0, 1), some (.getfield 706, 3), none, none, some (.aload 0, 1), some (.getfield 717, 3), none, none,
  some (.aaload, 1), some (.goto 45, 3), none, none, some (.aconst_null, 1), some (.putfield 3, 3), none, none,
  some (.aload 0, 1), some (.getfield 711, 3), none, none, some (.iconst (-1), 1), some (.putfield 4, 3), none, none,
  some (.aload 0, 1), some (.getfield 711, 3), none, none, some (.iconst 0, 1), some (.putfield 5, 3), none, none,
  some (.aload 0, 1), some (.getfield 711, 3), none, none, some (.areturn, 1)]
def xg125 : List (Option (Instr × Nat)) := [some (.aload 0, 1), some (.invokespecial 9999, 3), none, none, some (.aload 0, 1), some (.iconst 400, 3), none, none,
  some (.newarray .byte, 2), none, some (.putfield 768, 3), none, none, some (.aload 0, 1), some (.iconst 2400, 3), none,
  none, some (.newarray .int, 2), none, some (.putfield 771, 3), none, none, some (.aload 0, 1), some (.iconst 7, 2),
  none, some (.newarray .int, 2), none, some (.putfield 772, 3), none, none, some (.aload 0, 1), some (.iconst 288, 3),
  none, none, some (.newarray .int, 2), none, some (.putfield 773, 3), none, none, some (.aload 0, 1),
  some (.iconst 6, 2), none, some (.newarray .int, 2), none, some (.putfield 774, 3), none, none, some (.aload 0, 1),
  some (.iconst 110, 2), none, some (.newarray .int, 2), none, some (.putfield 775, 3), none, none, some (.aload 0, 1),
  some (.iconst 400, 3), none, none, some (.newarray .int, 2), none, some (.putfield 783, 3), none, none,
  some (.aload 0, 1), some (.iconst 64, 2), none, some (.newarray .long, 2), none, some (.putfield 785, 3), none, none,
  some (.aload 0, 1), some (.iconst 15, 2), none, some (.newarray .long, 2), none, some (.putfield 787, 3), none, none,
  some (.aload 0, 1), some (.iconst 151, 3), none, none, some (.newarray .int, 2), none, some (.putfield 788, 3), none,
  none, some (.aload 0, 1), some (.iconst (-1), 1), some (.putfield 789, 3), none, none, some (.aload 0, 1), some (.iconst (-1), 1),
  some (.putfield 791, 3), none, none, some (.aload 0, 1), some (.iconst 1040, 3), none, none, some (.newarray .int, 2),
  none, some (.putfield 794, 3), none, none, some (.aload 0, 1), some (.iconst 52, 2), none, some (.newarray .int, 2),
  none, some (.putfield 796, 3), none, none, some (.aload 0, 1), some (.iconst 70, 2), none, some (.newarray .int, 2),
  none, some (.putfield 801, 3), none, none, some (.aload 0, 1), some (.iconst 31, 2), none, some (.newarray .int, 2),
  none, some (.putfield 802, 3), none, none, some (.aload 0, 1), some (.iconst 604, 3), none, none,
  some (.newarray .int, 2), none, some (.putfield 804, 3), none, none, some (.aload 0, 1), some (.iconst 4, 1), some (.newarray .int, 2),
  none, some (.putfield 805, 3), none, none, some (.aload 0, 1), some (.iconst 4, 1), some (.newarray .int, 2), none,
  some (.putfield 806, 3), none, none, some (.aload 0, 1), some (.iconst 4, 1), some (.newarray .boolean, 2), none, some (.putfield 807, 3),
  none, none, some (.return_, 1)]
def xg126 : List (Option (Instr × Nat)) := [some (.lload 0, 1), some (.lload 2, 1), some (.lcmp, 1), some (.ifCond .lt 17, 3), none, none, some (.lload 0, 1), some (.lload 4, 2),
  none, some (.lcmp, 1), some (.ifCond .gt 17, 3), none, none, some (.iconst 1, 1), some (.goto 18, 3), none,
  none, some (.iconst 0, 1), some (.ireturn, 1)]
def xg127 : List (Option (Instr × Nat)) := [some (.iconst 24, 2), none, some (.istore 2, 1), some (.iload 2, 1), some (.ifCond .lt 36, 3), none, none, some (.aload 0, 1),
  some (.getfield 768, 3), none, none, some (.aload 0, 1), some (.getfield 769, 3), none, none, some (.iload 1, 1),
  some (.iload 2, 1), some (.ishr, 1), some (.i2b, 1), some (.bastore, 1), some (.aload 0, 1), some (.dup, 1), some (.getfield 769, 3), none,
  none, some (.iconst 1, 1), some (.iadd, 1), some (.putfield 769, 3), none, none, some (.iinc 2 (-8), 3), none,
  none, some (.goto 3, 3), none, none, some (.return_, 1)]
def xg128 : List (Option (Instr × Nat)) := [some (.aload 0, 1), some (.getfield 769, 3), none, none, some (.iconst 20, 2), none, some (.iadd, 1), some (.iconst 400, 3),
  none, none, some (.if_icmp .le 15, 3), none, none, some (.iconst (-1), 1), some (.ireturn, 1), some (.aload 0, 1),
  some (.iload 1, 1), some (.invokevirtual 127, 3), none, none, some (.aload 0, 1), some (.iload 2, 1), some (.invokevirtual 127, 3), none,
  none, some (.aload 0, 1), some (.iload 3, 1), some (.invokevirtual 127, 3), none, none, some (.aload 0, 1), some (.iload 4, 2),
  none, some (.invokevirtual 127, 3), none, none, some (.aload 0, 1), some (.iload 5, 2), none, some (.invokevirtual 127, 3),
  none, none, some (.aload 0, 1), some (.getfield 769, 3), none, none, some (.ireturn, 1)]
def xg129 : List (Option (Instr × Nat)) := [some (.iload 1, 1), some (.ifCond .lt 12, 3), none, none, some (.iload 1, 1), some (.aload 0, 1), some (.getfield 769, 3), none,
  none, some (.if_icmp .le 14, 3), none, none, some (.iconst (-1), 1), some (.ireturn, 1), some (.aload 0, 1), some (.iload 1, 1),
  some (.putfield 769, 3), none, none, some (.iload 1, 1), some (.ireturn, 1)]
def xg130 : List (Option (Instr × Nat)) := [some (.aload 0, 1), some (.getfield 777, 3), none, none, some (.ifCond .ne 19, 3), none, none, some (.aload 0, 1),
  some (.iconst 1, 1), some (.iconst 8, 2), none, some (.iload 2, 1), some (.imul, 1), some (.iadd, 1), some (.iload 1, 1), some (.iadd, 1),
  some (.putfield 777, 3), none, none, some (.iconst 0, 1), some (.ireturn, 1)]
def xg131 : List (Option (Instr × Nat)) := [some (.aload 0, 1), some (.getfield 776, 3), none, none, some (.aload 0, 1), some (.getfield 769, 3), none, none,
  some (.if_icmp .ge 38, 3), none, none, some (.aload 0, 1), some (.getfield 768, 3), none, none, some (.aload 0, 1),
  some (.getfield 776, 3), none, none, some (.baload, 1), some (.iconst 32, 2), none, some (.if_icmp .ne 38, 3), none,
  none, some (.aload 0, 1), some (.dup, 1), some (.getfield 776, 3), none, none, some (.iconst 1, 1), some (.iadd, 1),
  some (.putfield 776, 3), none, none, some (.goto 0, 3), none, none, some (.aload 0, 1), some (.getfield 776, 3),
  none, none, some (.aload 0, 1), some (.getfield 769, 3), none, none, some (.if_icmp .ge 65, 3), none,
  none, some (.aload 0, 1), some (.getfield 768, 3), none, none, some (.aload 0, 1), some (.getfield 776, 3), none,
  none, some (.baload, 1), some (.iconst 255, 3), none, none, some (.iand, 1), some (.goto 66, 3), none,
  none, some (.iconst (-1), 1), some (.ireturn, 1)]
def xg132 : List (Option (Instr × Nat)) := [some (.iload 1, 1), some (.aload 0, 1), some (.getfield 769, 3), none, none, some (.if_icmp .ge 34, 3), none, none,
  some (.aload 0, 1), some (.getfield 768, 3), none, none, some (.iload 1, 1), some (.baload, 1), some (.iconst 48, 2), none,
  some (.if_icmp .lt 34, 3), none, none, some (.aload 0, 1), some (.getfield 768, 3), none, none, some (.iload 1, 1),
  some (.baload, 1), some (.iconst 57, 2), none, some (.if_icmp .gt 34, 3), none, none, some (.iconst 1, 1), some (.goto 35, 3),
  none, none, some (.iconst 0, 1), some (.ireturn, 1)]
def xg133 : List (Option (Instr × Nat)) := [some (.iload 1, 1), some (.aload 0, 1), some (.getfield 769, 3), none, none, some (.if_icmp .ge 34, 3), none, none,
  some (.aload 0, 1), some (.getfield 768, 3), none, none, some (.iload 1, 1), some (.baload, 1), some (.iconst 97, 2), none,
  some (.if_icmp .lt 34, 3), none, none, some (.aload 0, 1), some (.getfield 768, 3), none, none, some (.iload 1, 1),
  some (.baload, 1), some (.iconst 122, 2), none, some (.if_icmp .gt 34, 3), none, none, some (.iconst 1, 1), some (.goto 35, 3),
  none, none, some (.iconst 0, 1), some (.ireturn, 1)]
def xg134 : List (Option (Instr × Nat)) := [some (.aload 0, 1), some (.invokevirtual 131, 3), none, none, some (.pop, 1), some (.ldc2_w 0, 1), some (.lstore 3, 1), some (.iconst 0, 1),
  some (.istore 5, 2), none, some (.aload 0, 1), some (.aload 0, 1), some (.getfield 776, 3), none, none, some (.iload 5, 2),
  none, some (.iadd, 1), some (.invokevirtual 133, 3), none, none, some (.ifCond .eq 56, 3), none, none,
  some (.iload 5, 2), none, some (.iconst 8, 2), none, some (.if_icmp .ge 50, 3), none, none, some (.lload 3, 1),
  some (.iconst 8, 2), none, some (.lshl, 1), some (.aload 0, 1), some (.getfield 768, 3), none, none, some (.aload 0, 1),
  some (.getfield 776, 3), none, none, some (.iload 5, 2), none, some (.iadd, 1), some (.baload, 1), some (.i2l, 1),
  some (.lor, 1), some (.lstore 3, 1), some (.iinc 5 1, 3), none, none, some (.goto 10, 3), none, none,
  some (.iload 5, 2), none, some (.ifCond .le 78, 3), none, none, some (.iload 5, 2), none, some (.iconst 8, 2),
  none, some (.if_icmp .ge 78, 3), none, none, some (.lload 3, 1), some (.lload 1, 1), some (.lcmp, 1), some (.ifCond .ne 78, 3),
  none, none, some (.iconst 1, 1), some (.goto 79, 3), none, none, some (.iconst 0, 1), some (.ireturn, 1)]
def xg135 : List (Option (Instr × Nat)) := [some (.aload 0, 1), some (.aload 0, 1), some (.getfield 776, 3), none, none, some (.invokevirtual 133, 3), none, none,
  some (.ifCond .eq 24, 3), none, none, some (.aload 0, 1), some (.dup, 1), some (.getfield 776, 3), none, none,
  some (.iconst 1, 1), some (.iadd, 1), some (.putfield 776, 3), none, none, some (.goto 0, 3), none, none,
  some (.return_, 1)]
def xg136 : List (Option (Instr × Nat)) := [some (.aload 0, 1), some (.lload 1, 1), some (.invokevirtual 134, 3), none, none, some (.ifCond .ne 10, 3), none, none,
  some (.iconst 0, 1), some (.ireturn, 1), some (.aload 0, 1), some (.invokevirtual 135, 3), none, none, some (.iconst 1, 1), some (.ireturn, 1)]
def xg137 : List (Option (Instr × Nat)) := [some (.aload 0, 1), some (.invokevirtual 131, 3), none, none, some (.pop, 1), some (.aload 0, 1), some (.aload 0, 1), some (.getfield 776, 3),
  none, none, some (.invokevirtual 132, 3), none, none, some (.ifCond .ne 26, 3), none, none,
  some (.aload 0, 1), some (.iconst 0, 1), some (.aload 0, 1), some (.getfield 776, 3), none, none, some (.invokevirtual 130, 3), none,
  none, some (.ireturn, 1), some (.aload 0, 1), some (.getfield 776, 3), none, none, some (.istore 3, 1), some (.iconst 0, 1),
  some (.istore 4, 2), none, some (.aload 0, 1), some (.aload 0, 1), some (.getfield 776, 3), none, none, some (.invokevirtual 132, 3),
  none, none, some (.ifCond .eq 88, 3), none, none, some (.aload 0, 1), some (.getfield 776, 3), none,
  none, some (.iload 3, 1), some (.isub, 1), some (.iconst 5, 1), some (.if_icmp .ge 75, 3), none, none, some (.iconst 10, 2),
  none, some (.iload 4, 2), none, some (.imul, 1), some (.aload 0, 1), some (.getfield 768, 3), none, none,
  some (.aload 0, 1), some (.getfield 776, 3), none, none, some (.baload, 1), some (.iadd, 1), some (.iconst 48, 2), none,
  some (.isub, 1), some (.istore 4, 2), none, some (.aload 0, 1), some (.dup, 1), some (.getfield 776, 3), none, none,
  some (.iconst 1, 1), some (.iadd, 1), some (.putfield 776, 3), none, none, some (.goto 34, 3), none, none,
  some (.aload 0, 1), some (.iload 4, 2), none, some (.putfield 778, 3), none, none, some (.aload 0, 1), some (.getfield 776, 3),
  none, none, some (.iload 3, 1), some (.isub, 1), some (.iconst 5, 1), some (.if_icmp .gt 117, 3), none, none,
  some (.iload 4, 2), none, some (.i2l, 1), some (.iload 1, 1), some (.i2l, 1), some (.iload 2, 1), some (.i2l, 1), some (.invokestatic 126, 3),
  none, none, some (.ifCond .ne 126, 3), none, none, some (.aload 0, 1), some (.iconst 1, 1), some (.iload 3, 1),
  some (.invokevirtual 130, 3), none, none, some (.ifCond .eq 130, 3), none, none, some (.iconst 1, 1), some (.goto 131, 3),
  none, none, some (.iconst 0, 1), some (.ireturn, 1)]
def xg138 : List (Option (Instr × Nat)) := [some (.aload 0, 1), some (.ldc2_w 27710370737579378, 3), none, none, some (.invokevirtual 134, 3), none, none, some (.ifCond .eq 12, 3),
  none, none, some (.iconst 0, 1), some (.ireturn, 1), some (.aload 0, 1), some (.ldc2_w 482854658917, 3), none, none,
  some (.invokevirtual 134, 3), none, none, some (.ifCond .eq 24, 3), none, none, some (.iconst 1, 1), some (.ireturn, 1),
  some (.aload 0, 1), some (.ldc2_w 1752132965, 3), none, none, some (.invokevirtual 134, 3), none, none, some (.ifCond .eq 36, 3),
  none, none, some (.iconst 2, 1), some (.ireturn, 1), some (.aload 0, 1), some (.ldc2_w 1936292453, 3), none, none,
  some (.invokevirtual 134, 3), none, none, some (.ifCond .eq 48, 3), none, none, some (.iconst 3, 1), some (.ireturn, 1),
  some (.aload 0, 1), some (.ldc2_w 1752135026, 3), none, none, some (.invokevirtual 134, 3), none, none, some (.ifCond .eq 60, 3),
  none, none, some (.iconst 4, 1), some (.ireturn, 1), some (.aload 0, 1), some (.ldc2_w 6578553, 3), none, none,
  some (.invokevirtual 134, 3), none, none, some (.ifCond .eq 72, 3), none, none, some (.iconst 5, 1), some (.ireturn, 1),
  some (.aload 0, 1), some (.ldc2_w 1735352684, 3), none, none, some (.invokevirtual 134, 3), none, none, some (.ifCond .eq 85, 3),
  none, none, some (.iconst 6, 2), none, some (.ireturn, 1), some (.aload 0, 1), some (.ldc2_w 7364985, 3), none,
  none, some (.invokevirtual 134, 3), none, none, some (.ifCond .eq 98, 3), none, none, some (.iconst 7, 2),
  none, some (.ireturn, 1), some (.aload 0, 1), some (.ldc2_w 504364296556, 3), none, none, some (.invokevirtual 134, 3), none,
  none, some (.ifCond .eq 111, 3), none, none, some (.iconst 8, 2), none, some (.ireturn, 1), some (.aload 0, 1),
  some (.ldc2_w 7824756, 3), none, none, some (.invokevirtual 134, 3), none, none, some (.ifCond .eq 124, 3), none,
  none, some (.iconst 9, 2), none, some (.ireturn, 1), some (.aload 0, 1), some (.ldc2_w 440006570868, 3), none, none,
  some (.invokevirtual 134, 3), none, none, some (.ifCond .eq 137, 3), none, none, some (.iconst 10, 2), none,
  some (.ireturn, 1), some (.aload 0, 1), some (.ldc2_w 422776370291, 3), none, none, some (.invokevirtual 134, 3), none, none,
  some (.ifCond .eq 150, 3), none, none, some (.iconst 11, 2), none, some (.ireturn, 1), some (.aload 0, 1), some (.ldc2_w 426953501804, 3),
  none, none, some (.invokevirtual 134, 3), none, none, some (.ifCond .eq 163, 3), none, none,
  some (.iconst 12, 2), none, some (.ireturn, 1), some (.aload 0, 1), some (.ldc2_w 122545758368371, 3), none, none, some (.invokevirtual 134, 3),
  none, none, some (.ifCond .eq 178, 3), none, none, some (.iconst 13, 2), none, some (.goto 194, 3),
  none, none, some (.aload 0, 1), some (.ldc2_w 465893420647, 3), none, none, some (.invokevirtual 134, 3), none,
  none, some (.ifCond .eq 193, 3), none, none, some (.iconst 14, 2), none, some (.goto 194, 3), none,
  none, some (.iconst (-1), 1), some (.ireturn, 1)]
def xg139 : List (Option (Instr × Nat)) := [some (.aload 0, 1), some (.getfield 771, 3), none, none, some (.iconst 400, 3), none, none, some (.aload 0, 1),
  some (.getfield 779, 3), none, none, some (.imul, 1), some (.aload 0, 1), some (.getfield 772, 3), none, none,
  some (.aload 0, 1), some (.getfield 779, 3), none, none, some (.iaload, 1), some (.iadd, 1), some (.iload 1, 1), some (.iconst 16, 2),
  none, some (.iload 2, 1), some (.imul, 1), some (.iadd, 1), some (.iastore, 1), some (.aload 0, 1), some (.getfield 772, 3), none,
  none, some (.aload 0, 1), some (.getfield 779, 3), none, none, some (.dup2, 1), some (.iaload, 1), some (.iconst 1, 1),
  some (.iadd, 1), some (.iastore, 1), some (.return_, 1)]
def xg140 : List (Option (Instr × Nat)) := [some (.aload 0, 1), some (.getfield 780, 3), none, none, some (.iconst 60, 2), none, some (.if_icmp .ne 16, 3), none,
  none, some (.aload 0, 1), some (.iconst 3, 1), some (.iload 1, 1), some (.invokevirtual 130, 3), none, none, some (.ireturn, 1),
  some (.aload 0, 1), some (.dup, 1), some (.getfield 780, 3), none, none, some (.iconst 1, 1), some (.iadd, 1), some (.putfield 780, 3),
  none, none, some (.iconst 1, 1), some (.ireturn, 1)]
def xg141 : List (Option (Instr × Nat)) := [some (.aload 0, 1), some (.getfield 781, 3), none, none, some (.iconst 10, 2), none, some (.if_icmp .ne 19, 3), none,
  none, some (.aload 0, 1), some (.iconst 2, 1), some (.aload 0, 1), some (.getfield 776, 3), none, none, some (.invokevirtual 130, 3),
  none, none, some (.ireturn, 1), some (.aload 0, 1), some (.dup, 1), some (.getfield 781, 3), none, none,
  some (.iconst 1, 1), some (.iadd, 1), some (.putfield 781, 3), none, none, some (.aload 0, 1), some (.getfield 783, 3), none,
  none, some (.aload 0, 1), some (.getfield 784, 3), none, none, some (.iload 1, 1), some (.iastore, 1), some (.aload 0, 1),
  some (.dup, 1), some (.getfield 784, 3), none, none, some (.iconst 1, 1), some (.iadd, 1), some (.putfield 784, 3), none,
  none, some (.iconst 1, 1), some (.ireturn, 1)]
def xg142 : List (Option (Instr × Nat)) := [some (.iload 0, 1), some (.iconst 13, 2), none, some (.if_icmp .ne 10, 3), none, none, some (.iconst 1, 1), some (.goto 31, 3),
  none, none, some (.iload 0, 1), some (.iconst 12, 2), none, some (.if_icmp .ne 20, 3), none, none,
  some (.iconst 2, 1), some (.goto 31, 3), none, none, some (.iload 0, 1), some (.iconst 11, 2), none, some (.if_icmp .ne 30, 3),
  none, none, some (.iconst 3, 1), some (.goto 31, 3), none, none, some (.iconst 0, 1), some (.ireturn, 1)]
def xg143 : List (Option (Instr × Nat)) := [some (.aload 0, 1), some (.getfield 784, 3), none, none, some (.ifCond .le 76, 3), none, none, some (.aload 0, 1),
  some (.getfield 783, 3), none, none, some (.aload 0, 1), some (.getfield 784, 3), none, none, some (.iconst 1, 1),
  some (.isub, 1), some (.iaload, 1), some (.invokestatic 142, 3), none, none, some (.iload 1, 1), some (.if_icmp .lt 76, 3), none,
  none, some (.aload 0, 1), some (.dup, 1), some (.getfield 784, 3), none, none, some (.iconst 1, 1), some (.isub, 1),
  some (.putfield 784, 3), none, none, some (.aload 0, 1), some (.aload 0, 1), some (.getfield 783, 3), none, none,
  some (.aload 0, 1), some (.getfield 784, 3), none, none, some (.iaload, 1), some (.iconst 0, 1), some (.invokevirtual 139, 3), none,
  none, some (.aload 0, 1), some (.getfield 783, 3), none, none, some (.aload 0, 1), some (.getfield 784, 3), none,
  none, some (.iaload, 1), some (.iconst 11, 2), none, some (.if_icmp .ne 0, 3), none, none, some (.aload 0, 1),
  some (.dup, 1), some (.getfield 781, 3), none, none, some (.iconst 1, 1), some (.isub, 1), some (.putfield 781, 3), none,
  none, some (.goto 0, 3), none, none, some (.return_, 1)]
def xg144 : List (Option (Instr × Nat)) := [some (.aload 0, 1), some (.invokevirtual 131, 3), none, none, some (.pop, 1), some (.aload 0, 1), some (.getfield 776, 3), none,
  none, some (.istore 1, 1), some (.aload 0, 1), some (.aload 0, 1), some (.getfield 776, 3), none, none, some (.invokevirtual 132, 3),
  none, none, some (.ifCond .eq 52, 3), none, none, some (.aload 0, 1), some (.iconst 0, 1), some (.iconst 99999, 2),
  none, some (.invokevirtual 137, 3), none, none, some (.ifCond .eq 39, 3), none, none, some (.aload 0, 1),
  some (.iload 1, 1), some (.invokevirtual 140, 3), none, none, some (.ifCond .ne 41, 3), none, none, some (.iconst 0, 1),
  some (.ireturn, 1), some (.aload 0, 1), some (.iconst 0, 1), some (.aload 0, 1), some (.getfield 778, 3), none, none, some (.invokevirtual 139, 3),
  none, none, some (.iconst 1, 1), some (.ireturn, 1), some (.aload 0, 1), some (.invokevirtual 138, 3), none, none,
  some (.istore 2, 1), some (.iload 2, 1), some (.ifCond .ge 68, 3), none, none, some (.aload 0, 1), some (.iconst 0, 1), some (.iload 1, 1),
  some (.invokevirtual 130, 3), none, none, some (.ireturn, 1), some (.aload 0, 1), some (.iload 1, 1), some (.invokevirtual 140, 3), none,
  none, some (.ifCond .ne 78, 3), none, none, some (.iconst 0, 1), some (.ireturn, 1), some (.aload 0, 1), some (.invokevirtual 135, 3),
  none, none, some (.aload 0, 1), some (.iconst 1, 1), some (.iload 2, 1), some (.invokevirtual 139, 3), none, none,
  some (.iconst 1, 1), some (.ireturn, 1)]
def xg145 : List (Option (Instr × Nat)) := [some (.aload 0, 1), some (.invokevirtual 144, 3), none, none, some (.ifCond .ne 9, 3), none, none, some (.iconst 0, 1),
  some (.ireturn, 1), some (.aload 0, 1), some (.invokevirtual 131, 3), none, none, some (.iconst 42, 2), none, some (.if_icmp .eq 36, 3),
  none, none, some (.aload 0, 1), some (.invokevirtual 131, 3), none, none, some (.iconst 47, 2), none,
  some (.if_icmp .eq 36, 3), none, none, some (.aload 0, 1), some (.invokevirtual 131, 3), none, none, some (.iconst 37, 2),
  none, some (.if_icmp .ne 103, 3), none, none, some (.aload 0, 1), some (.getfield 768, 3), none, none,
  some (.aload 0, 1), some (.getfield 776, 3), none, none, some (.baload, 1), some (.iconst 42, 2), none, some (.if_icmp .ne 54, 3),
  none, none, some (.iconst 4, 1), some (.goto 74, 3), none, none, some (.aload 0, 1), some (.getfield 768, 3),
  none, none, some (.aload 0, 1), some (.getfield 776, 3), none, none, some (.baload, 1), some (.iconst 47, 2),
  none, some (.if_icmp .ne 72, 3), none, none, some (.iconst 5, 1), some (.goto 74, 3), none, none,
  some (.iconst 14, 2), none, some (.istore 1, 1), some (.aload 0, 1), some (.dup, 1), some (.getfield 776, 3), none, none,
  some (.iconst 1, 1), some (.iadd, 1), some (.putfield 776, 3), none, none, some (.aload 0, 1), some (.invokevirtual 144, 3), none,
  none, some (.ifCond .ne 94, 3), none, none, some (.iconst 0, 1), some (.ireturn, 1), some (.aload 0, 1), some (.iload 1, 1),
  some (.iconst 0, 1), some (.invokevirtual 139, 3), none, none, some (.goto 9, 3), none, none, some (.iconst 1, 1),
  some (.ireturn, 1)]
def xg146 : List (Option (Instr × Nat)) := [some (.aload 0, 1), some (.invokevirtual 145, 3), none, none, some (.ifCond .ne 9, 3), none, none, some (.iconst 0, 1),
  some (.ireturn, 1), some (.aload 0, 1), some (.invokevirtual 131, 3), none, none, some (.iconst 43, 2), none, some (.if_icmp .eq 27, 3),
  none, none, some (.aload 0, 1), some (.invokevirtual 131, 3), none, none, some (.iconst 45, 2), none,
  some (.if_icmp .ne 75, 3), none, none, some (.aload 0, 1), some (.getfield 768, 3), none, none, some (.aload 0, 1),
  some (.getfield 776, 3), none, none, some (.baload, 1), some (.iconst 43, 2), none, some (.if_icmp .ne 45, 3), none,
  none, some (.iconst 2, 1), some (.goto 46, 3), none, none, some (.iconst 3, 1), some (.istore 1, 1), some (.aload 0, 1),
  some (.dup, 1), some (.getfield 776, 3), none, none, some (.iconst 1, 1), some (.iadd, 1), some (.putfield 776, 3), none,
  none, some (.aload 0, 1), some (.invokevirtual 145, 3), none, none, some (.ifCond .ne 66, 3), none, none,
  some (.iconst 0, 1), some (.ireturn, 1), some (.aload 0, 1), some (.iload 1, 1), some (.iconst 0, 1), some (.invokevirtual 139, 3), none, none,
  some (.goto 9, 3), none, none, some (.iconst 1, 1), some (.ireturn, 1)]
def xg147 : List (Option (Instr × Nat)) := [some (.aload 0, 1), some (.invokevirtual 146, 3), none, none, some (.ifCond .ne 9, 3), none, none, some (.iconst 0, 1),
  some (.ireturn, 1), some (.aload 0, 1), some (.invokevirtual 131, 3), none, none, some (.istore 1, 1), some (.aload 0, 1), some (.getfield 776, 3),
  none, none, some (.istore 2, 1), some (.iload 1, 1), some (.iconst 60, 2), none, some (.if_icmp .eq 44, 3), none,
  none, some (.iload 1, 1), some (.iconst 61, 2), none, some (.if_icmp .eq 44, 3), none, none, some (.iload 1, 1),
  some (.iconst 62, 2), none, some (.if_icmp .eq 44, 3), none, none, some (.aload 0, 1), some (.iconst 0, 1), some (.iload 2, 1),
  some (.invokevirtual 130, 3), none, none, some (.ireturn, 1), some (.aload 0, 1), some (.dup, 1), some (.getfield 776, 3), none,
  none, some (.iconst 1, 1), some (.iadd, 1), some (.putfield 776, 3), none, none, some (.iload 1, 1), some (.iconst 61, 2),
  none, some (.if_icmp .eq 89, 3), none, none, some (.aload 0, 1), some (.getfield 776, 3), none, none,
  some (.aload 0, 1), some (.getfield 769, 3), none, none, some (.if_icmp .ge 89, 3), none, none, some (.aload 0, 1),
  some (.getfield 768, 3), none, none, some (.aload 0, 1), some (.getfield 776, 3), none, none, some (.baload, 1),
  some (.iconst 61, 2), none, some (.if_icmp .ne 89, 3), none, none, some (.iconst 1, 1), some (.goto 90, 3), none,
  none, some (.iconst 0, 1), some (.istore 3, 1), some (.iload 3, 1), some (.ifCond .eq 105, 3), none, none, some (.aload 0, 1),
  some (.dup, 1), some (.getfield 776, 3), none, none, some (.iconst 1, 1), some (.iadd, 1), some (.putfield 776, 3), none,
  none, some (.aload 0, 1), some (.iload 2, 1), some (.invokevirtual 140, 3), none, none, some (.ifCond .ne 115, 3), none,
  none, some (.iconst 0, 1), some (.ireturn, 1), some (.iload 1, 1), some (.iconst 60, 2), none, some (.if_icmp .ne 133, 3), none,
  none, some (.iload 3, 1), some (.ifCond .eq 129, 3), none, none, some (.iconst 1, 1), some (.goto 152, 3), none,
  none, some (.iconst 0, 1), some (.goto 152, 3), none, none, some (.iload 1, 1), some (.iconst 61, 2), none,
  some (.if_icmp .ne 143, 3), none, none, some (.iconst 2, 1), some (.goto 152, 3), none, none, some (.iload 3, 1),
  some (.ifCond .eq 151, 3), none, none, some (.iconst 3, 1), some (.goto 152, 3), none, none, some (.iconst 4, 1),
  some (.istore 4, 2), none, some (.aload 0, 1), some (.invokevirtual 146, 3), none, none, some (.ifCond .ne 163, 3), none,
  none, some (.iconst 0, 1), some (.ireturn, 1), some (.aload 0, 1), some (.iconst 6, 2), none, some (.iload 4, 2), none,
  some (.iadd, 1), some (.iconst 0, 1), some (.invokevirtual 139, 3), none, none, some (.iconst 1, 1), some (.ireturn, 1)]
def xg148 : List (Option (Instr × Nat)) := [some (.iconst 1, 1), some (.istore 1, 1), some (.iload 1, 1), some (.ifCond .eq 75, 3), none, none, some (.iconst 0, 1), some (.istore 1, 1),
  some (.aload 0, 1), some (.invokevirtual 131, 3), none, none, some (.istore 2, 1), some (.aload 0, 1), some (.ldc2_w 7237492, 3), none,
  none, some (.invokevirtual 134, 3), none, none, some (.ifCond .eq 43, 3), none, none, some (.aload 0, 1),
  some (.iconst 11, 2), none, some (.invokevirtual 141, 3), none, none, some (.ifCond .ne 34, 3), none, none,
  some (.iconst 0, 1), some (.ireturn, 1), some (.aload 0, 1), some (.invokevirtual 135, 3), none, none, some (.iconst 1, 1), some (.istore 1, 1),
  some (.goto 72, 3), none, none, some (.iload 2, 1), some (.iconst 91, 2), none, some (.if_icmp .ne 72, 3), none,
  none, some (.aload 0, 1), some (.iconst 91, 2), none, some (.invokevirtual 141, 3), none, none, some (.ifCond .ne 60, 3),
  none, none, some (.iconst 0, 1), some (.ireturn, 1), some (.aload 0, 1), some (.dup, 1), some (.getfield 776, 3), none,
  none, some (.iconst 1, 1), some (.iadd, 1), some (.putfield 776, 3), none, none, some (.iconst 1, 1), some (.istore 1, 1),
  some (.goto 2, 3), none, none, some (.aload 0, 1), some (.invokevirtual 147, 3), none, none, some (.ireturn, 1)]
def xg149 : List (Option (Instr × Nat)) := [some (.iconst 0, 1), some (.istore 1, 1), some (.iload 1, 1), some (.aload 0, 1), some (.getfield 784, 3), none, none, some (.if_icmp .ge 29, 3),
  none, none, some (.aload 0, 1), some (.getfield 783, 3), none, none, some (.iload 1, 1), some (.iaload, 1),
  some (.iconst 91, 2), none, some (.if_icmp .ne 23, 3), none, none, some (.iconst 1, 1), some (.ireturn, 1), some (.iinc 1 1, 3),
  none, none, some (.goto 2, 3), none, none, some (.iconst 0, 1), some (.ireturn, 1)]
def xg150 : List (Option (Instr × Nat)) := [some (.aload 0, 1), some (.iconst 3, 1), some (.invokevirtual 143, 3), none, none, some (.aload 0, 1), some (.invokevirtual 131, 3), none,
  none, some (.iconst 93, 2), none, some (.if_icmp .ne 64, 3), none, none, some (.aload 0, 1), some (.invokevirtual 149, 3),
  none, none, some (.ifCond .eq 64, 3), none, none, some (.aload 0, 1), some (.iconst 1, 1), some (.invokevirtual 143, 3),
  none, none, some (.aload 0, 1), some (.dup, 1), some (.getfield 784, 3), none, none, some (.iconst 1, 1),
  some (.isub, 1), some (.putfield 784, 3), none, none, some (.aload 0, 1), some (.dup, 1), some (.getfield 781, 3), none,
  none, some (.iconst 1, 1), some (.isub, 1), some (.putfield 781, 3), none, none, some (.aload 0, 1), some (.dup, 1),
  some (.getfield 776, 3), none, none, some (.iconst 1, 1), some (.iadd, 1), some (.putfield 776, 3), none, none,
  some (.aload 0, 1), some (.iconst 3, 1), some (.invokevirtual 143, 3), none, none, some (.goto 5, 3), none, none,
  some (.return_, 1)]
def xg151 : List (Option (Instr × Nat)) := [some (.aload 0, 1), some (.iconst 0, 1), some (.putfield 784, 3), none, none, some (.aload 0, 1), some (.iconst 0, 1), some (.putfield 781, 3),
  none, none, some (.iconst 1, 1), some (.istore 1, 1), some (.iload 1, 1), some (.ifCond .eq 112, 3), none, none,
  some (.aload 0, 1), some (.invokevirtual 148, 3), none, none, some (.ifCond .ne 25, 3), none, none, some (.iconst 0, 1),
  some (.ireturn, 1), some (.aload 0, 1), some (.invokevirtual 150, 3), none, none, some (.aload 0, 1), some (.ldc2_w 6385252, 3), none,
  none, some (.invokevirtual 134, 3), none, none, some (.ifCond .ne 49, 3), none, none, some (.aload 0, 1),
  some (.ldc2_w 28530, 3), none, none, some (.invokevirtual 134, 3), none, none, some (.ifCond .eq 53, 3), none,
  none, some (.iconst 1, 1), some (.goto 54, 3), none, none, some (.iconst 0, 1), some (.istore 1, 1), some (.iload 1, 1),
  some (.ifCond .eq 12, 3), none, none, some (.aload 0, 1), some (.ldc2_w 6385252, 3), none, none, some (.invokevirtual 134, 3),
  none, none, some (.ifCond .eq 74, 3), none, none, some (.iconst 12, 2), none, some (.goto 76, 3),
  none, none, some (.iconst 13, 2), none, some (.istore 2, 1), some (.aload 0, 1), some (.invokevirtual 135, 3), none,
  none, some (.aload 0, 1), some (.iload 2, 1), some (.invokestatic 142, 3), none, none, some (.invokevirtual 143, 3), none,
  none, some (.aload 0, 1), some (.getfield 783, 3), none, none, some (.aload 0, 1), some (.getfield 784, 3), none,
  none, some (.iload 2, 1), some (.iastore, 1), some (.aload 0, 1), some (.dup, 1), some (.getfield 784, 3), none, none,
  some (.iconst 1, 1), some (.iadd, 1), some (.putfield 784, 3), none, none, some (.goto 12, 3), none, none,
  some (.aload 0, 1), some (.invokevirtual 149, 3), none, none, some (.ifCond .eq 134, 3), none, none, some (.aload 0, 1),
  some (.invokevirtual 131, 3), none, none, some (.pop, 1), some (.aload 0, 1), some (.iconst 0, 1), some (.aload 0, 1), some (.getfield 776, 3),
  none, none, some (.invokevirtual 130, 3), none, none, some (.ireturn, 1), some (.aload 0, 1), some (.iconst 1, 1),
  some (.invokevirtual 143, 3), none, none, some (.iconst 1, 1), some (.ireturn, 1)]
def xg152 : List (Option (Instr × Nat)) := [some (.aload 0, 1), some (.invokevirtual 135, 3), none, none, some (.iconst 48, 2), none, some (.aload 0, 1), some (.getfield 779, 3),
  none, none, some (.imul, 1), some (.iconst 4, 1), some (.aload 0, 1), some (.getfield 774, 3), none, none,
  some (.aload 0, 1), some (.getfield 779, 3), none, none, some (.iaload, 1), some (.imul, 1), some (.iadd, 1), some (.istore 1, 1),
  some (.aload 0, 1), some (.getfield 773, 3), none, none, some (.iload 1, 1), some (.aload 0, 1), some (.getfield 772, 3), none,
  none, some (.aload 0, 1), some (.getfield 779, 3), none, none, some (.iaload, 1), some (.iastore, 1), some (.aload 0, 1),
  some (.invokevirtual 146, 3), none, none, some (.ifCond .ne 48, 3), none, none, some (.iconst 0, 1), some (.ireturn, 1),
  some (.aload 0, 1), some (.getfield 773, 3), none, none, some (.iload 1, 1), some (.iconst 1, 1), some (.iadd, 1), some (.aload 0, 1),
  some (.getfield 772, 3), none, none, some (.aload 0, 1), some (.getfield 779, 3), none, none, some (.iaload, 1),
  some (.iastore, 1), some (.aload 0, 1), some (.getfield 773, 3), none, none, some (.iload 1, 1), some (.iconst 2, 1), some (.iadd, 1),
  some (.iconst (-1), 1), some (.iastore, 1), some (.aload 0, 1), some (.ldc2_w 26982, 3), none, none, some (.invokevirtual 136, 3), none,
  none, some (.ifCond .eq 110, 3), none, none, some (.aload 0, 1), some (.getfield 773, 3), none, none,
  some (.iload 1, 1), some (.iconst 2, 1), some (.iadd, 1), some (.aload 0, 1), some (.getfield 772, 3), none, none, some (.aload 0, 1),
  some (.getfield 779, 3), none, none, some (.iaload, 1), some (.iastore, 1), some (.aload 0, 1), some (.invokevirtual 151, 3), none,
  none, some (.ifCond .ne 110, 3), none, none, some (.iconst 0, 1), some (.ireturn, 1), some (.aload 0, 1), some (.getfield 773, 3),
  none, none, some (.iload 1, 1), some (.iconst 3, 1), some (.iadd, 1), some (.aload 0, 1), some (.getfield 772, 3), none,
  none, some (.aload 0, 1), some (.getfield 779, 3), none, none, some (.iaload, 1), some (.iastore, 1), some (.aload 0, 1),
  some (.getfield 774, 3), none, none, some (.aload 0, 1), some (.getfield 779, 3), none, none, some (.dup2, 1),
  some (.iaload, 1), some (.iconst 1, 1), some (.iadd, 1), some (.iastore, 1), some (.iconst 1, 1), some (.ireturn, 1)]
def xg153 : List (Option (Instr × Nat)) := [some (.aload 0, 1), some (.iload 2, 1), some (.iload 3, 1), some (.invokevirtual 137, 3), none, none, some (.ifCond .ne 11, 3), none,
  none, some (.iconst 0, 1), some (.ireturn, 1), some (.aload 0, 1), some (.getfield 775, 3), none, none, some (.iload 1, 1),
  some (.aload 0, 1), some (.getfield 778, 3), none, none, some (.iastore, 1), some (.iconst 1, 1), some (.ireturn, 1)]
def xg154 : List (Option (Instr × Nat)) := [some (.aload 0, 1), some (.getfield 775, 3), none, none, some (.iconst 0, 1), some (.iaload, 1), some (.ifCond .le 16, 3), none,
  none, some (.aload 0, 1), some (.iconst 4, 1), some (.iload 1, 1), some (.invokevirtual 130, 3), none, none, some (.ireturn, 1),
  some (.aload 0, 1), some (.invokevirtual 135, 3), none, none, some (.aload 0, 1), some (.iconst 0, 1), some (.iconst 2, 1), some (.iconst 10, 2),
  none, some (.invokevirtual 153, 3), none, none, some (.ifCond .eq 46, 3), none, none, some (.aload 0, 1),
  some (.iconst 1, 1), some (.iconst 0, 1), some (.iconst 9, 2), none, some (.invokevirtual 153, 3), none, none, some (.ifCond .eq 46, 3),
  none, none, some (.iconst 1, 1), some (.goto 47, 3), none, none, some (.iconst 0, 1), some (.ireturn, 1)]
def xg155 : List (Option (Instr × Nat)) := [some (.aload 0, 1), some (.getfield 775, 3), none, none, some (.iconst 2, 1), some (.iaload, 1), some (.iconst 6, 2), none,
  some (.if_icmp .ne 18, 3), none, none, some (.aload 0, 1), some (.iconst 4, 1), some (.iload 1, 1), some (.invokevirtual 130, 3), none,
  none, some (.ireturn, 1), some (.aload 0, 1), some (.invokevirtual 135, 3), none, none, some (.iconst 10, 2), none,
  some (.iconst 6, 2), none, some (.aload 0, 1), some (.getfield 775, 3), none, none, some (.iconst 2, 1), some (.iaload, 1),
  some (.imul, 1), some (.iadd, 1), some (.istore 2, 1), some (.aload 0, 1), some (.iload 2, 1), some (.iconst 0, 1), some (.aload 0, 1), some (.getfield 775, 3),
  none, none, some (.iconst 0, 1), some (.iaload, 1), some (.iconst 1, 1), some (.isub, 1), some (.invokevirtual 153, 3), none,
  none, some (.ifCond .eq 65, 3), none, none, some (.aload 0, 1), some (.iload 2, 1), some (.iconst 2, 1), some (.iadd, 1),
  some (.iconst 0, 1), some (.iconst 9, 2), none, some (.invokevirtual 153, 3), none, none, some (.ifCond .ne 67, 3), none,
  none, some (.iconst 0, 1), some (.ireturn, 1), some (.aload 0, 1), some (.getfield 775, 3), none, none, some (.iload 2, 1),
  some (.iconst 1, 1), some (.iadd, 1), some (.aload 0, 1), some (.getfield 775, 3), none, none, some (.iload 2, 1), some (.iaload, 1),
  some (.iastore, 1), some (.iconst 3, 1), some (.istore 3, 1), some (.iload 3, 1), some (.iconst 6, 2), none, some (.if_icmp .ge 104, 3), none,
  none, some (.aload 0, 1), some (.getfield 775, 3), none, none, some (.iload 2, 1), some (.iload 3, 1), some (.iadd, 1),
  some (.iconst 0, 1), some (.iastore, 1), some (.iinc 3 1, 3), none, none, some (.goto 83, 3), none, none,
  some (.aload 0, 1), some (.getfield 775, 3), none, none, some (.iconst 2, 1), some (.dup2, 1), some (.iaload, 1), some (.iconst 1, 1),
  some (.iadd, 1), some (.iastore, 1), some (.iconst 1, 1), some (.ireturn, 1)]
def xg156 : List (Option (Instr × Nat)) := [some (.aload 0, 1), some (.invokevirtual 135, 3), none, none, some (.aload 0, 1), some (.iconst 0, 1), some (.aload 0, 1), some (.getfield 775, 3),
  none, none, some (.iconst 0, 1), some (.iaload, 1), some (.iconst 1, 1), some (.isub, 1), some (.invokevirtual 137, 3), none,
  none, some (.ifCond .ne 22, 3), none, none, some (.iconst 0, 1), some (.ireturn, 1), some (.aload 0, 1), some (.iconst 100, 2),
  none, some (.aload 0, 1), some (.getfield 778, 3), none, none, some (.iadd, 1), some (.iconst 0, 1), some (.iconst 9, 2),
  none, some (.invokevirtual 153, 3), none, none, some (.ireturn, 1)]
def xg157 : List (Option (Instr × Nat)) := [some (.aload 0, 1), some (.getfield 775, 3), none, none, some (.iconst 3, 1), some (.iaload, 1), some (.iconst 4, 1), some (.if_icmp .ne 17, 3),
  none, none, some (.aload 0, 1), some (.iconst 4, 1), some (.iload 1, 1), some (.invokevirtual 130, 3), none, none,
  some (.ireturn, 1), some (.aload 0, 1), some (.invokevirtual 135, 3), none, none, some (.iconst 52, 2), none, some (.iconst 2, 1),
  some (.aload 0, 1), some (.getfield 775, 3), none, none, some (.iconst 3, 1), some (.iaload, 1), some (.imul, 1), some (.iadd, 1),
  some (.istore 2, 1), some (.aload 0, 1), some (.iload 2, 1), some (.iconst 0, 1), some (.iconst 23, 2), none, some (.invokevirtual 153, 3), none,
  none, some (.ifCond .eq 62, 3), none, none, some (.aload 0, 1), some (.iload 2, 1), some (.iconst 1, 1), some (.iadd, 1),
  some (.aload 0, 1), some (.getfield 775, 3), none, none, some (.iload 2, 1), some (.iaload, 1), some (.iconst 23, 2), none,
  some (.invokevirtual 153, 3), none, none, some (.ifCond .ne 64, 3), none, none, some (.iconst 0, 1), some (.ireturn, 1),
  some (.aload 0, 1), some (.getfield 775, 3), none, none, some (.iconst 3, 1), some (.dup2, 1), some (.iaload, 1), some (.iconst 1, 1),
  some (.iadd, 1), some (.iastore, 1), some (.iconst 1, 1), some (.ireturn, 1)]
def xg158 : List (Option (Instr × Nat)) := [some (.aload 0, 1), some (.getfield 775, 3), none, none, some (.iconst 4, 1), some (.iaload, 1), some (.iconst 10, 2), none,
  some (.if_icmp .ne 18, 3), none, none, some (.aload 0, 1), some (.iconst 4, 1), some (.iload 1, 1), some (.invokevirtual 130, 3), none,
  none, some (.ireturn, 1), some (.aload 0, 1), some (.invokevirtual 135, 3), none, none, some (.iconst 60, 2), none,
  some (.iconst 4, 1), some (.aload 0, 1), some (.getfield 775, 3), none, none, some (.iconst 4, 1), some (.iaload, 1), some (.imul, 1),
  some (.iadd, 1), some (.istore 2, 1), some (.aload 0, 1), some (.iload 2, 1), some (.iconst 0, 1), some (.aload 0, 1), some (.getfield 775, 3), none,
  none, some (.iconst 2, 1), some (.iaload, 1), some (.iconst 1, 1), some (.isub, 1), some (.invokevirtual 153, 3), none, none,
  some (.ifCond .eq 96, 3), none, none, some (.aload 0, 1), some (.iload 2, 1), some (.iconst 1, 1), some (.iadd, 1), some (.iconst 0, 1),
  some (.aload 0, 1), some (.getfield 775, 3), none, none, some (.iconst 0, 1), some (.iaload, 1), some (.iconst 1, 1), some (.isub, 1),
  some (.invokevirtual 153, 3), none, none, some (.ifCond .eq 96, 3), none, none, some (.aload 0, 1), some (.iload 2, 1),
  some (.iconst 2, 1), some (.iadd, 1), some (.iconst 0, 1), some (.iconst 23, 2), none, some (.invokevirtual 153, 3), none, none,
  some (.ifCond .eq 96, 3), none, none, some (.aload 0, 1), some (.iload 2, 1), some (.iconst 3, 1), some (.iadd, 1), some (.iconst 1, 1),
  some (.iconst 50, 2), none, some (.invokevirtual 153, 3), none, none, some (.ifCond .ne 98, 3), none, none,
  some (.iconst 0, 1), some (.ireturn, 1), some (.aload 0, 1), some (.getfield 775, 3), none, none, some (.iconst 4, 1), some (.dup2, 1),
  some (.iaload, 1), some (.iconst 1, 1), some (.iadd, 1), some (.iastore, 1), some (.iconst 1, 1), some (.ireturn, 1)]
def xg159 : List (Option (Instr × Nat)) := [some (.aload 0, 1), some (.getfield 775, 3), none, none, some (.iconst 8, 2), none, some (.iaload, 1), some (.ifCond .lt 17, 3),
  none, none, some (.aload 0, 1), some (.iconst 4, 1), some (.iload 1, 1), some (.invokevirtual 130, 3), none, none,
  some (.ireturn, 1), some (.aload 0, 1), some (.invokevirtual 135, 3), none, none, some (.aload 0, 1), some (.iconst 8, 2), none,
  some (.iconst 1, 1), some (.iconst 99, 2), none, some (.invokevirtual 153, 3), none, none, some (.ireturn, 1)]
def xg160 : List (Option (Instr × Nat)) := [some (.aload 0, 1), some (.getfield 775, 3), none, none, some (.iconst 9, 2), none, some (.iaload, 1), some (.ifCond .lt 17, 3),
  none, none, some (.aload 0, 1), some (.iconst 4, 1), some (.iload 1, 1), some (.invokevirtual 130, 3), none, none,
  some (.ireturn, 1), some (.aload 0, 1), some (.invokevirtual 135, 3), none, none, some (.aload 0, 1), some (.iconst 9, 2), none,
  some (.iconst 0, 1), some (.aload 0, 1), some (.getfield 775, 3), none, none, some (.iconst 0, 1), some (.iaload, 1), some (.iconst 1, 1),
  some (.isub, 1), some (.invokevirtual 153, 3), none, none, some (.ireturn, 1)]
def xg161 : List (Option (Instr × Nat)) := [some (.aload 0, 1), some (.ldc2_w 1818324581, 3), none, none, some (.invokevirtual 134, 3), none, none, some (.ifCond .eq 16, 3),
  none, none, some (.aload 0, 1), some (.iload 1, 1), some (.invokevirtual 154, 3), none, none, some (.ireturn, 1),
  some (.aload 0, 1), some (.getfield 775, 3), none, none, some (.iconst 0, 1), some (.iaload, 1), some (.ifCond .ne 32, 3), none,
  none, some (.aload 0, 1), some (.iconst 4, 1), some (.iload 1, 1), some (.invokevirtual 130, 3), none, none, some (.ireturn, 1),
  some (.aload 0, 1), some (.ldc2_w 27710370737579378, 3), none, none, some (.invokevirtual 134, 3), none, none, some (.ifCond .eq 48, 3),
  none, none, some (.aload 0, 1), some (.iload 1, 1), some (.invokevirtual 155, 3), none, none, some (.ireturn, 1),
  some (.aload 0, 1), some (.ldc2_w 7824756, 3), none, none, some (.invokevirtual 134, 3), none, none, some (.ifCond .eq 63, 3),
  none, none, some (.aload 0, 1), some (.invokevirtual 156, 3), none, none, some (.ireturn, 1), some (.aload 0, 1),
  some (.ldc2_w 440006570868, 3), none, none, some (.invokevirtual 134, 3), none, none, some (.ifCond .eq 79, 3), none,
  none, some (.aload 0, 1), some (.iload 1, 1), some (.invokevirtual 157, 3), none, none, some (.ireturn, 1), some (.aload 0, 1),
  some (.ldc2_w 2002873972, 3), none, none, some (.invokevirtual 134, 3), none, none, some (.ifCond .eq 95, 3), none,
  none, some (.aload 0, 1), some (.iload 1, 1), some (.invokevirtual 158, 3), none, none, some (.ireturn, 1), some (.aload 0, 1),
  some (.ldc2_w 1936682085, 3), none, none, some (.invokevirtual 134, 3), none, none, some (.ifCond .eq 113, 3), none,
  none, some (.aload 0, 1), some (.iload 1, 1), some (.invokevirtual 159, 3), none, none, some (.goto 118, 3), none,
  none, some (.aload 0, 1), some (.iload 1, 1), some (.invokevirtual 160, 3), none, none, some (.ireturn, 1)]
def xg162 : List (Option (Instr × Nat)) := [some (.aload 0, 1), some (.ldc2_w 1818324581, 3), none, none, some (.invokevirtual 134, 3), none, none, some (.ifCond .ne 40, 3),
  none, none, some (.aload 0, 1), some (.ldc2_w 27710370737579378, 3), none, none, some (.invokevirtual 134, 3), none,
  none, some (.ifCond .ne 40, 3), none, none, some (.aload 0, 1), some (.ldc2_w 7824756, 3), none, none,
  some (.invokevirtual 134, 3), none, none, some (.ifCond .ne 40, 3), none, none, some (.aload 0, 1), some (.ldc2_w 440006570868, 3),
  none, none, some (.invokevirtual 134, 3), none, none, some (.ifCond .eq 44, 3), none, none,
  some (.iconst 1, 1), some (.goto 45, 3), none, none, some (.iconst 0, 1), some (.istore 1, 1), some (.iload 1, 1), some (.ifCond .ne 80, 3),
  none, none, some (.aload 0, 1), some (.ldc2_w 2002873972, 3), none, none, some (.invokevirtual 134, 3), none,
  none, some (.ifCond .ne 80, 3), none, none, some (.aload 0, 1), some (.ldc2_w 1936682085, 3), none, none,
  some (.invokevirtual 134, 3), none, none, some (.ifCond .ne 80, 3), none, none, some (.aload 0, 1), some (.ldc2_w 422776370291, 3),
  none, none, some (.invokevirtual 134, 3), none, none, some (.ifCond .eq 84, 3), none, none,
  some (.iconst 1, 1), some (.goto 85, 3), none, none, some (.iconst 0, 1), some (.ireturn, 1)]
def xg163 : List (Option (Instr × Nat)) := [some (.aload 0, 1), some (.invokevirtual 131, 3), none, none, some (.pop, 1), some (.aload 0, 1), some (.getfield 776, 3), none,
  none, some (.istore 1, 1), some (.aload 0, 1), some (.getfield 779, 3), none, none, some (.iconst 6, 2), none,
  some (.if_icmp .ne 23, 3), none, none, some (.iconst 1, 1), some (.goto 24, 3), none, none, some (.iconst 0, 1),
  some (.istore 2, 1), some (.iload 2, 1), some (.ifCond .eq 39, 3), none, none, some (.aload 0, 1), some (.invokevirtual 162, 3), none,
  none, some (.ifCond .ne 56, 3), none, none, some (.goto 49, 3), none, none, some (.aload 0, 1),
  some (.ldc2_w 2002873451, 3), none, none, some (.invokevirtual 134, 3), none, none, some (.ifCond .ne 56, 3), none,
  none, some (.aload 0, 1), some (.iconst 0, 1), some (.iload 1, 1), some (.invokevirtual 130, 3), none, none, some (.ireturn, 1),
  some (.aload 0, 1), some (.getfield 782, 3), none, none, some (.iload 2, 1), some (.ifCond .eq 69, 3), none, none,
  some (.iconst 40, 2), none, some (.goto 71, 3), none, none, some (.iconst 12, 2), none, some (.if_icmp .ne 81, 3),
  none, none, some (.aload 0, 1), some (.iconst 4, 1), some (.iload 1, 1), some (.invokevirtual 130, 3), none, none,
  some (.ireturn, 1), some (.aload 0, 1), some (.dup, 1), some (.getfield 782, 3), none, none, some (.iconst 1, 1), some (.iadd, 1),
  some (.putfield 782, 3), none, none, some (.iload 2, 1), some (.ifCond .eq 103, 3), none, none, some (.aload 0, 1),
  some (.iload 1, 1), some (.invokevirtual 161, 3), none, none, some (.goto 107, 3), none, none, some (.aload 0, 1),
  some (.invokevirtual 152, 3), none, none, some (.ireturn, 1)]
def xg164 : List (Option (Instr × Nat)) := [some (.aload 0, 1), some (.getfield 772, 3), none, none, some (.aload 0, 1), some (.getfield 779, 3), none, none,
  some (.iconst 0, 1), some (.iastore, 1), some (.aload 0, 1), some (.iconst 0, 1), some (.putfield 782, 3), none, none, some (.aload 0, 1),
  some (.iconst 0, 1), some (.putfield 776, 3), none, none, some (.aload 0, 1), some (.iconst 0, 1), some (.putfield 777, 3), none,
  none, some (.aload 0, 1), some (.iconst 0, 1), some (.putfield 780, 3), none, none, some (.aload 0, 1), some (.invokevirtual 163, 3),
  none, none, some (.istore 1, 1), some (.iload 1, 1), some (.ifCond .eq 66, 3), none, none, some (.aload 0, 1),
  some (.invokevirtual 131, 3), none, none, some (.iconst 59, 2), none, some (.if_icmp .ne 66, 3), none, none,
  some (.aload 0, 1), some (.dup, 1), some (.getfield 776, 3), none, none, some (.iconst 1, 1), some (.iadd, 1), some (.putfield 776, 3),
  none, none, some (.aload 0, 1), some (.invokevirtual 163, 3), none, none, some (.istore 1, 1), some (.goto 35, 3),
  none, none, some (.iload 1, 1), some (.ifCond .eq 88, 3), none, none, some (.aload 0, 1), some (.invokevirtual 131, 3),
  none, none, some (.iconst (-1), 1), some (.if_icmp .eq 88, 3), none, none, some (.aload 0, 1), some (.iconst 0, 1),
  some (.aload 0, 1), some (.getfield 776, 3), none, none, some (.invokevirtual 130, 3), none, none, some (.pop, 1),
  some (.aload 0, 1), some (.iconst 0, 1), some (.putfield 769, 3), none, none, some (.aload 0, 1), some (.getfield 777, 3), none,
  none, some (.ifCond .ne 104, 3), none, none, some (.iconst 1, 1), some (.goto 105, 3), none, none,
  some (.iconst 0, 1), some (.ireturn, 1)]
def xg165 : List (Option (Instr × Nat)) := [some (.aload 0, 1), some (.getfield 770, 3), none, none, some (.iconst 6, 2), none, some (.if_icmp .ne 11, 3), none,
  none, some (.iconst (-1), 1), some (.ireturn, 1), some (.aload 0, 1), some (.aload 0, 1), some (.getfield 770, 3), none, none,
  some (.putfield 779, 3), none, none, some (.aload 0, 1), some (.getfield 774, 3), none, none, some (.aload 0, 1),
  some (.getfield 779, 3), none, none, some (.iconst 0, 1), some (.iastore, 1), some (.aload 0, 1), some (.invokevirtual 164, 3), none,
  none, some (.ifCond .ne 44, 3), none, none, some (.iconst (-2), 2), none, some (.aload 0, 1), some (.getfield 777, 3),
  none, none, some (.isub, 1), some (.ireturn, 1), some (.aload 0, 1), some (.dup, 1), some (.getfield 770, 3), none,
  none, some (.iconst 1, 1), some (.iadd, 1), some (.putfield 770, 3), none, none, some (.aload 0, 1), some (.getfield 770, 3),
  none, none, some (.iconst 1, 1), some (.isub, 1), some (.ireturn, 1)]
def xg166 : List (Option (Instr × Nat)) := [some (.aload 0, 1), some (.iconst 6, 2), none, some (.putfield 779, 3), none, none, some (.iconst 0, 1), some (.istore 1, 1),
  some (.iload 1, 1), some (.iconst 10, 2), none, some (.if_icmp .ge 37, 3), none, none, some (.aload 0, 1), some (.getfield 775, 3),
  none, none, some (.iload 1, 1), some (.iload 1, 1), some (.iconst 7, 2), none, some (.if_icmp .le 29, 3), none,
  none, some (.iconst (-1), 1), some (.goto 30, 3), none, none, some (.iconst 0, 1), some (.iastore, 1), some (.iinc 1 1, 3),
  none, none, some (.goto 8, 3), none, none, some (.iconst 0, 1), some (.istore 1, 1), some (.iload 1, 1),
  some (.iconst 10, 2), none, some (.if_icmp .ge 61, 3), none, none, some (.aload 0, 1), some (.getfield 775, 3), none,
  none, some (.iconst 100, 2), none, some (.iload 1, 1), some (.iadd, 1), some (.iconst 0, 1), some (.iastore, 1), some (.iinc 1 1, 3),
  none, none, some (.goto 39, 3), none, none, some (.aload 0, 1), some (.invokevirtual 164, 3), none,
  none, some (.ifCond .ne 76, 3), none, none, some (.iconst (-2), 2), none, some (.aload 0, 1), some (.getfield 777, 3),
  none, none, some (.isub, 1), some (.ireturn, 1), some (.iconst 0, 1), some (.istore 1, 1), some (.iload 1, 1), some (.iconst 151, 3),
  none, none, some (.if_icmp .ge 113, 3), none, none, some (.aload 0, 1), some (.getfield 788, 3), none,
  none, some (.iload 1, 1), some (.iload 1, 1), some (.iconst 110, 2), none, some (.if_icmp .ge 105, 3), none, none,
  some (.aload 0, 1), some (.getfield 775, 3), none, none, some (.iload 1, 1), some (.iaload, 1), some (.goto 106, 3), none,
  none, some (.iconst 0, 1), some (.iastore, 1), some (.iinc 1 1, 3), none, none, some (.goto 78, 3), none,
  none, some (.aload 0, 1), some (.getfield 788, 3), none, none, some (.iconst 8, 2), none, some (.iaload, 1),
  some (.ifCond .ge 132, 3), none, none, some (.aload 0, 1), some (.getfield 788, 3), none, none, some (.iconst 8, 2),
  none, some (.iconst 30, 2), none, some (.iastore, 1), some (.aload 0, 1), some (.getfield 788, 3), none, none,
  some (.iconst 9, 2), none, some (.iaload, 1), some (.ifCond .ge 150, 3), none, none, some (.aload 0, 1), some (.getfield 788, 3),
  none, none, some (.iconst 9, 2), none, some (.iconst 0, 1), some (.iastore, 1), some (.iconst 0, 1), some (.istore 1, 1),
  some (.iload 1, 1), some (.iconst 2, 1), some (.if_icmp .ge 209, 3), none, none, some (.aload 0, 1), some (.getfield 788, 3), none,
  none, some (.iconst 46, 2), none, some (.iconst 3, 1), some (.iload 1, 1), some (.imul, 1), some (.iadd, 1), some (.iconst (-1), 1),
  some (.iastore, 1), some (.aload 0, 1), some (.getfield 788, 3), none, none, some (.iconst 46, 2), none, some (.iconst 3, 1),
  some (.iload 1, 1), some (.imul, 1), some (.iadd, 1), some (.iconst 1, 1), some (.iadd, 1), some (.aload 0, 1), some (.getfield 788, 3), none,
  none, some (.iconst 9, 2), none, some (.iaload, 1), some (.iastore, 1), some (.aload 0, 1), some (.getfield 788, 3), none,
  none, some (.iconst 46, 2), none, some (.iconst 3, 1), some (.iload 1, 1), some (.imul, 1), some (.iadd, 1), some (.iconst 2, 1),
  some (.iadd, 1), some (.iconst 0, 1), some (.iastore, 1), some (.iinc 1 1, 3), none, none, some (.goto 152, 3), none,
  none, some (.aload 0, 1), some (.iconst 0, 1), some (.putfield 795, 3), none, none, some (.aload 0, 1), some (.getfield 788, 3),
  none, none, some (.iconst 2, 1), some (.iaload, 1), some (.ireturn, 1)]
def xg167 : List (Option (Instr × Nat)) := [some (.iload 1, 1), some (.ifCond .lt 16, 3), none, none, some (.iload 1, 1), some (.aload 0, 1), some (.getfield 770, 3), none,
  none, some (.if_icmp .ge 16, 3), none, none, some (.iconst 1, 1), some (.goto 17, 3), none, none,
  some (.iconst 0, 1), some (.ireturn, 1)]
def xg168 : List (Option (Instr × Nat)) := [some (.aload 0, 1), some (.getfield 785, 3), none, none, some (.aload 0, 1), some (.getfield 786, 3), none, none,
  some (.lload 1, 1), some (.lastore, 1), some (.aload 0, 1), some (.dup, 1), some (.getfield 786, 3), none, none, some (.iconst 1, 1),
  some (.iadd, 1), some (.putfield 786, 3), none, none, some (.return_, 1)]
def xg169 : List (Option (Instr × Nat)) := [some (.aload 0, 1), some (.dup, 1), some (.getfield 786, 3), none, none, some (.iconst 1, 1), some (.isub, 1), some (.putfield 786, 3),
  none, none, some (.aload 0, 1), some (.getfield 785, 3), none, none, some (.aload 0, 1), some (.getfield 786, 3),
  none, none, some (.laload, 1), some (.lreturn, 1)]
def xg170 : List (Option (Instr × Nat)) := [some (.iload 0, 1), some (.tableswitch 172 2 14 #[68, 72, 76, 80, 108, 120, 132, 144, 156, 172, 168, 172, 94], 67), none, none, none, none, none, none,
  none, none, none, none, none, none, none, none,
  none, none, none, none, none, none, none, none,
  none, none, none, none, none, none, none, none,
  none, none, none, none, none, none, none, none,
  none, none, none, none, none, none, none, none,
  none, none, none, none, none, none, none, none,
  none, none, none, none, none, none, none, none,
  none, none, none, none, some (.lload 1, 1), some (.lload 3, 1), some (.ladd, 1), some (.lreturn, 1),
  some (.lload 1, 1), some (.lload 3, 1), some (.lsub, 1), some (.lreturn, 1), some (.lload 1, 1), some (.lload 3, 1), some (.lmul, 1), some (.lreturn, 1),
  some (.lload 3, 1), some (.ldc2_w 0, 1), some (.lcmp, 1), some (.ifCond .ne 90, 3), none, none, some (.ldc2_w 0, 1), some (.goto 93, 3),
  none, none, some (.lload 1, 1), some (.lload 3, 1), some (.ldiv, 1), some (.lreturn, 1), some (.lload 3, 1), some (.ldc2_w 0, 1),
  some (.lcmp, 1), some (.ifCond .ne 104, 3), none, none, some (.ldc2_w 0, 1), some (.goto 107, 3), none, none,
  some (.lload 1, 1), some (.lload 3, 1), some (.lrem, 1), some (.lreturn, 1), some (.lload 1, 1), some (.lload 3, 1), some (.lcmp, 1), some (.ifCond .ge 118, 3),
  none, none, some (.ldc2_w 1, 1), some (.goto 119, 3), none, none, some (.ldc2_w 0, 1), some (.lreturn, 1),
  some (.lload 1, 1), some (.lload 3, 1), some (.lcmp, 1), some (.ifCond .gt 130, 3), none, none, some (.ldc2_w 1, 1), some (.goto 131, 3),
  none, none, some (.ldc2_w 0, 1), some (.lreturn, 1), some (.lload 1, 1), some (.lload 3, 1), some (.lcmp, 1), some (.ifCond .ne 142, 3),
  none, none, some (.ldc2_w 1, 1), some (.goto 143, 3), none, none, some (.ldc2_w 0, 1), some (.lreturn, 1),
  some (.lload 1, 1), some (.lload 3, 1), some (.lcmp, 1), some (.ifCond .lt 154, 3), none, none, some (.ldc2_w 1, 1), some (.goto 155, 3),
  none, none, some (.ldc2_w 0, 1), some (.lreturn, 1), some (.lload 1, 1), some (.lload 3, 1), some (.lcmp, 1), some (.ifCond .le 166, 3),
  none, none, some (.ldc2_w 1, 1), some (.goto 167, 3), none, none, some (.ldc2_w 0, 1), some (.lreturn, 1),
  some (.lload 1, 1), some (.lload 3, 1), some (.land, 1), some (.lreturn, 1), some (.lload 1, 1), some (.lload 3, 1), some (.lor, 1), some (.lreturn, 1)]
def xg171 : List (Option (Instr × Nat)) := [some (.aload 0, 1), some (.iconst 0, 1), some (.putfield 786, 3), none, none, some (.iload 2, 1), some (.istore 4, 2), none,
  some (.iload 4, 2), none, some (.iload 3, 1), some (.if_icmp .ge 135, 3), none, none, some (.aload 0, 1), some (.getfield 771, 3),
  none, none, some (.iconst 400, 3), none, none, some (.iload 1, 1), some (.imul, 1), some (.iload 4, 2),
  none, some (.iadd, 1), some (.iaload, 1), some (.iconst 15, 2), none, some (.iand, 1), some (.istore 5, 2), none,
  some (.aload 0, 1), some (.getfield 771, 3), none, none, some (.iconst 400, 3), none, none, some (.iload 1, 1),
  some (.imul, 1), some (.iload 4, 2), none, some (.iadd, 1), some (.iaload, 1), some (.iconst 4, 1), some (.ishr, 1), some (.istore 6, 2),
  none, some (.iload 5, 2), none, some (.ifCond .ne 64, 3), none, none, some (.aload 0, 1), some (.iload 6, 2),
  none, some (.i2l, 1), some (.invokevirtual 168, 3), none, none, some (.goto 129, 3), none, none,
  some (.iload 5, 2), none, some (.iconst 1, 1), some (.if_icmp .ne 84, 3), none, none, some (.aload 0, 1), some (.aload 0, 1),
  some (.getfield 787, 3), none, none, some (.iload 6, 2), none, some (.laload, 1), some (.invokevirtual 168, 3), none,
  none, some (.goto 129, 3), none, none, some (.iload 5, 2), none, some (.iconst 11, 2), none,
  some (.if_icmp .ne 104, 3), none, none, some (.aload 0, 1), some (.ldc2_w 1, 1), some (.aload 0, 1), some (.invokevirtual 169, 3), none,
  none, some (.lsub, 1), some (.invokevirtual 168, 3), none, none, some (.goto 129, 3), none, none,
  some (.aload 0, 1), some (.invokevirtual 169, 3), none, none, some (.lstore 7, 2), none, some (.aload 0, 1), some (.invokevirtual 169, 3),
  none, none, some (.lstore 9, 2), none, some (.aload 0, 1), some (.iload 5, 2), none, some (.lload 9, 2),
  none, some (.lload 7, 2), none, some (.invokestatic 170, 3), none, none, some (.invokevirtual 168, 3), none,
  none, some (.iinc 4 1, 3), none, none, some (.goto 8, 3), none, none, some (.aload 0, 1),
  some (.invokevirtual 169, 3), none, none, some (.lreturn, 1)]
def xg172 : List (Option (Instr × Nat)) := [some (.aload 0, 1), some (.getfield 788, 3), none, none, some (.iconst 0, 1), some (.iaload, 1), some (.ifCond .le 13, 3), none,
  none, some (.iconst 1, 1), some (.goto 14, 3), none, none, some (.iconst 0, 1), some (.ireturn, 1)]
def xg173 : List (Option (Instr × Nat)) := [some (.iload 1, 1), some (.ifCond .lt 18, 3), none, none, some (.iload 1, 1), some (.aload 0, 1), some (.getfield 788, 3), none,
  none, some (.iconst 2, 1), some (.iaload, 1), some (.if_icmp .ge 18, 3), none, none, some (.iconst 1, 1), some (.goto 19, 3),
  none, none, some (.iconst 0, 1), some (.ireturn, 1)]
def xg174 : List (Option (Instr × Nat)) := [some (.iload 1, 1), some (.ifCond .lt 18, 3), none, none, some (.iload 1, 1), some (.aload 0, 1), some (.getfield 788, 3), none,
  none, some (.iconst 0, 1), some (.iaload, 1), some (.if_icmp .ge 18, 3), none, none, some (.iconst 1, 1), some (.goto 19, 3),
  none, none, some (.iconst 0, 1), some (.ireturn, 1)]
def xg175 : List (Option (Instr × Nat)) := [some (.aload 0, 1), some (.getfield 788, 3), none, none, some (.iconst 10, 2), none, some (.iconst 6, 2), none,
  some (.iload 1, 1), some (.imul, 1), some (.iadd, 1), some (.iload 2, 1), some (.iadd, 1), some (.iaload, 1), some (.ireturn, 1)]
def xg176 : List (Option (Instr × Nat)) := [some (.aload 0, 1), some (.getfield 788, 3), none, none, some (.iconst 46, 2), none, some (.iconst 3, 1), some (.iload 1, 1),
  some (.imul, 1), some (.iadd, 1), some (.iaload, 1), some (.ireturn, 1)]
def xg177 : List (Option (Instr × Nat)) := [some (.aload 0, 1), some (.iload 1, 1), some (.invokevirtual 176, 3), none, none, some (.ifCond .ge 24, 3), none, none,
  some (.aload 0, 1), some (.getfield 788, 3), none, none, some (.iconst 46, 2), none, some (.iconst 3, 1), some (.iload 1, 1),
  some (.imul, 1), some (.iadd, 1), some (.iconst 1, 1), some (.iadd, 1), some (.iaload, 1), some (.goto 34, 3), none, none,
  some (.aload 0, 1), some (.aload 0, 1), some (.iload 1, 1), some (.invokevirtual 176, 3), none, none, some (.iconst 0, 1), some (.invokevirtual 175, 3),
  none, none, some (.ireturn, 1)]
def xg178 : List (Option (Instr × Nat)) := [some (.aload 0, 1), some (.getfield 788, 3), none, none, some (.iconst 46, 2), none, some (.iconst 3, 1), some (.iload 1, 1),
  some (.imul, 1), some (.iadd, 1), some (.iconst 2, 1), some (.iadd, 1), some (.iaload, 1), some (.ireturn, 1)]
def xg179 : List (Option (Instr × Nat)) := [some (.aload 0, 1), some (.iload 1, 1), some (.invokevirtual 178, 3), none, none, some (.aload 0, 1), some (.getfield 788, 3), none,
  none, some (.iconst 8, 2), none, some (.iaload, 1), some (.if_icmp .lt 19, 3), none, none, some (.iconst 1, 1),
  some (.goto 20, 3), none, none, some (.iconst 0, 1), some (.ireturn, 1)]
def xg180 : List (Option (Instr × Nat)) := [some (.aload 0, 1), some (.iload 1, 1), some (.iconst 2, 1), some (.invokevirtual 175, 3), none, none, some (.aload 0, 1), some (.getfield 788, 3),
  none, none, some (.iconst 1, 1), some (.iaload, 1), some (.if_icmp .gt 19, 3), none, none, some (.iconst 1, 1),
  some (.goto 20, 3), none, none, some (.iconst 0, 1), some (.ireturn, 1)]
def xg181 : List (Option (Instr × Nat)) := [some (.aload 0, 1), some (.iconst 0, 1), some (.invokevirtual 176, 3), none, none, some (.iload 1, 1), some (.if_icmp .ne 13, 3), none,
  none, some (.iconst 1, 1), some (.goto 14, 3), none, none, some (.iconst 0, 1), some (.aload 0, 1), some (.iconst 1, 1),
  some (.invokevirtual 176, 3), none, none, some (.iload 1, 1), some (.if_icmp .ne 27, 3), none, none, some (.iconst 2, 1),
  some (.goto 28, 3), none, none, some (.iconst 0, 1), some (.ior, 1), some (.ireturn, 1)]
def xg182 : List (Option (Instr × Nat)) := [some (.iload 1, 1), some (.aload 0, 1), some (.getfield 791, 3), none, none, some (.if_icmp .ne 12, 3), none, none,
  some (.iconst 2, 1), some (.goto 41, 3), none, none, some (.aload 0, 1), some (.iconst 0, 1), some (.invokevirtual 176, 3), none,
  none, some (.iload 1, 1), some (.if_icmp .ne 25, 3), none, none, some (.iconst 1, 1), some (.goto 26, 3), none,
  none, some (.iconst 0, 1), some (.aload 0, 1), some (.iconst 1, 1), some (.invokevirtual 176, 3), none, none, some (.iload 1, 1),
  some (.if_icmp .ne 39, 3), none, none, some (.iconst 1, 1), some (.goto 40, 3), none, none, some (.iconst 0, 1),
  some (.iadd, 1), some (.ireturn, 1)]
def xg183 : List (Option (Instr × Nat)) := [some (.iconst (-1), 1), some (.istore 2, 1), some (.iconst 0, 1), some (.istore 3, 1), some (.iload 3, 1), some (.aload 0, 1), some (.getfield 788, 3), none,
  none, some (.iconst 4, 1), some (.iaload, 1), some (.if_icmp .ge 91, 3), none, none, some (.iconst 60, 2), none,
  some (.iconst 4, 1), some (.iload 3, 1), some (.imul, 1), some (.iadd, 1), some (.istore 4, 2), none, some (.aload 0, 1), some (.getfield 788, 3),
  none, none, some (.iload 4, 2), none, some (.iaload, 1), some (.iload 1, 1), some (.if_icmp .ne 85, 3), none,
  none, some (.aload 0, 1), some (.getfield 788, 3), none, none, some (.iload 4, 2), none, some (.iconst 2, 1),
  some (.iadd, 1), some (.iaload, 1), some (.aload 0, 1), some (.getfield 788, 3), none, none, some (.iconst 5, 1), some (.iaload, 1),
  some (.if_icmp .ge 54, 3), none, none, some (.goto 85, 3), none, none, some (.iload 2, 1), some (.ifCond .lt 83, 3),
  none, none, some (.aload 0, 1), some (.getfield 788, 3), none, none, some (.iload 4, 2), none,
  some (.iconst 2, 1), some (.iadd, 1), some (.iaload, 1), some (.aload 0, 1), some (.getfield 788, 3), none, none, some (.iconst 60, 2),
  none, some (.iconst 4, 1), some (.iload 2, 1), some (.imul, 1), some (.iadd, 1), some (.iconst 2, 1), some (.iadd, 1), some (.iaload, 1),
  some (.if_icmp .ge 85, 3), none, none, some (.iload 3, 1), some (.istore 2, 1), some (.iinc 3 1, 3), none, none,
  some (.goto 4, 3), none, none, some (.iload 2, 1), some (.ireturn, 1)]
def xg184 : List (Option (Instr × Nat)) := [some (.aload 0, 1), some (.iload 1, 1), some (.invokevirtual 183, 3), none, none, some (.istore 2, 1), some (.iload 2, 1), some (.ifCond .ge 19, 3),
  none, none, some (.aload 0, 1), some (.iload 1, 1), some (.iconst 1, 1), some (.invokevirtual 175, 3), none, none,
  some (.goto 32, 3), none, none, some (.aload 0, 1), some (.getfield 788, 3), none, none, some (.iconst 60, 2),
  none, some (.iconst 4, 1), some (.iload 2, 1), some (.imul, 1), some (.iadd, 1), some (.iconst 1, 1), some (.iadd, 1), some (.iaload, 1),
  some (.ireturn, 1)]
def xg185 : List (Option (Instr × Nat)) := [some (.iload 1, 1), some (.iconst (-1), 1), some (.if_icmp .eq 16, 3), none, none, some (.aload 0, 1), some (.iload 1, 1), some (.invokevirtual 167, 3),
  none, none, some (.ifCond .ne 16, 3), none, none, some (.iconst (-2), 2), none, some (.ireturn, 1),
  some (.aload 0, 1), some (.getfield 789, 3), none, none, some (.istore 2, 1), some (.aload 0, 1), some (.iload 1, 1), some (.putfield 789, 3),
  none, none, some (.iload 2, 1), some (.ireturn, 1)]
def xg186 : List (Option (Instr × Nat)) := [some (.aload 0, 1), some (.iload 1, 1), some (.invokevirtual 173, 3), none, none, some (.ifCond .ne 10, 3), none, none,
  some (.iconst (-1), 1), some (.ireturn, 1), some (.iload 2, 1), some (.tableswitch 82 0 7 #[56, 56, 56, 56, 56, 63, 69, 76], 45), none, none, none, none,
  none, none, none, none, none, none, none, none,
  none, none, none, none, none, none, none, none,
  none, none, none, none, none, none, none, none,
  none, none, none, none, none, none, none, none,
  none, none, none, none, none, none, none, none,
  some (.aload 0, 1), some (.iload 1, 1), some (.iload 2, 1), some (.invokevirtual 175, 3), none, none, some (.ireturn, 1), some (.aload 0, 1),
  some (.iload 1, 1), some (.invokevirtual 181, 3), none, none, some (.ireturn, 1), some (.aload 0, 1), some (.iload 1, 1), some (.iconst 5, 1),
  some (.invokevirtual 175, 3), none, none, some (.ireturn, 1), some (.aload 0, 1), some (.iload 1, 1), some (.invokevirtual 184, 3), none,
  none, some (.ireturn, 1), some (.iconst (-1), 1), some (.ireturn, 1)]
def xg187 : List (Option (Instr × Nat)) := [some (.aload 0, 1), some (.invokevirtual 172, 3), none, none, some (.ifCond .eq 17, 3), none, none, some (.iload 1, 1),
  some (.i2l, 1), some (.ldc2_w 0, 1), some (.ldc2_w 1, 1), some (.invokestatic 126, 3), none, none, some (.ifCond .ne 20, 3), none,
  none, some (.iconst (-2), 2), none, some (.ireturn, 1), some (.iload 2, 1), some (.tableswitch 84 0 3 #[52, 58, 64, 70], 31), none, none,
  none, none, none, none, none, none, none, none,
  none, none, none, none, none, none, none, none,
  none, none, none, none, none, none, none, none,
  none, none, none, none, some (.aload 0, 1), some (.iload 1, 1), some (.invokevirtual 176, 3), none,
  none, some (.ireturn, 1), some (.aload 0, 1), some (.iload 1, 1), some (.invokevirtual 177, 3), none, none, some (.ireturn, 1),
  some (.aload 0, 1), some (.iload 1, 1), some (.invokevirtual 178, 3), none, none, some (.ireturn, 1), some (.aload 0, 1), some (.iload 1, 1),
  some (.invokevirtual 179, 3), none, none, some (.ifCond .eq 82, 3), none, none, some (.iconst 1, 1), some (.goto 83, 3),
  none, none, some (.iconst 0, 1), some (.ireturn, 1), some (.iconst (-2), 2), none, some (.ireturn, 1)]
def xg188 : List (Option (Instr × Nat)) := [some (.aload 0, 1), some (.iload 1, 1), some (.invokevirtual 174, 3), none, none, some (.ifCond .eq 20, 3), none, none,
  some (.aload 0, 1), some (.getfield 788, 3), none, none, some (.iconst 100, 2), none, some (.iload 1, 1), some (.iadd, 1),
  some (.iaload, 1), some (.goto 21, 3), none, none, some (.iconst (-1), 1), some (.ireturn, 1)]
def xg189 : List (Option (Instr × Nat)) := [some (.aload 0, 1), some (.getfield 792, 3), none, none, some (.istore 1, 1), some (.iconst 0, 1), some (.istore 2, 1), some (.iload 2, 1),
  some (.aload 0, 1), some (.getfield 788, 3), none, none, some (.iconst 3, 1), some (.iaload, 1), some (.if_icmp .ge 75, 3), none,
  none, some (.iload 1, 1), some (.ifCond .ne 63, 3), none, none, some (.aload 0, 1), some (.getfield 788, 3), none,
  none, some (.iconst 5, 1), some (.iaload, 1), some (.aload 0, 1), some (.getfield 788, 3), none, none, some (.iconst 52, 2),
  none, some (.iconst 2, 1), some (.iload 2, 1), some (.imul, 1), some (.iadd, 1), some (.iaload, 1), some (.if_icmp .lt 67, 3), none,
  none, some (.aload 0, 1), some (.getfield 788, 3), none, none, some (.iconst 5, 1), some (.iaload, 1), some (.aload 0, 1),
  some (.getfield 788, 3), none, none, some (.iconst 52, 2), none, some (.iconst 2, 1), some (.iload 2, 1), some (.imul, 1),
  some (.iadd, 1), some (.iconst 1, 1), some (.iadd, 1), some (.iaload, 1), some (.if_icmp .gt 67, 3), none, none, some (.iconst 1, 1),
  some (.goto 68, 3), none, none, some (.iconst 0, 1), some (.istore 1, 1), some (.iinc 2 1, 3), none, none,
  some (.goto 7, 3), none, none, some (.iload 1, 1), some (.ireturn, 1)]
def xg190 : List (Option (Instr × Nat)) := [some (.iconst 0, 1), some (.istore 2, 1), some (.iconst 0, 1), some (.istore 3, 1), some (.iload 3, 1), some (.aload 0, 1), some (.getfield 788, 3), none,
  none, some (.iconst 2, 1), some (.iaload, 1), some (.if_icmp .ge 48, 3), none, none, some (.iload 2, 1), some (.iload 3, 1),
  some (.iload 1, 1), some (.if_icmp .eq 39, 3), none, none, some (.aload 0, 1), some (.iload 3, 1), some (.iconst 0, 1), some (.invokevirtual 175, 3),
  none, none, some (.aload 0, 1), some (.iload 1, 1), some (.iconst 0, 1), some (.invokevirtual 175, 3), none, none,
  some (.if_icmp .ne 39, 3), none, none, some (.iconst 1, 1), some (.goto 40, 3), none, none, some (.iconst 0, 1),
  some (.iadd, 1), some (.istore 2, 1), some (.iinc 3 1, 3), none, none, some (.goto 4, 3), none, none,
  some (.iload 2, 1), some (.ireturn, 1)]
def xg191 : List (Option (Instr × Nat)) := [some (.aload 0, 1), some (.iload 1, 1), some (.invokevirtual 183, 3), none, none, some (.istore 2, 1), some (.aload 0, 1), some (.iload 1, 1),
  some (.iconst 0, 1), some (.invokevirtual 175, 3), none, none, some (.istore 3, 1), some (.aload 0, 1), some (.getfield 787, 3), none,
  none, some (.iconst 0, 1), some (.iload 1, 1), some (.i2l, 1), some (.lastore, 1), some (.aload 0, 1), some (.getfield 787, 3), none,
  none, some (.iconst 1, 1), some (.iload 3, 1), some (.i2l, 1), some (.lastore, 1), some (.aload 0, 1), some (.getfield 787, 3), none,
  none, some (.iconst 2, 1), some (.aload 0, 1), some (.iload 1, 1), some (.iconst 1, 1), some (.invokevirtual 175, 3), none, none,
  some (.i2l, 1), some (.lastore, 1), some (.aload 0, 1), some (.getfield 787, 3), none, none, some (.iconst 3, 1), some (.aload 0, 1),
  some (.iload 1, 1), some (.iconst 2, 1), some (.invokevirtual 175, 3), none, none, some (.i2l, 1), some (.lastore, 1), some (.aload 0, 1),
  some (.getfield 787, 3), none, none, some (.iconst 4, 1), some (.aload 0, 1), some (.getfield 788, 3), none, none,
  some (.iconst 5, 1), some (.iaload, 1), some (.i2l, 1), some (.lastore, 1), some (.aload 0, 1), some (.getfield 787, 3), none, none,
  some (.iconst 5, 1), some (.aload 0, 1), some (.getfield 788, 3), none, none, some (.iconst 6, 2), none, some (.iaload, 1),
  some (.i2l, 1), some (.lastore, 1), some (.aload 0, 1), some (.getfield 787, 3), none, none, some (.iconst 6, 2), none,
  some (.aload 0, 1), some (.iload 1, 1), some (.invokevirtual 184, 3), none, none, some (.i2l, 1), some (.lastore, 1), some (.aload 0, 1),
  some (.getfield 787, 3), none, none, some (.iconst 7, 2), none, some (.iload 2, 1), some (.ifCond .ge 109, 3), none,
  none, some (.ldc2_w 0, 1), some (.goto 123, 3), none, none, some (.aload 0, 1), some (.getfield 788, 3), none,
  none, some (.iconst 60, 2), none, some (.iconst 4, 1), some (.iload 2, 1), some (.imul, 1), some (.iadd, 1), some (.iconst 3, 1),
  some (.iadd, 1), some (.iaload, 1), some (.i2l, 1), some (.lastore, 1), some (.aload 0, 1), some (.getfield 787, 3), none, none,
  some (.iconst 8, 2), none, some (.iload 2, 1), some (.ifCond .ge 138, 3), none, none, some (.ldc2_w 0, 1), some (.goto 159, 3),
  none, none, some (.aload 0, 1), some (.getfield 788, 3), none, none, some (.iconst 60, 2), none,
  some (.iconst 4, 1), some (.iload 2, 1), some (.imul, 1), some (.iadd, 1), some (.iconst 2, 1), some (.iadd, 1), some (.iaload, 1), some (.aload 0, 1),
  some (.getfield 788, 3), none, none, some (.iconst 5, 1), some (.iaload, 1), some (.isub, 1), some (.i2l, 1), some (.lastore, 1),
  some (.aload 0, 1), some (.getfield 787, 3), none, none, some (.iconst 9, 2), none, some (.aload 0, 1), some (.getfield 788, 3),
  none, none, some (.iconst 100, 2), none, some (.iload 3, 1), some (.iadd, 1), some (.iaload, 1), some (.i2l, 1),
  some (.lastore, 1), some (.aload 0, 1), some (.getfield 787, 3), none, none, some (.iconst 10, 2), none, some (.aload 0, 1),
  some (.invokevirtual 189, 3), none, none, some (.ifCond .eq 194, 3), none, none, some (.ldc2_w 1, 1), some (.goto 195, 3),
  none, none, some (.ldc2_w 0, 1), some (.lastore, 1), some (.aload 0, 1), some (.getfield 787, 3), none, none,
  some (.iconst 11, 2), none, some (.aload 0, 1), some (.iload 1, 1), some (.invokevirtual 182, 3), none, none, some (.i2l, 1),
  some (.lastore, 1), some (.aload 0, 1), some (.getfield 787, 3), none, none, some (.iconst 12, 2), none, some (.aload 0, 1),
  some (.iload 1, 1), some (.iconst 3, 1), some (.invokevirtual 175, 3), none, none, some (.i2l, 1), some (.lastore, 1), some (.aload 0, 1),
  some (.getfield 787, 3), none, none, some (.iconst 13, 2), none, some (.aload 0, 1), some (.iload 1, 1), some (.invokevirtual 190, 3),
  none, none, some (.i2l, 1), some (.lastore, 1), some (.aload 0, 1), some (.getfield 787, 3), none, none,
  some (.iconst 14, 2), none, some (.aload 0, 1), some (.iconst 0, 1), some (.invokevirtual 176, 3), none, none, some (.ifCond .ge 263, 3),
  none, none, some (.aload 0, 1), some (.iconst 0, 1), some (.invokevirtual 177, 3), none, none, some (.iload 3, 1),
  some (.if_icmp .ne 263, 3), none, none, some (.iconst 1, 1), some (.goto 264, 3), none, none, some (.iconst 0, 1),
  some (.aload 0, 1), some (.iconst 1, 1), some (.invokevirtual 176, 3), none, none, some (.ifCond .ge 285, 3), none, none,
  some (.aload 0, 1), some (.iconst 1, 1), some (.invokevirtual 177, 3), none, none, some (.iload 3, 1), some (.if_icmp .ne 285, 3), none,
  none, some (.iconst 1, 1), some (.goto 286, 3), none, none, some (.iconst 0, 1), some (.iadd, 1), some (.i2l, 1),
  some (.lastore, 1), some (.return_, 1)]
def xg192 : List (Option (Instr × Nat)) := [some (.iconst 0, 1), some (.istore 2, 1), some (.iload 2, 1), some (.aload 0, 1), some (.getfield 774, 3), none, none, some (.iload 1, 1),
  some (.iaload, 1), some (.if_icmp .ge 84, 3), none, none, some (.iconst 48, 2), none, some (.iload 1, 1), some (.imul, 1),
  some (.iconst 4, 1), some (.iload 2, 1), some (.imul, 1), some (.iadd, 1), some (.istore 3, 1), some (.aload 0, 1), some (.getfield 773, 3), none,
  none, some (.iload 3, 1), some (.iconst 2, 1), some (.iadd, 1), some (.iaload, 1), some (.ifCond .lt 58, 3), none, none,
  some (.aload 0, 1), some (.iload 1, 1), some (.aload 0, 1), some (.getfield 773, 3), none, none, some (.iload 3, 1), some (.iconst 2, 1),
  some (.iadd, 1), some (.iaload, 1), some (.aload 0, 1), some (.getfield 773, 3), none, none, some (.iload 3, 1), some (.iconst 3, 1),
  some (.iadd, 1), some (.iaload, 1), some (.invokevirtual 171, 3), none, none, some (.ldc2_w 1, 1), some (.lcmp, 1), some (.ifCond .ne 78, 3),
  none, none, some (.aload 0, 1), some (.iload 1, 1), some (.aload 0, 1), some (.getfield 773, 3), none, none,
  some (.iload 3, 1), some (.iaload, 1), some (.aload 0, 1), some (.getfield 773, 3), none, none, some (.iload 3, 1), some (.iconst 1, 1),
  some (.iadd, 1), some (.iaload, 1), some (.invokevirtual 171, 3), none, none, some (.lreturn, 1), some (.iinc 2 1, 3), none,
  none, some (.goto 2, 3), none, none, some (.ldc2_w 0, 1), some (.lreturn, 1)]
def xg193 : List (Option (Instr × Nat)) := [some (.aload 0, 1), some (.getfield 789, 3), none, none, some (.ifCond .ge 21, 3), none, none, some (.aload 0, 1),
  some (.iload 1, 1), some (.invokevirtual 184, 3), none, none, some (.aload 0, 1), some (.iload 1, 1), some (.iconst 0, 1), some (.invokevirtual 175, 3),
  none, none, some (.isub, 1), some (.i2l, 1), some (.lreturn, 1), some (.aload 0, 1), some (.iload 1, 1), some (.invokevirtual 191, 3),
  none, none, some (.aload 0, 1), some (.aload 0, 1), some (.getfield 789, 3), none, none, some (.invokevirtual 192, 3),
  none, none, some (.lreturn, 1)]
def xg194 : List (Option (Instr × Nat)) := [some (.iconst 0, 1), some (.istore 1, 1), some (.iconst 0, 1), some (.istore 2, 1), some (.iload 2, 1), some (.aload 0, 1), some (.getfield 788, 3), none,
  none, some (.iconst 4, 1), some (.iaload, 1), some (.if_icmp .ge 123, 3), none, none, some (.iconst 60, 2), none,
  some (.iconst 4, 1), some (.iload 2, 1), some (.imul, 1), some (.iadd, 1), some (.istore 3, 1), some (.iconst 10, 2), none, some (.iconst 6, 2),
  none, some (.aload 0, 1), some (.getfield 788, 3), none, none, some (.iload 3, 1), some (.iaload, 1), some (.imul, 1),
  some (.iadd, 1), some (.istore 4, 2), none, some (.aload 0, 1), some (.getfield 788, 3), none, none, some (.iload 3, 1),
  some (.iconst 2, 1), some (.iadd, 1), some (.iaload, 1), some (.aload 0, 1), some (.getfield 788, 3), none, none, some (.iconst 5, 1),
  some (.iaload, 1), some (.if_icmp .ne 117, 3), none, none, some (.aload 0, 1), some (.getfield 788, 3), none, none,
  some (.iload 4, 2), none, some (.iaload, 1), some (.aload 0, 1), some (.getfield 788, 3), none, none, some (.iload 3, 1),
  some (.iconst 1, 1), some (.iadd, 1), some (.iaload, 1), some (.if_icmp .ne 117, 3), none, none, some (.aload 0, 1), some (.getfield 788, 3),
  none, none, some (.iload 4, 2), none, some (.iconst 4, 1), some (.iadd, 1), some (.iaload, 1), some (.iconst 1, 1),
  some (.if_icmp .ne 86, 3), none, none, some (.goto 117, 3), none, none, some (.aload 0, 1), some (.getfield 788, 3),
  none, none, some (.iload 4, 2), none, some (.iconst 5, 1), some (.iadd, 1), some (.dup2, 1), some (.iaload, 1),
  some (.aload 0, 1), some (.getfield 788, 3), none, none, some (.iload 3, 1), some (.iconst 3, 1), some (.iadd, 1), some (.iaload, 1),
  some (.iadd, 1), some (.iastore, 1), some (.iload 1, 1), some (.aload 0, 1), some (.getfield 788, 3), none, none, some (.iload 3, 1),
  some (.iconst 3, 1), some (.iadd, 1), some (.iaload, 1), some (.iadd, 1), some (.istore 1, 1), some (.iinc 2 1, 3), none, none,
  some (.goto 4, 3), none, none, some (.iload 1, 1), some (.ireturn, 1)]
def xg195 : List (Option (Instr × Nat)) := [some (.aload 0, 1), some (.iload 1, 1), some (.iconst 4, 1), some (.invokevirtual 175, 3), none, none, some (.iconst 1, 1), some (.if_icmp .ne 11, 3),
  none, none, some (.return_, 1), some (.aload 0, 1), some (.iload 1, 1), some (.invokevirtual 193, 3), none, none,
  some (.lstore 3, 1), some (.aload 0, 1), some (.iload 1, 1), some (.iconst 0, 1), some (.invokevirtual 175, 3), none, none, some (.lload 3, 1),
  some (.ldc2_w 0, 1), some (.lcmp, 1), some (.ifCond .ge 33, 3), none, none, some (.iconst (-1), 1), some (.goto 44, 3), none,
  none, some (.lload 3, 1), some (.ldc2_w 0, 1), some (.lcmp, 1), some (.ifCond .le 43, 3), none, none, some (.iconst 1, 1),
  some (.goto 44, 3), none, none, some (.iconst 0, 1), some (.iadd, 1), some (.istore 5, 2), none, some (.aload 0, 1),
  some (.iload 5, 2), none, some (.invokevirtual 174, 3), none, none, some (.ifCond .eq 67, 3), none, none,
  some (.iload 5, 2), none, some (.aload 0, 1), some (.iload 1, 1), some (.iconst 0, 1), some (.invokevirtual 175, 3), none, none,
  some (.if_icmp .ne 68, 3), none, none, some (.return_, 1), some (.aload 0, 1), some (.getfield 788, 3), none, none,
  some (.iconst 10, 2), none, some (.iconst 6, 2), none, some (.iload 1, 1), some (.imul, 1), some (.iadd, 1), some (.iload 5, 2),
  none, some (.iastore, 1), some (.iconst 0, 1), some (.istore 6, 2), none, some (.iload 6, 2), none, some (.iconst 2, 1),
  some (.if_icmp .ge 150, 3), none, none, some (.aload 0, 1), some (.iload 6, 2), none, some (.invokevirtual 176, 3), none,
  none, some (.iload 1, 1), some (.if_icmp .eq 104, 3), none, none, some (.goto 144, 3), none, none,
  some (.aload 0, 1), some (.iload 6, 2), none, some (.invokevirtual 178, 3), none, none, some (.iload 2, 1), some (.iadd, 1),
  some (.istore 7, 2), none, some (.aload 0, 1), some (.getfield 788, 3), none, none, some (.iconst 46, 2), none,
  some (.iconst 3, 1), some (.iload 6, 2), none, some (.imul, 1), some (.iadd, 1), some (.iconst 2, 1), some (.iadd, 1), some (.iload 7, 2),
  none, some (.iconst 999, 3), none, none, some (.if_icmp .le 141, 3), none, none, some (.iconst 999, 3),
  none, none, some (.goto 143, 3), none, none, some (.iload 7, 2), none, some (.iastore, 1),
  some (.iinc 6 1, 3), none, none, some (.goto 85, 3), none, none, some (.return_, 1)]
def xg196 : List (Option (Instr × Nat)) := [some (.iconst 0, 1), some (.istore 2, 1), some (.iconst 0, 1), some (.istore 3, 1), some (.iload 3, 1), some (.iconst 2, 1), some (.if_icmp .ge 48, 3), none,
  none, some (.iload 1, 1), some (.aload 0, 1), some (.getfield 791, 3), none, none, some (.if_icmp .eq 48, 3), none,
  none, some (.iload 2, 1), some (.aload 0, 1), some (.iload 3, 1), some (.invokevirtual 176, 3), none, none, some (.iload 1, 1),
  some (.if_icmp .ne 35, 3), none, none, some (.aload 0, 1), some (.iload 3, 1), some (.invokevirtual 179, 3), none, none,
  some (.ifCond .eq 39, 3), none, none, some (.iconst 1, 1), some (.goto 40, 3), none, none, some (.iconst 0, 1),
  some (.iadd, 1), some (.istore 2, 1), some (.iinc 3 1, 3), none, none, some (.goto 4, 3), none, none,
  some (.iload 2, 1), some (.ireturn, 1)]
def xg197 : List (Option (Instr × Nat)) := [some (.iconst 10, 2), none, some (.iconst 6, 2), none, some (.iload 1, 1), some (.imul, 1), some (.iadd, 1), some (.istore 3, 1),
  some (.aload 0, 1), some (.getfield 788, 3), none, none, some (.iload 3, 1), some (.iaload, 1), some (.aload 0, 1), some (.getfield 788, 3),
  none, none, some (.iload 3, 1), some (.iconst 1, 1), some (.iadd, 1), some (.iaload, 1), some (.if_icmp .ne 38, 3), none,
  none, some (.aload 0, 1), some (.getfield 788, 3), none, none, some (.iload 3, 1), some (.iconst 3, 1), some (.iadd, 1),
  some (.iaload, 1), some (.iconst 4, 1), some (.isub, 1), some (.goto 69, 3), none, none, some (.aload 0, 1), some (.getfield 788, 3),
  none, none, some (.iload 3, 1), some (.iconst 3, 1), some (.iadd, 1), some (.iaload, 1), some (.iload 2, 1), some (.aload 0, 1),
  some (.iload 1, 1), some (.invokevirtual 196, 3), none, none, some (.imul, 1), some (.aload 0, 1), some (.getfield 788, 3), none,
  none, some (.iconst 100, 2), none, some (.aload 0, 1), some (.getfield 788, 3), none, none, some (.iload 3, 1),
  some (.iaload, 1), some (.iadd, 1), some (.iaload, 1), some (.imul, 1), some (.iadd, 1), some (.istore 4, 2), none, some (.aload 0, 1),
  some (.getfield 788, 3), none, none, some (.iload 3, 1), some (.iconst 3, 1), some (.iadd, 1), some (.iload 4, 2), none,
  some (.ifCond .ge 87, 3), none, none, some (.iconst 0, 1), some (.goto 101, 3), none, none, some (.iload 4, 2),
  none, some (.iconst 99, 2), none, some (.if_icmp .le 99, 3), none, none, some (.iconst 99, 2), none,
  some (.goto 101, 3), none, none, some (.iload 4, 2), none, some (.iastore, 1), some (.aload 0, 1), some (.getfield 788, 3),
  none, none, some (.iload 3, 1), some (.iconst 3, 1), some (.iadd, 1), some (.iaload, 1), some (.iconst 60, 2), none,
  some (.if_icmp .lt 127, 3), none, none, some (.aload 0, 1), some (.getfield 788, 3), none, none, some (.iload 3, 1),
  some (.iconst 4, 1), some (.iadd, 1), some (.iaload, 1), some (.iconst 1, 1), some (.if_icmp .ne 128, 3), none, none, some (.return_, 1),
  some (.aload 0, 1), some (.getfield 788, 3), none, none, some (.iload 3, 1), some (.iconst 4, 1), some (.iadd, 1), some (.iconst 1, 1),
  some (.iastore, 1), some (.aload 0, 1), some (.dup, 1), some (.getfield 793, 3), none, none, some (.iconst 1, 1), some (.iadd, 1),
  some (.putfield 793, 3), none, none, some (.return_, 1)]
def xg198 : List (Option (Instr × Nat)) := [some (.iconst 10, 2), none, some (.iconst 6, 2), none, some (.iload 1, 1), some (.imul, 1), some (.iadd, 1), some (.istore 2, 1),
  some (.aload 0, 1), some (.getfield 788, 3), none, none, some (.iload 2, 1), some (.aload 0, 1), some (.getfield 788, 3), none,
  none, some (.iload 2, 1), some (.iconst 1, 1), some (.iadd, 1), some (.iaload, 1), some (.iastore, 1), some (.aload 0, 1), some (.getfield 788, 3),
  none, none, some (.iload 2, 1), some (.iconst 3, 1), some (.iadd, 1), some (.iconst 0, 1), some (.iastore, 1), some (.aload 0, 1),
  some (.getfield 788, 3), none, none, some (.iload 2, 1), some (.iconst 4, 1), some (.iadd, 1), some (.iconst 0, 1), some (.iastore, 1),
  some (.return_, 1)]
def xg199 : List (Option (Instr × Nat)) := [some (.aload 0, 1), some (.invokevirtual 189, 3), none, none, some (.ifCond .eq 11, 3), none, none, some (.iconst 2, 1),
  some (.goto 12, 3), none, none, some (.iconst 1, 1), some (.istore 1, 1), some (.aload 0, 1), some (.invokevirtual 194, 3), none,
  none, some (.istore 2, 1), some (.iconst 0, 1), some (.istore 3, 1), some (.iload 3, 1), some (.aload 0, 1), some (.getfield 788, 3), none,
  none, some (.iconst 2, 1), some (.iaload, 1), some (.if_icmp .ge 42, 3), none, none, some (.aload 0, 1), some (.iload 3, 1),
  some (.iload 1, 1), some (.invokevirtual 195, 3), none, none, some (.iinc 3 1, 3), none, none, some (.goto 20, 3),
  none, none, some (.iconst 0, 1), some (.istore 3, 1), some (.iload 3, 1), some (.aload 0, 1), some (.getfield 788, 3), none,
  none, some (.iconst 2, 1), some (.iaload, 1), some (.if_icmp .ge 66, 3), none, none, some (.aload 0, 1), some (.iload 3, 1),
  some (.iload 1, 1), some (.invokevirtual 197, 3), none, none, some (.iinc 3 1, 3), none, none, some (.goto 44, 3),
  none, none, some (.aload 0, 1), some (.getfield 788, 3), none, none, some (.iconst 5, 1), some (.dup2, 1),
  some (.iaload, 1), some (.iconst 1, 1), some (.iadd, 1), some (.iastore, 1), some (.aload 0, 1), some (.getfield 788, 3), none, none,
  some (.iconst 5, 1), some (.iaload, 1), some (.iconst 24, 2), none, some (.if_icmp .ge 89, 3), none, none, some (.iload 2, 1),
  some (.ireturn, 1), some (.aload 0, 1), some (.getfield 788, 3), none, none, some (.iconst 5, 1), some (.iconst 0, 1), some (.iastore, 1),
  some (.aload 0, 1), some (.getfield 788, 3), none, none, some (.iconst 6, 2), none, some (.dup2, 1), some (.iaload, 1),
  some (.iconst 1, 1), some (.iadd, 1), some (.iastore, 1), some (.iconst 0, 1), some (.istore 3, 1), some (.iload 3, 1), some (.aload 0, 1), some (.getfield 788, 3),
  none, none, some (.iconst 2, 1), some (.iaload, 1), some (.if_icmp .ge 130, 3), none, none, some (.aload 0, 1),
  some (.iload 3, 1), some (.invokevirtual 198, 3), none, none, some (.iinc 3 1, 3), none, none, some (.goto 109, 3),
  none, none, some (.iload 2, 1), some (.ireturn, 1)]
def xg200 : List (Option (Instr × Nat)) := [some (.iconst 0, 1), some (.istore 2, 1), some (.iconst 0, 1), some (.istore 3, 1), some (.iload 3, 1), some (.iload 1, 1), some (.if_icmp .ge 22, 3), none,
  none, some (.iload 2, 1), some (.aload 0, 1), some (.invokevirtual 199, 3), none, none, some (.iadd, 1), some (.istore 2, 1),
  some (.iinc 3 1, 3), none, none, some (.goto 4, 3), none, none, some (.iload 2, 1), some (.ireturn, 1)]
def xg201 : List (Option (Instr × Nat)) := [some (.aload 0, 1), some (.getfield 795, 3), none, none, some (.iconst 20, 2), none, some (.if_icmp .ne 50, 3), none,
  none, some (.iconst 52, 2), none, some (.istore 1, 1), some (.iload 1, 1), some (.iconst 1040, 3), none, none,
  some (.if_icmp .ge 40, 3), none, none, some (.aload 0, 1), some (.getfield 794, 3), none, none, some (.iload 1, 1),
  some (.iconst 52, 2), none, some (.isub, 1), some (.aload 0, 1), some (.getfield 794, 3), none, none, some (.iload 1, 1),
  some (.iaload, 1), some (.iastore, 1), some (.iinc 1 1, 3), none, none, some (.goto 12, 3), none, none,
  some (.aload 0, 1), some (.dup, 1), some (.getfield 795, 3), none, none, some (.iconst 1, 1), some (.isub, 1), some (.putfield 795, 3),
  none, none, some (.iconst 0, 1), some (.istore 1, 1), some (.iload 1, 1), some (.iconst 52, 2), none, some (.if_icmp .ge 84, 3),
  none, none, some (.aload 0, 1), some (.getfield 794, 3), none, none, some (.iconst 52, 2), none,
  some (.aload 0, 1), some (.getfield 795, 3), none, none, some (.imul, 1), some (.iload 1, 1), some (.iadd, 1), some (.aload 0, 1),
  some (.getfield 788, 3), none, none, some (.iload 1, 1), some (.iaload, 1), some (.iastore, 1), some (.iinc 1 1, 3), none,
  none, some (.goto 52, 3), none, none, some (.aload 0, 1), some (.dup, 1), some (.getfield 795, 3), none,
  none, some (.iconst 1, 1), some (.iadd, 1), some (.putfield 795, 3), none, none, some (.return_, 1)]
def xg202 : List (Option (Instr × Nat)) := [some (.aload 0, 1), some (.getfield 795, 3), none, none, some (.ifCond .ne 9, 3), none, none, some (.iconst (-1), 1),
  some (.ireturn, 1), some (.aload 0, 1), some (.dup, 1), some (.getfield 795, 3), none, none, some (.iconst 1, 1), some (.isub, 1),
  some (.putfield 795, 3), none, none, some (.iconst 0, 1), some (.istore 1, 1), some (.iload 1, 1), some (.iconst 52, 2), none,
  some (.if_icmp .ge 53, 3), none, none, some (.aload 0, 1), some (.getfield 788, 3), none, none, some (.iload 1, 1),
  some (.aload 0, 1), some (.getfield 794, 3), none, none, some (.iconst 52, 2), none, some (.aload 0, 1), some (.getfield 795, 3),
  none, none, some (.imul, 1), some (.iload 1, 1), some (.iadd, 1), some (.iaload, 1), some (.iastore, 1), some (.iinc 1 1, 3),
  none, none, some (.goto 21, 3), none, none, some (.aload 0, 1), some (.getfield 795, 3), none,
  none, some (.ireturn, 1)]
def xg203 : List (Option (Instr × Nat)) := [some (.aload 0, 1), some (.invokevirtual 172, 3), none, none, some (.ifCond .eq 31, 3), none, none, some (.aload 0, 1),
  some (.getfield 788, 3), none, none, some (.iconst 5, 1), some (.iaload, 1), some (.iconst 23, 2), none, some (.if_icmp .ne 33, 3),
  none, none, some (.aload 0, 1), some (.getfield 788, 3), none, none, some (.iconst 6, 2), none,
  some (.iaload, 1), some (.iconst 999, 3), none, none, some (.if_icmp .ne 33, 3), none, none, some (.iconst (-1), 1),
  some (.ireturn, 1), some (.aload 0, 1), some (.invokevirtual 201, 3), none, none, some (.aload 0, 1), some (.invokevirtual 199, 3), none,
  none, some (.ireturn, 1)]
def xg204 : List (Option (Instr × Nat)) := [some (.aload 0, 1), some (.getfield 788, 3), none, none, some (.iconst 46, 2), none, some (.iconst 3, 1), some (.iload 1, 1),
  some (.imul, 1), some (.iadd, 1), some (.iload 2, 1), some (.iastore, 1), some (.return_, 1)]
def xg205 : List (Option (Instr × Nat)) := [some (.aload 0, 1), some (.getfield 788, 3), none, none, some (.iconst 46, 2), none, some (.iconst 3, 1), some (.iload 1, 1),
  some (.imul, 1), some (.iadd, 1), some (.iconst (-1), 1), some (.iastore, 1), some (.aload 0, 1), some (.getfield 788, 3), none, none,
  some (.iconst 46, 2), none, some (.iconst 3, 1), some (.iload 1, 1), some (.imul, 1), some (.iadd, 1), some (.iconst 1, 1), some (.iadd, 1),
  some (.iload 2, 1), some (.iastore, 1), some (.return_, 1)]
def xg206 : List (Option (Instr × Nat)) := [some (.aload 0, 1), some (.iload 1, 1), some (.invokevirtual 176, 3), none, none, some (.iload 2, 1), some (.if_icmp .eq 35, 3), none,
  none, some (.aload 0, 1), some (.iload 2, 1), some (.invokevirtual 180, 3), none, none, some (.ifCond .eq 35, 3), none,
  none, some (.aload 0, 1), some (.iload 1, 1), some (.invokevirtual 177, 3), none, none, some (.aload 0, 1), some (.iload 2, 1),
  some (.iconst 0, 1), some (.invokevirtual 175, 3), none, none, some (.if_icmp .ne 35, 3), none, none, some (.iconst 1, 1),
  some (.goto 36, 3), none, none, some (.iconst 0, 1), some (.ireturn, 1)]
def xg207 : List (Option (Instr × Nat)) := [some (.iload 1, 1), some (.i2l, 1), some (.ldc2_w 0, 1), some (.ldc2_w 1, 1), some (.invokestatic 126, 3), none, none, some (.ifCond .eq 27, 3),
  none, none, some (.aload 0, 1), some (.iload 2, 1), some (.invokevirtual 173, 3), none, none, some (.ifCond .eq 27, 3),
  none, none, some (.aload 0, 1), some (.iload 1, 1), some (.iload 2, 1), some (.invokevirtual 206, 3), none, none,
  some (.ifCond .ne 30, 3), none, none, some (.iconst (-2), 2), none, some (.ireturn, 1), some (.aload 0, 1), some (.invokevirtual 201, 3),
  none, none, some (.aload 0, 1), some (.iload 1, 1), some (.invokevirtual 176, 3), none, none, some (.istore 3, 1),
  some (.aload 0, 1), some (.iload 1, 1), some (.iload 2, 1), some (.invokevirtual 204, 3), none, none, some (.iload 3, 1), some (.ireturn, 1)]
def xg208 : List (Option (Instr × Nat)) := [some (.aload 0, 1), some (.invokevirtual 172, 3), none, none, some (.ifCond .eq 25, 3), none, none, some (.iload 1, 1),
  some (.i2l, 1), some (.ldc2_w 0, 1), some (.ldc2_w 1, 1), some (.invokestatic 126, 3), none, none, some (.ifCond .eq 25, 3), none,
  none, some (.aload 0, 1), some (.iload 1, 1), some (.invokevirtual 176, 3), none, none, some (.ifCond .ge 27, 3), none,
  none, some (.iconst (-1), 1), some (.ireturn, 1), some (.aload 0, 1), some (.invokevirtual 201, 3), none, none, some (.aload 0, 1),
  some (.iload 1, 1), some (.aload 0, 1), some (.iload 1, 1), some (.invokevirtual 177, 3), none, none, some (.invokevirtual 205, 3), none,
  none, some (.aload 0, 1), some (.iload 1, 1), some (.invokevirtual 177, 3), none, none, some (.ireturn, 1)]
def xg209 : List (Option (Instr × Nat)) := [some (.iconst 0, 1), some (.istore 1, 1), some (.iconst 0, 1), some (.istore 2, 1), some (.iload 2, 1), some (.aload 0, 1), some (.getfield 788, 3), none,
  none, some (.iconst 2, 1), some (.iaload, 1), some (.if_icmp .ge 29, 3), none, none, some (.iload 1, 1), some (.aload 0, 1),
  some (.iload 2, 1), some (.iconst 5, 1), some (.invokevirtual 175, 3), none, none, some (.iadd, 1), some (.istore 1, 1), some (.iinc 2 1, 3),
  none, none, some (.goto 4, 3), none, none, some (.iload 1, 1), some (.ireturn, 1)]
def xg210 : List (Option (Instr × Nat)) := [some (.aload 0, 1), some (.invokevirtual 172, 3), none, none, some (.ifCond .eq 42, 3), none, none, some (.iload 1, 1),
  some (.i2l, 1), some (.ldc2_w 0, 1), some (.ldc2_w 1, 1), some (.invokestatic 126, 3), none, none, some (.ifCond .eq 42, 3), none,
  none, some (.aload 0, 1), some (.iload 1, 1), some (.invokevirtual 178, 3), none, none, some (.ifCond .eq 42, 3), none,
  none, some (.aload 0, 1), some (.invokevirtual 209, 3), none, none, some (.aload 0, 1), some (.getfield 788, 3), none,
  none, some (.iconst 7, 2), none, some (.iaload, 1), some (.isub, 1), some (.iconst 10, 2), none, some (.if_icmp .ge 44, 3),
  none, none, some (.iconst (-1), 1), some (.ireturn, 1), some (.aload 0, 1), some (.invokevirtual 201, 3), none, none,
  some (.aload 0, 1), some (.getfield 788, 3), none, none, some (.iconst 46, 2), none, some (.iconst 3, 1), some (.iload 1, 1),
  some (.imul, 1), some (.iadd, 1), some (.iconst 2, 1), some (.iadd, 1), some (.iconst 0, 1), some (.iastore, 1), some (.aload 0, 1), some (.getfield 788, 3),
  none, none, some (.iconst 7, 2), none, some (.dup2, 1), some (.iaload, 1), some (.iconst 10, 2), none,
  some (.iadd, 1), some (.iastore, 1), some (.aload 0, 1), some (.invokevirtual 209, 3), none, none, some (.aload 0, 1), some (.getfield 788, 3),
  none, none, some (.iconst 7, 2), none, some (.iaload, 1), some (.isub, 1), some (.ireturn, 1)]
def xg211 : List (Option (Instr × Nat)) := [some (.iconst 0, 1), some (.istore 1, 1), some (.iload 1, 1), some (.iconst 52, 2), none, some (.if_icmp .ge 26, 3), none, none,
  some (.aload 0, 1), some (.getfield 796, 3), none, none, some (.iload 1, 1), some (.aload 0, 1), some (.getfield 788, 3), none,
  none, some (.iload 1, 1), some (.iaload, 1), some (.iastore, 1), some (.iinc 1 1, 3), none, none, some (.goto 2, 3),
  none, none, some (.return_, 1)]
def xg212 : List (Option (Instr × Nat)) := [some (.iconst 0, 1), some (.istore 1, 1), some (.iload 1, 1), some (.iconst 52, 2), none, some (.if_icmp .ge 26, 3), none, none,
  some (.aload 0, 1), some (.getfield 788, 3), none, none, some (.iload 1, 1), some (.aload 0, 1), some (.getfield 796, 3), none,
  none, some (.iload 1, 1), some (.iaload, 1), some (.iastore, 1), some (.iinc 1 1, 3), none, none, some (.goto 2, 3),
  none, none, some (.return_, 1)]
def xg213 : List (Option (Instr × Nat)) := [some (.aload 0, 1), some (.iload 1, 1), some (.invokevirtual 173, 3), none, none, some (.ifCond .eq 32, 3), none, none,
  some (.iload 2, 1), some (.i2l, 1), some (.ldc2_w 0, 1), some (.ldc2_w 96, 3), none, none, some (.invokestatic 126, 3), none,
  none, some (.ifCond .eq 32, 3), none, none, some (.iload 3, 1), some (.i2l, 1), some (.ldc2_w 0, 1), some (.ldc2_w 2, 3),
  none, none, some (.invokestatic 126, 3), none, none, some (.ifCond .ne 34, 3), none, none,
  some (.iconst (-1), 1), some (.ireturn, 1), some (.aload 0, 1), some (.invokevirtual 211, 3), none, none, some (.aload 0, 1), some (.iload 2, 1),
  some (.invokevirtual 200, 3), none, none, some (.pop, 1), some (.aload 0, 1), some (.iload 1, 1), some (.iload 3, 1), some (.ifCond .ne 54, 3),
  none, none, some (.iconst 0, 1), some (.goto 64, 3), none, none, some (.iload 3, 1), some (.iconst 1, 1),
  some (.if_icmp .ne 63, 3), none, none, some (.iconst 3, 1), some (.goto 64, 3), none, none, some (.iconst 5, 1),
  some (.invokevirtual 175, 3), none, none, some (.istore 4, 2), none, some (.aload 0, 1), some (.invokevirtual 212, 3), none,
  none, some (.iload 4, 2), none, some (.ireturn, 1)]
def xg214 : List (Option (Instr × Nat)) := [some (.iconst 0, 1), some (.istore 2, 1), some (.iload 2, 1), some (.iconst 2, 1), some (.if_icmp .ge 32, 3), none, none, some (.iload 1, 1),
  some (.ifCond .ge 20, 3), none, none, some (.aload 0, 1), some (.iload 2, 1), some (.iconst 0, 1), some (.invokevirtual 205, 3), none,
  none, some (.goto 26, 3), none, none, some (.aload 0, 1), some (.iload 2, 1), some (.iload 1, 1), some (.invokevirtual 204, 3),
  none, none, some (.iinc 2 1, 3), none, none, some (.goto 2, 3), none, none,
  some (.return_, 1)]
def xg215 : List (Option (Instr × Nat)) := [some (.aload 0, 1), some (.invokevirtual 211, 3), none, none, some (.aload 0, 1), some (.iload 1, 1), some (.invokevirtual 214, 3), none,
  none, some (.aload 0, 1), some (.iload 2, 1), some (.invokevirtual 200, 3), none, none, some (.istore 3, 1), some (.aload 0, 1),
  some (.invokevirtual 212, 3), none, none, some (.iload 3, 1), some (.ireturn, 1)]
def xg216 : List (Option (Instr × Nat)) := [some (.aload 0, 1), some (.iconst (-1), 1), some (.putfield 797, 3), none, none, some (.aload 0, 1), some (.aload 0, 1), some (.iconst (-1), 1),
  some (.iload 1, 1), some (.invokevirtual 215, 3), none, none, some (.putfield 798, 3), none, none, some (.iconst 0, 1),
  some (.istore 3, 1), some (.iload 3, 1), some (.aload 0, 1), some (.getfield 788, 3), none, none, some (.iconst 2, 1), some (.iaload, 1),
  some (.if_icmp .ge 80, 3), none, none, some (.iload 3, 1), some (.iload 2, 1), some (.if_icmp .eq 74, 3), none, none,
  some (.aload 0, 1), some (.iload 3, 1), some (.invokevirtual 180, 3), none, none, some (.ifCond .ne 43, 3), none, none,
  some (.goto 74, 3), none, none, some (.aload 0, 1), some (.iload 3, 1), some (.iload 1, 1), some (.invokevirtual 215, 3), none,
  none, some (.istore 4, 2), none, some (.iload 4, 2), none, some (.aload 0, 1), some (.getfield 798, 3), none,
  none, some (.if_icmp .gt 63, 3), none, none, some (.goto 74, 3), none, none, some (.aload 0, 1),
  some (.iload 3, 1), some (.putfield 797, 3), none, none, some (.aload 0, 1), some (.iload 4, 2), none, some (.putfield 798, 3),
  none, none, some (.iinc 3 1, 3), none, none, some (.goto 17, 3), none, none,
  some (.return_, 1)]
def xg217 : List (Option (Instr × Nat)) := [some (.aload 0, 1), some (.invokevirtual 172, 3), none, none, some (.ifCond .eq 29, 3), none, none, some (.iload 1, 1),
  some (.i2l, 1), some (.ldc2_w 1, 1), some (.ldc2_w 24, 3), none, none, some (.invokestatic 126, 3), none, none,
  some (.ifCond .eq 29, 3), none, none, some (.iload 2, 1), some (.i2l, 1), some (.ldc2_w 0, 1), some (.ldc2_w 1, 1), some (.invokestatic 126, 3),
  none, none, some (.ifCond .ne 32, 3), none, none, some (.iconst (-2), 2), none, some (.ireturn, 1),
  some (.aload 0, 1), some (.iload 1, 1), some (.iconst (-1), 1), some (.invokevirtual 216, 3), none, none, some (.iload 2, 1), some (.ifCond .ne 49, 3),
  none, none, some (.aload 0, 1), some (.getfield 797, 3), none, none, some (.goto 53, 3), none,
  none, some (.aload 0, 1), some (.getfield 798, 3), none, none, some (.ireturn, 1)]
def xg218 : List (Option (Instr × Nat)) := [some (.aload 0, 1), some (.iload 1, 1), some (.invokevirtual 173, 3), none, none, some (.ifCond .eq 20, 3), none, none,
  some (.iload 2, 1), some (.i2l, 1), some (.ldc2_w 1, 1), some (.ldc2_w 24, 3), none, none, some (.invokestatic 126, 3), none,
  none, some (.ifCond .ne 22, 3), none, none, some (.iconst (-1), 1), some (.ireturn, 1), some (.aload 0, 1), some (.iload 2, 1),
  some (.iconst (-1), 1), some (.invokevirtual 216, 3), none, none, some (.aload 0, 1), some (.getfield 798, 3), none, none,
  some (.istore 3, 1), some (.aload 0, 1), some (.iload 2, 1), some (.iload 1, 1), some (.invokevirtual 216, 3), none, none, some (.iload 3, 1),
  some (.aload 0, 1), some (.getfield 798, 3), none, none, some (.isub, 1), some (.ireturn, 1)]
def xg219 : List (Option (Instr × Nat)) := [some (.aload 0, 1), some (.invokevirtual 172, 3), none, none, some (.ifCond .eq 19, 3), none, none, some (.iload 1, 1),
  some (.i2l, 1), some (.ldc2_w 1, 1), some (.ldc2_w 24, 3), none, none, some (.invokestatic 126, 3), none, none,
  some (.ifCond .ne 21, 3), none, none, some (.iconst (-1), 1), some (.ireturn, 1), some (.iconst 0, 1), some (.istore 2, 1), some (.iconst 0, 1),
  some (.istore 3, 1), some (.iconst 0, 1), some (.istore 4, 2), none, some (.aload 0, 1), some (.iconst (-1), 1), some (.iload 1, 1), some (.invokevirtual 215, 3),
  none, none, some (.istore 5, 2), none, some (.iconst 0, 1), some (.istore 6, 2), none, some (.iload 6, 2),
  none, some (.aload 0, 1), some (.getfield 788, 3), none, none, some (.iconst 2, 1), some (.iaload, 1), some (.if_icmp .ge 125, 3),
  none, none, some (.aload 0, 1), some (.iload 6, 2), none, some (.invokevirtual 180, 3), none, none,
  some (.ifCond .ne 62, 3), none, none, some (.goto 119, 3), none, none, some (.aload 0, 1), some (.iload 6, 2),
  none, some (.iload 1, 1), some (.invokevirtual 215, 3), none, none, some (.iload 5, 2), none, some (.isub, 1),
  some (.istore 7, 2), none, some (.iload 2, 1), some (.ifCond .eq 84, 3), none, none, some (.iload 7, 2), none,
  some (.iload 3, 1), some (.if_icmp .le 100, 3), none, none, some (.iload 3, 1), some (.istore 4, 2), none, some (.iload 7, 2),
  none, some (.istore 3, 1), some (.iload 2, 1), some (.ifCond .ne 116, 3), none, none, some (.iconst 0, 1), some (.istore 4, 2),
  none, some (.goto 116, 3), none, none, some (.iload 2, 1), some (.iconst 1, 1), some (.if_icmp .eq 112, 3), none,
  none, some (.iload 7, 2), none, some (.iload 4, 2), none, some (.if_icmp .le 116, 3), none, none,
  some (.iload 7, 2), none, some (.istore 4, 2), none, some (.iinc 2 1, 3), none, none, some (.iinc 6 1, 3),
  none, none, some (.goto 39, 3), none, none, some (.iload 2, 1), some (.iconst 2, 1), some (.if_icmp .lt 135, 3),
  none, none, some (.iload 4, 2), none, some (.ifCond .ge 139, 3), none, none, some (.iconst 0, 1),
  some (.goto 141, 3), none, none, some (.iload 4, 2), none, some (.ireturn, 1)]
def xg220 : List (Option (Instr × Nat)) := [some (.iconst 1, 1), some (.istore 2, 1), some (.iconst 0, 1), some (.istore 3, 1), some (.iload 3, 1), some (.iload 1, 1), some (.if_icmp .ge 19, 3), none,
  none, some (.iload 2, 1), some (.iload 0, 1), some (.imul, 1), some (.istore 2, 1), some (.iinc 3 1, 3), none, none,
  some (.goto 4, 3), none, none, some (.iload 2, 1), some (.ireturn, 1)]
def xg221 : List (Option (Instr × Nat)) := [some (.iload 1, 1), some (.aload 0, 1), some (.getfield 788, 3), none, none, some (.iconst 2, 1), some (.iaload, 1), some (.iconst 1, 1),
  some (.iadd, 1), some (.iload 2, 1), some (.iconst 1, 1), some (.isub, 1), some (.iload 3, 1), some (.isub, 1), some (.invokestatic 220, 3), none,
  none, some (.idiv, 1), some (.aload 0, 1), some (.getfield 788, 3), none, none, some (.iconst 2, 1), some (.iaload, 1),
  some (.iconst 1, 1), some (.iadd, 1), some (.irem, 1), some (.iconst 1, 1), some (.isub, 1), some (.ireturn, 1)]
def xg222 : List (Option (Instr × Nat)) := [some (.aload 0, 1), some (.iconst 0, 1), some (.putfield 799, 3), none, none, some (.aload 0, 1), some (.iconst 0, 1), some (.putfield 800, 3),
  none, none, some (.aload 0, 1), some (.invokevirtual 211, 3), none, none, some (.iconst 0, 1), some (.istore 3, 1),
  some (.iload 3, 1), some (.iload 2, 1), some (.if_icmp .ge 88, 3), none, none, some (.aload 0, 1), some (.iload 1, 1), some (.iload 2, 1),
  some (.iload 3, 1), some (.invokevirtual 221, 3), none, none, some (.istore 4, 2), none, some (.iconst 0, 1), some (.istore 5, 2),
  none, some (.iload 5, 2), none, some (.iconst 2, 1), some (.if_icmp .ge 69, 3), none, none, some (.iload 4, 2),
  none, some (.ifCond .lt 69, 3), none, none, some (.aload 0, 1), some (.iload 5, 2), none, some (.iload 4, 2),
  none, some (.invokevirtual 206, 3), none, none, some (.ifCond .eq 63, 3), none, none, some (.aload 0, 1),
  some (.iload 5, 2), none, some (.iload 4, 2), none, some (.invokevirtual 204, 3), none, none, some (.iinc 5 1, 3),
  none, none, some (.goto 33, 3), none, none, some (.aload 0, 1), some (.dup, 1), some (.getfield 799, 3),
  none, none, some (.aload 0, 1), some (.invokevirtual 199, 3), none, none, some (.iadd, 1), some (.putfield 799, 3),
  none, none, some (.iinc 3 1, 3), none, none, some (.goto 16, 3), none, none,
  some (.iconst 0, 1), some (.istore 3, 1), some (.iload 3, 1), some (.aload 0, 1), some (.getfield 788, 3), none, none, some (.iconst 2, 1),
  some (.iaload, 1), some (.if_icmp .ge 121, 3), none, none, some (.aload 0, 1), some (.dup, 1), some (.getfield 800, 3), none,
  none, some (.aload 0, 1), some (.iload 3, 1), some (.iconst 3, 1), some (.invokevirtual 175, 3), none, none, some (.iadd, 1),
  some (.putfield 800, 3), none, none, some (.iinc 3 1, 3), none, none, some (.goto 90, 3), none,
  none, some (.aload 0, 1), some (.invokevirtual 212, 3), none, none, some (.return_, 1)]
def xg223 : List (Option (Instr × Nat)) := [some (.aload 0, 1), some (.invokevirtual 172, 3), none, none, some (.ifCond .eq 31, 3), none, none, some (.iload 1, 1),
  some (.i2l, 1), some (.ldc2_w 1, 1), some (.ldc2_w 4, 3), none, none, some (.invokestatic 126, 3), none, none,
  some (.ifCond .eq 31, 3), none, none, some (.iload 2, 1), some (.i2l, 1), some (.ldc2_w 0, 1), some (.ldc2_w 4, 3), none,
  none, some (.invokestatic 126, 3), none, none, some (.ifCond .ne 34, 3), none, none, some (.iconst (-3), 2),
  none, some (.ireturn, 1), some (.iconst (-1), 1), some (.istore 3, 1), some (.iconst 0, 1), some (.istore 4, 2), none, some (.iconst 0, 1),
  some (.istore 5, 2), none, some (.iconst 0, 1), some (.istore 6, 2), none, some (.iload 6, 2), none, some (.aload 0, 1),
  some (.getfield 788, 3), none, none, some (.iconst 2, 1), some (.iaload, 1), some (.iconst 1, 1), some (.iadd, 1), some (.iload 1, 1),
  some (.invokestatic 220, 3), none, none, some (.if_icmp .ge 124, 3), none, none, some (.aload 0, 1), some (.iload 6, 2),
  none, some (.iload 1, 1), some (.invokevirtual 222, 3), none, none, some (.iload 3, 1), some (.ifCond .lt 103, 3), none,
  none, some (.aload 0, 1), some (.getfield 799, 3), none, none, some (.iload 4, 2), none, some (.if_icmp .lt 118, 3),
  none, none, some (.aload 0, 1), some (.getfield 799, 3), none, none, some (.iload 4, 2), none,
  some (.if_icmp .ne 103, 3), none, none, some (.aload 0, 1), some (.getfield 800, 3), none, none, some (.iload 5, 2),
  none, some (.if_icmp .lt 103, 3), none, none, some (.goto 118, 3), none, none, some (.iload 6, 2),
  none, some (.istore 3, 1), some (.aload 0, 1), some (.getfield 799, 3), none, none, some (.istore 4, 2), none,
  some (.aload 0, 1), some (.getfield 800, 3), none, none, some (.istore 5, 2), none, some (.iinc 6 1, 3), none,
  none, some (.goto 45, 3), none, none, some (.iload 2, 1), some (.ifCond .ne 133, 3), none, none,
  some (.iload 4, 2), none, some (.goto 152, 3), none, none, some (.iload 2, 1), some (.iload 1, 1), some (.if_icmp .le 143, 3),
  none, none, some (.iconst (-2), 2), none, some (.goto 152, 3), none, none, some (.aload 0, 1),
  some (.iload 3, 1), some (.iload 1, 1), some (.iload 2, 1), some (.iconst 1, 1), some (.isub, 1), some (.invokevirtual 221, 3), none, none,
  some (.ireturn, 1)]
def xg224 : List (Option (Instr × Nat)) := [some (.iload 1, 1), some (.iconst (-1), 1), some (.if_icmp .ne 16, 3), none, none, some (.aload 0, 1), some (.getfield 788, 3), none,
  none, some (.iconst 150, 3), none, none, some (.iconst 0, 1), some (.iastore, 1), some (.iconst 0, 1), some (.ireturn, 1),
  some (.iload 1, 1), some (.i2l, 1), some (.ldc2_w 0, 1), some (.ldc2_w 47, 3), none, none, some (.invokestatic 126, 3), none,
  none, some (.ifCond .eq 61, 3), none, none, some (.aload 0, 1), some (.iload 2, 1), some (.invokevirtual 174, 3), none,
  none, some (.ifCond .eq 61, 3), none, none, some (.iload 3, 1), some (.i2l, 1), some (.ldc2_w 0, 1), some (.ldc2_w 2, 3),
  none, none, some (.invokestatic 126, 3), none, none, some (.ifCond .eq 61, 3), none, none,
  some (.aload 0, 1), some (.getfield 788, 3), none, none, some (.iconst 150, 3), none, none, some (.iaload, 1),
  some (.iconst 10, 2), none, some (.if_icmp .ne 64, 3), none, none, some (.iconst (-2), 2), none, some (.ireturn, 1),
  some (.iconst 110, 2), none, some (.iconst 4, 1), some (.aload 0, 1), some (.getfield 788, 3), none, none, some (.iconst 150, 3),
  none, none, some (.iaload, 1), some (.imul, 1), some (.iadd, 1), some (.istore 5, 2), none, some (.aload 0, 1),
  some (.getfield 788, 3), none, none, some (.iload 5, 2), none, some (.iload 1, 1), some (.iastore, 1), some (.aload 0, 1),
  some (.getfield 788, 3), none, none, some (.iload 5, 2), none, some (.iconst 1, 1), some (.iadd, 1), some (.iload 2, 1),
  some (.iastore, 1), some (.aload 0, 1), some (.getfield 788, 3), none, none, some (.iload 5, 2), none, some (.iconst 2, 1),
  some (.iadd, 1), some (.iload 3, 1), some (.iastore, 1), some (.aload 0, 1), some (.getfield 788, 3), none, none, some (.iload 5, 2),
  none, some (.iconst 3, 1), some (.iadd, 1), some (.iload 4, 2), none, some (.ifCond .eq 124, 3), none, none,
  some (.iconst 1, 1), some (.goto 125, 3), none, none, some (.iconst 0, 1), some (.iastore, 1), some (.aload 0, 1), some (.getfield 788, 3),
  none, none, some (.iconst 150, 3), none, none, some (.dup2, 1), some (.iaload, 1), some (.iconst 1, 1),
  some (.iadd, 1), some (.iastore, 1), some (.aload 0, 1), some (.getfield 788, 3), none, none, some (.iconst 150, 3), none,
  none, some (.iaload, 1), some (.ireturn, 1)]
def xg225 : List (Option (Instr × Nat)) := [some (.aload 0, 1), some (.getfield 788, 3), none, none, some (.iconst 5, 1), some (.iconst 0, 1), some (.iastore, 1), some (.aload 0, 1),
  some (.getfield 788, 3), none, none, some (.iconst 6, 2), none, some (.iconst 0, 1), some (.iastore, 1), some (.iconst 0, 1),
  some (.istore 2, 1), some (.iload 2, 1), some (.aload 0, 1), some (.getfield 788, 3), none, none, some (.iconst 2, 1), some (.iaload, 1),
  some (.if_icmp .ge 53, 3), none, none, some (.aload 0, 1), some (.iload 2, 1), some (.invokevirtual 198, 3), none, none,
  some (.aload 0, 1), some (.getfield 788, 3), none, none, some (.iconst 10, 2), none, some (.iconst 6, 2), none,
  some (.iload 2, 1), some (.imul, 1), some (.iadd, 1), some (.iconst 5, 1), some (.iadd, 1), some (.iconst 0, 1), some (.iastore, 1), some (.iinc 2 1, 3),
  none, none, some (.goto 17, 3), none, none, some (.iconst 0, 1), some (.istore 2, 1), some (.iload 2, 1),
  some (.iconst 2, 1), some (.if_icmp .ge 80, 3), none, none, some (.aload 0, 1), some (.getfield 788, 3), none, none,
  some (.iconst 46, 2), none, some (.iconst 3, 1), some (.iload 2, 1), some (.imul, 1), some (.iadd, 1), some (.iconst 2, 1), some (.iadd, 1),
  some (.iconst 0, 1), some (.iastore, 1), some (.iinc 2 1, 3), none, none, some (.goto 55, 3), none, none,
  some (.aload 0, 1), some (.iload 1, 1), some (.invokevirtual 214, 3), none, none, some (.return_, 1)]
def xg226 : List (Option (Instr × Nat)) := [some (.iconst 0, 1), some (.istore 3, 1), some (.iload 3, 1), some (.aload 0, 1), some (.getfield 788, 3), none, none, some (.iconst 2, 1),
  some (.iaload, 1), some (.if_icmp .ge 39, 3), none, none, some (.aload 0, 1), some (.iload 3, 1), some (.iconst 0, 1), some (.invokevirtual 175, 3),
  none, none, some (.iload 1, 1), some (.if_icmp .ne 33, 3), none, none, some (.aload 0, 1), some (.iload 3, 1),
  some (.invokevirtual 182, 3), none, none, some (.iload 2, 1), some (.if_icmp .ne 33, 3), none, none, some (.iconst 1, 1),
  some (.ireturn, 1), some (.iinc 3 1, 3), none, none, some (.goto 2, 3), none, none, some (.iconst 0, 1),
  some (.ireturn, 1)]
def xg227 : List (Option (Instr × Nat)) := [some (.iconst 0, 1), some (.istore 2, 1), some (.iload 2, 1), some (.aload 0, 1), some (.getfield 788, 3), none, none, some (.iconst 150, 3),
  none, none, some (.iaload, 1), some (.if_icmp .ge 79, 3), none, none, some (.iconst 110, 2), none,
  some (.iconst 4, 1), some (.iload 2, 1), some (.imul, 1), some (.iadd, 1), some (.istore 3, 1), some (.aload 0, 1), some (.getfield 788, 3), none,
  none, some (.iload 3, 1), some (.iaload, 1), some (.iload 1, 1), some (.if_icmp .ne 73, 3), none, none, some (.aload 0, 1),
  some (.aload 0, 1), some (.getfield 788, 3), none, none, some (.iload 3, 1), some (.iconst 1, 1), some (.iadd, 1), some (.iaload, 1),
  some (.aload 0, 1), some (.getfield 788, 3), none, none, some (.iload 3, 1), some (.iconst 2, 1), some (.iadd, 1), some (.iaload, 1),
  some (.invokevirtual 226, 3), none, none, some (.aload 0, 1), some (.getfield 788, 3), none, none, some (.iload 3, 1),
  some (.iconst 3, 1), some (.iadd, 1), some (.iaload, 1), some (.iconst 1, 1), some (.if_icmp .ne 67, 3), none, none, some (.iconst 1, 1),
  some (.goto 68, 3), none, none, some (.iconst 0, 1), some (.if_icmp .eq 73, 3), none, none, some (.iconst 0, 1),
  some (.ireturn, 1), some (.iinc 2 1, 3), none, none, some (.goto 2, 3), none, none, some (.iconst 1, 1),
  some (.ireturn, 1)]
def xg228 : List (Option (Instr × Nat)) := [some (.aload 0, 1), some (.invokevirtual 211, 3), none, none, some (.aload 0, 1), some (.iload 1, 1), some (.invokevirtual 225, 3), none,
  none, some (.aload 0, 1), some (.iconst 0, 1), some (.invokevirtual 227, 3), none, none, some (.istore 2, 1), some (.iconst 1, 1),
  some (.istore 3, 1), some (.iload 3, 1), some (.iconst 48, 2), none, some (.if_icmp .ge 44, 3), none, none, some (.iload 2, 1),
  some (.ifCond .eq 44, 3), none, none, some (.aload 0, 1), some (.invokevirtual 199, 3), none, none, some (.pop, 1),
  some (.aload 0, 1), some (.iload 3, 1), some (.invokevirtual 227, 3), none, none, some (.istore 2, 1), some (.iinc 3 1, 3), none,
  none, some (.goto 17, 3), none, none, some (.aload 0, 1), some (.invokevirtual 212, 3), none, none,
  some (.iload 2, 1), some (.ireturn, 1)]
def xg229 : List (Option (Instr × Nat)) := [some (.iload 0, 1), some (.iload 1, 1), some (.ishr, 1), some (.iconst 1, 1), some (.iand, 1), some (.iconst 1, 1), some (.if_icmp .ne 13, 3), none,
  none, some (.iconst 1, 1), some (.goto 14, 3), none, none, some (.iconst 0, 1), some (.ireturn, 1)]
def xg230 : List (Option (Instr × Nat)) := [some (.iconst 0, 1), some (.istore 1, 1), some (.iconst 0, 1), some (.istore 2, 1), some (.iload 2, 1), some (.aload 0, 1), some (.getfield 788, 3), none,
  none, some (.iconst 2, 1), some (.iaload, 1), some (.if_icmp .gt 54, 3), none, none, some (.iload 2, 1), some (.ifCond .eq 28, 3),
  none, none, some (.aload 0, 1), some (.iload 2, 1), some (.iconst 1, 1), some (.isub, 1), some (.invokevirtual 180, 3), none,
  none, some (.ifCond .eq 48, 3), none, none, some (.iload 1, 1), some (.aload 0, 1), some (.iload 2, 1), some (.iconst 1, 1),
  some (.isub, 1), some (.invokevirtual 228, 3), none, none, some (.ifCond .eq 45, 3), none, none, some (.iconst 1, 1),
  some (.iload 2, 1), some (.ishl, 1), some (.goto 46, 3), none, none, some (.iconst 0, 1), some (.ior, 1), some (.istore 1, 1),
  some (.iinc 2 1, 3), none, none, some (.goto 4, 3), none, none, some (.iload 1, 1), some (.ireturn, 1)]
def xg231 : List (Option (Instr × Nat)) := [some (.aload 0, 1), some (.invokevirtual 172, 3), none, none, some (.ifCond .eq 17, 3), none, none, some (.iload 1, 1),
  some (.i2l, 1), some (.ldc2_w 0, 1), some (.ldc2_w 1, 1), some (.invokestatic 126, 3), none, none, some (.ifCond .ne 20, 3), none,
  none, some (.iconst (-3), 2), none, some (.ireturn, 1), some (.aload 0, 1), some (.invokevirtual 230, 3), none, none,
  some (.istore 2, 1), some (.iconst 0, 1), some (.istore 3, 1), some (.iconst (-2), 2), none, some (.istore 4, 2), none, some (.aload 0, 1),
  some (.getfield 788, 3), none, none, some (.iconst 2, 1), some (.iaload, 1), some (.istore 5, 2), none, some (.iload 5, 2),
  none, some (.ifCond .lt 71, 3), none, none, some (.iload 2, 1), some (.iload 5, 2), none, some (.invokestatic 229, 3),
  none, none, some (.ifCond .ne 56, 3), none, none, some (.goto 65, 3), none, none,
  some (.iinc 3 1, 3), none, none, some (.iload 5, 2), none, some (.iconst 1, 1), some (.isub, 1), some (.istore 4, 2),
  none, some (.iinc 5 (-1), 3), none, none, some (.goto 39, 3), none, none, some (.iload 1, 1),
  some (.ifCond .ne 79, 3), none, none, some (.iload 3, 1), some (.goto 81, 3), none, none, some (.iload 4, 2),
  none, some (.ireturn, 1)]
def xg232 : List (Option (Instr × Nat)) := [some (.aload 0, 1), some (.invokevirtual 211, 3), none, none, some (.aload 0, 1), some (.iload 1, 1), some (.invokevirtual 225, 3), none,
  none, some (.aload 0, 1), some (.iload 2, 1), some (.invokevirtual 200, 3), none, none, some (.pop, 1), some (.iconst 0, 1),
  some (.istore 3, 1), some (.iload 3, 1), some (.aload 0, 1), some (.getfield 788, 3), none, none, some (.iconst 0, 1), some (.iaload, 1),
  some (.if_icmp .ge 105, 3), none, none, some (.iconst 0, 1), some (.istore 4, 2), none, some (.iconst 0, 1), some (.istore 5, 2),
  none, some (.iload 5, 2), none, some (.aload 0, 1), some (.getfield 788, 3), none, none, some (.iconst 2, 1),
  some (.iaload, 1), some (.if_icmp .ge 84, 3), none, none, some (.aload 0, 1), some (.iload 5, 2), none, some (.iconst 0, 1),
  some (.invokevirtual 175, 3), none, none, some (.iload 3, 1), some (.if_icmp .ne 78, 3), none, none, some (.aload 0, 1),
  some (.iload 5, 2), none, some (.invokevirtual 182, 3), none, none, some (.iconst 1, 1), some (.iadd, 1), some (.iload 4, 2),
  none, some (.if_icmp .le 78, 3), none, none, some (.aload 0, 1), some (.iload 5, 2), none, some (.invokevirtual 182, 3),
  none, none, some (.iconst 1, 1), some (.iadd, 1), some (.istore 4, 2), none, some (.iinc 5 1, 3), none,
  none, some (.goto 33, 3), none, none, some (.aload 0, 1), some (.getfield 801, 3), none, none,
  some (.iconst 10, 2), none, some (.iload 1, 1), some (.iconst 1, 1), some (.iadd, 1), some (.imul, 1), some (.iload 3, 1), some (.iadd, 1),
  some (.iload 4, 2), none, some (.iastore, 1), some (.iinc 3 1, 3), none, none, some (.goto 17, 3), none,
  none, some (.aload 0, 1), some (.invokevirtual 212, 3), none, none, some (.return_, 1)]
def xg233 : List (Option (Instr × Nat)) := [some (.iconst 0, 1), some (.istore 3, 1), some (.iconst 0, 1), some (.istore 4, 2), none, some (.iload 4, 2), none, some (.iconst 4, 1),
  some (.if_icmp .ge 89, 3), none, none, some (.iconst 0, 1), some (.istore 5, 2), none, some (.iconst 0, 1), some (.istore 6, 2),
  none, some (.iload 6, 2), none, some (.aload 0, 1), some (.getfield 788, 3), none, none, some (.iconst 2, 1),
  some (.iaload, 1), some (.if_icmp .gt 70, 3), none, none, some (.iload 5, 2), none, some (.iload 1, 1), some (.iload 6, 2),
  none, some (.invokestatic 229, 3), none, none, some (.ifCond .eq 60, 3), none, none, some (.aload 0, 1),
  some (.getfield 801, 3), none, none, some (.iconst 10, 2), none, some (.iload 6, 2), none, some (.imul, 1),
  some (.iload 2, 1), some (.iadd, 1), some (.iaload, 1), some (.iload 4, 2), none, some (.if_icmp .ne 60, 3), none, none,
  some (.iconst 1, 1), some (.goto 61, 3), none, none, some (.iconst 0, 1), some (.iadd, 1), some (.istore 5, 2), none,
  some (.iinc 6 1, 3), none, none, some (.goto 17, 3), none, none, some (.iload 5, 2), none,
  some (.iload 3, 1), some (.if_icmp .le 81, 3), none, none, some (.iload 5, 2), none, some (.goto 82, 3), none,
  none, some (.iload 3, 1), some (.istore 3, 1), some (.iinc 4 1, 3), none, none, some (.goto 5, 3), none,
  none, some (.iload 3, 1), some (.ireturn, 1)]
def xg234 : List (Option (Instr × Nat)) := [some (.aload 0, 1), some (.invokevirtual 172, 3), none, none, some (.ifCond .eq 29, 3), none, none, some (.iload 1, 1),
  some (.i2l, 1), some (.ldc2_w 0, 1), some (.ldc2_w 47, 3), none, none, some (.invokestatic 126, 3), none, none,
  some (.ifCond .eq 29, 3), none, none, some (.iload 2, 1), some (.i2l, 1), some (.ldc2_w 0, 1), some (.ldc2_w 1, 1), some (.invokestatic 126, 3),
  none, none, some (.ifCond .ne 31, 3), none, none, some (.iconst (-1), 1), some (.ireturn, 1), some (.aload 0, 1),
  some (.invokevirtual 230, 3), none, none, some (.istore 3, 1), some (.iload 3, 1), some (.ifCond .ne 43, 3), none, none,
  some (.iconst (-2), 2), none, some (.ireturn, 1), some (.iconst 0, 1), some (.istore 4, 2), none, some (.iload 4, 2), none,
  some (.aload 0, 1), some (.getfield 788, 3), none, none, some (.iconst 2, 1), some (.iaload, 1), some (.if_icmp .gt 81, 3), none,
  none, some (.iload 3, 1), some (.iload 4, 2), none, some (.invokestatic 229, 3), none, none, some (.ifCond .eq 75, 3),
  none, none, some (.aload 0, 1), some (.iload 4, 2), none, some (.iconst 1, 1), some (.isub, 1), some (.iload 1, 1),
  some (.invokevirtual 232, 3), none, none, some (.iinc 4 1, 3), none, none, some (.goto 46, 3), none,
  none, some (.iconst 0, 1), some (.istore 4, 2), none, some (.iconst 1, 1), some (.istore 5, 2), none, some (.iload 5, 2),
  none, some (.aload 0, 1), some (.getfield 788, 3), none, none, some (.iconst 0, 1), some (.iaload, 1), some (.if_icmp .ge 125, 3),
  none, none, some (.aload 0, 1), some (.iload 3, 1), some (.iload 5, 2), none, some (.invokevirtual 233, 3), none,
  none, some (.aload 0, 1), some (.iload 3, 1), some (.iload 4, 2), none, some (.invokevirtual 233, 3), none, none,
  some (.if_icmp .ge 119, 3), none, none, some (.iload 5, 2), none, some (.istore 4, 2), none, some (.iinc 5 1, 3),
  none, none, some (.goto 87, 3), none, none, some (.iload 2, 1), some (.ifCond .ne 134, 3), none,
  none, some (.iload 4, 2), none, some (.goto 141, 3), none, none, some (.aload 0, 1), some (.iload 3, 1),
  some (.iload 4, 2), none, some (.invokevirtual 233, 3), none, none, some (.ireturn, 1)]
def xg235 : List (Option (Instr × Nat)) := [some (.iconst 0, 1), some (.istore 5, 2), none, some (.iconst 1, 1), some (.istore 6, 2), none, some (.iload 6, 2), none,
  some (.iload 2, 1), some (.if_icmp .gt 45, 3), none, none, some (.iload 5, 2), none, some (.iload 1, 1), some (.iload 6, 2),
  none, some (.iload 3, 1), some (.imul, 1), some (.iadd, 1), some (.aload 0, 1), some (.getfield 788, 3), none, none,
  some (.iconst 8, 2), none, some (.iaload, 1), some (.if_icmp .lt 35, 3), none, none, some (.iload 4, 2), none,
  some (.goto 36, 3), none, none, some (.iconst 0, 1), some (.iadd, 1), some (.istore 5, 2), none, some (.iinc 6 1, 3),
  none, none, some (.goto 6, 3), none, none, some (.iload 5, 2), none, some (.ireturn, 1)]
def xg236 : List (Option (Instr × Nat)) := [some (.aload 0, 1), some (.invokevirtual 172, 3), none, none, some (.ifCond .eq 78, 3), none, none, some (.iload 1, 1),
  some (.i2l, 1), some (.ldc2_w 0, 1), some (.ldc2_w 1, 1), some (.invokestatic 126, 3), none, none, some (.ifCond .eq 78, 3), none,
  none, some (.iload 2, 1), some (.i2l, 1), some (.ldc2_w 1, 1), some (.ldc2_w 30, 3), none, none, some (.invokestatic 126, 3),
  none, none, some (.ifCond .eq 78, 3), none, none, some (.iload 3, 1), some (.i2l, 1), some (.ldc2_w 0, 1),
  some (.ldc2_w 99, 3), none, none, some (.invokestatic 126, 3), none, none, some (.ifCond .eq 78, 3), none,
  none, some (.iload 4, 2), none, some (.i2l, 1), some (.ldc2_w 0, 1), some (.ldc2_w 99, 3), none, none,
  some (.invokestatic 126, 3), none, none, some (.ifCond .eq 78, 3), none, none, some (.iload 5, 2), none,
  some (.i2l, 1), some (.ldc2_w 0, 1), some (.ldc2_w 99, 3), none, none, some (.invokestatic 126, 3), none, none,
  some (.ifCond .eq 78, 3), none, none, some (.iload 6, 2), none, some (.i2l, 1), some (.ldc2_w 0, 1), some (.ldc2_w 1, 1),
  some (.invokestatic 126, 3), none, none, some (.ifCond .ne 81, 3), none, none, some (.iconst (-2), 2), none,
  some (.ireturn, 1), some (.iload 2, 1), some (.iconst 1, 1), some (.isub, 1), some (.istore 7, 2), none, some (.iload 7, 2), none,
  some (.ifCond .lt 180, 3), none, none, some (.aload 0, 1), some (.iconst 0, 1), some (.iload 2, 1), some (.iload 7, 2), none,
  some (.isub, 1), some (.iload 3, 1), some (.iload 5, 2), none, some (.invokevirtual 235, 3), none, none, some (.istore 8, 2),
  none, some (.iload 7, 2), none, some (.iconst 1, 1), some (.iadd, 1), some (.istore 9, 2), none, some (.iload 9, 2),
  none, some (.iload 2, 1), some (.if_icmp .ge 162, 3), none, none, some (.aload 0, 1), some (.iconst 0, 1), some (.iload 9, 2),
  none, some (.iload 7, 2), none, some (.isub, 1), some (.iload 3, 1), some (.iload 5, 2), none, some (.invokevirtual 235, 3),
  none, none, some (.aload 0, 1), some (.getfield 802, 3), none, none, some (.iload 9, 2), none,
  some (.iaload, 1), some (.iadd, 1), some (.istore 10, 2), none, some (.iload 10, 2), none, some (.iload 8, 2), none,
  some (.if_icmp .ge 152, 3), none, none, some (.iload 10, 2), none, some (.goto 154, 3), none, none,
  some (.iload 8, 2), none, some (.istore 8, 2), none, some (.iinc 9 1, 3), none, none, some (.goto 111, 3),
  none, none, some (.aload 0, 1), some (.getfield 802, 3), none, none, some (.iload 7, 2), none,
  some (.iload 4, 2), none, some (.iload 8, 2), none, some (.iadd, 1), some (.iastore, 1), some (.iinc 7 (-1), 3), none,
  none, some (.goto 86, 3), none, none, some (.iconst (-1), 1), some (.istore 7, 2), none, some (.aload 0, 1),
  some (.aload 0, 1), some (.iload 1, 1), some (.invokevirtual 178, 3), none, none, some (.iload 2, 1), some (.iload 3, 1), some (.iload 5, 2),
  none, some (.invokevirtual 235, 3), none, none, some (.istore 8, 2), none, some (.iload 2, 1), some (.iconst 1, 1),
  some (.isub, 1), some (.istore 9, 2), none, some (.iload 9, 2), none, some (.ifCond .lt 256, 3), none, none,
  some (.aload 0, 1), some (.aload 0, 1), some (.iload 1, 1), some (.invokevirtual 178, 3), none, none, some (.iload 9, 2), none,
  some (.iload 3, 1), some (.iload 5, 2), none, some (.invokevirtual 235, 3), none, none, some (.aload 0, 1), some (.getfield 802, 3),
  none, none, some (.iload 9, 2), none, some (.iaload, 1), some (.iadd, 1), some (.istore 10, 2), none,
  some (.iload 10, 2), none, some (.iload 8, 2), none, some (.if_icmp .lt 242, 3), none, none, some (.goto 250, 3),
  none, none, some (.iload 9, 2), none, some (.istore 7, 2), none, some (.iload 10, 2), none,
  some (.istore 8, 2), none, some (.iinc 9 (-1), 3), none, none, some (.goto 203, 3), none, none,
  some (.iload 6, 2), none, some (.ifCond .ne 266, 3), none, none, some (.iload 8, 2), none, some (.goto 268, 3),
  none, none, some (.iload 7, 2), none, some (.ireturn, 1)]
def xg237 : List (Option (Instr × Nat)) := [some (.aload 0, 1), some (.invokevirtual 172, 3), none, none, some (.ifCond .eq 41, 3), none, none, some (.iload 1, 1),
  some (.i2l, 1), some (.ldc2_w 0, 1), some (.ldc2_w 9, 3), none, none, some (.invokestatic 126, 3), none, none,
  some (.ifCond .eq 41, 3), none, none, some (.iload 2, 1), some (.i2l, 1), some (.ldc2_w 1, 1), some (.ldc2_w 24, 3), none,
  none, some (.invokestatic 126, 3), none, none, some (.ifCond .eq 41, 3), none, none, some (.iload 3, 1),
  some (.i2l, 1), some (.ldc2_w 0, 1), some (.ldc2_w 1, 1), some (.invokestatic 126, 3), none, none, some (.ifCond .ne 45, 3), none,
  none, some (.iconst (-100000), 3), none, none, some (.ireturn, 1), some (.aload 0, 1), some (.invokevirtual 211, 3), none,
  none, some (.aload 0, 1), some (.iload 2, 1), some (.invokevirtual 200, 3), none, none, some (.istore 4, 2), none,
  some (.aload 0, 1), some (.invokevirtual 212, 3), none, none, some (.iconst (-2), 2), none, some (.istore 5, 2), none,
  some (.iconst 0, 1), some (.istore 6, 2), none, some (.iconst 0, 1), some (.istore 7, 2), none, some (.iload 7, 2), none,
  some (.aload 0, 1), some (.getfield 788, 3), none, none, some (.iconst 2, 1), some (.iaload, 1), some (.if_icmp .ge 158, 3), none,
  none, some (.aload 0, 1), some (.iload 7, 2), none, some (.invokevirtual 181, 3), none, none, some (.ifCond .ne 152, 3),
  none, none, some (.aload 0, 1), some (.iload 7, 2), none, some (.iconst 2, 1), some (.invokevirtual 175, 3), none,
  none, some (.iload 1, 1), some (.if_icmp .le 104, 3), none, none, some (.goto 152, 3), none, none,
  some (.aload 0, 1), some (.iload 7, 2), none, some (.putfield 791, 3), none, none, some (.aload 0, 1), some (.iload 2, 1),
  some (.invokevirtual 200, 3), none, none, some (.iload 4, 2), none, some (.isub, 1), some (.istore 8, 2), none,
  some (.aload 0, 1), some (.invokevirtual 212, 3), none, none, some (.aload 0, 1), some (.iconst (-1), 1), some (.putfield 791, 3), none,
  none, some (.iload 5, 2), none, some (.ifCond .lt 144, 3), none, none, some (.iload 8, 2), none,
  some (.iload 6, 2), none, some (.if_icmp .gt 144, 3), none, none, some (.goto 152, 3), none, none,
  some (.iload 7, 2), none, some (.istore 5, 2), none, some (.iload 8, 2), none, some (.istore 6, 2), none,
  some (.iinc 7 1, 3), none, none, some (.goto 70, 3), none, none, some (.iload 3, 1), some (.ifCond .ne 167, 3),
  none, none, some (.iload 6, 2), none, some (.goto 169, 3), none, none, some (.iload 5, 2),
  none, some (.ireturn, 1)]
def xg238 : List (Option (Instr × Nat)) := [some (.iload 1, 1), some (.ifCond .ge 6, 3), none, none, some (.iconst (-1), 1), some (.ireturn, 1), some (.aload 0, 1), some (.getfield 790, 3),
  none, none, some (.istore 2, 1), some (.aload 0, 1), some (.iload 1, 1), some (.putfield 790, 3), none, none,
  some (.iload 2, 1), some (.ireturn, 1)]
def xg239 : List (Option (Instr × Nat)) := [some (.aload 0, 1), some (.aload 0, 1), some (.getfield 803, 3), none, none, some (.ldc2_w 1103515245, 3), none, none,
  some (.lmul, 1), some (.ldc2_w 12345, 3), none, none, some (.ladd, 1), some (.ldc2_w 2147483648, 3), none, none,
  some (.lrem, 1), some (.putfield 803, 3), none, none, some (.aload 0, 1), some (.getfield 803, 3), none, none,
  some (.ldc2_w 65536, 3), none, none, some (.ldiv, 1), some (.iload 1, 1), some (.i2l, 1), some (.lrem, 1), some (.l2i, 1),
  some (.ireturn, 1)]
def xg240 : List (Option (Instr × Nat)) := [some (.aload 0, 1), some (.invokevirtual 172, 3), none, none, some (.ifCond .eq 54, 3), none, none, some (.iload 1, 1),
  some (.i2l, 1), some (.ldc2_w 1, 1), some (.ldc2_w 10, 3), none, none, some (.invokestatic 126, 3), none, none,
  some (.ifCond .eq 54, 3), none, none, some (.iload 2, 1), some (.i2l, 1), some (.ldc2_w 1, 1), some (.ldc2_w 72, 3), none,
  none, some (.invokestatic 126, 3), none, none, some (.ifCond .eq 54, 3), none, none, some (.iload 3, 1),
  some (.i2l, 1), some (.ldc2_w 0, 1), some (.ldc2_w 100, 3), none, none, some (.invokestatic 126, 3), none, none,
  some (.ifCond .eq 54, 3), none, none, some (.iload 4, 2), none, some (.i2l, 1), some (.ldc2_w 0, 1), some (.ldc2_w 1, 1),
  some (.invokestatic 126, 3), none, none, some (.ifCond .ne 56, 3), none, none, some (.iconst (-1), 1), some (.ireturn, 1),
  some (.aload 0, 1), some (.aload 0, 1), some (.getfield 790, 3), none, none, some (.i2l, 1), some (.putfield 803, 3), none,
  none, some (.iconst 0, 1), some (.istore 5, 2), none, some (.aload 0, 1), some (.iconst 0, 1), some (.putfield 793, 3), none,
  none, some (.aload 0, 1), some (.invokevirtual 211, 3), none, none, some (.iconst 0, 1), some (.istore 6, 2), none,
  some (.iload 6, 2), none, some (.iload 1, 1), some (.if_icmp .ge 139, 3), none, none, some (.iconst 0, 1), some (.istore 7, 2),
  none, some (.iload 7, 2), none, some (.iload 2, 1), some (.if_icmp .ge 129, 3), none, none, some (.aload 0, 1),
  some (.aload 0, 1), some (.iconst 100, 2), none, some (.invokevirtual 239, 3), none, none, some (.iload 3, 1), some (.if_icmp .ge 110, 3),
  none, none, some (.iconst 1, 1), some (.goto 111, 3), none, none, some (.iconst 0, 1), some (.putfield 792, 3),
  none, none, some (.iload 5, 2), none, some (.aload 0, 1), some (.invokevirtual 199, 3), none, none,
  some (.iadd, 1), some (.istore 5, 2), none, some (.iinc 7 1, 3), none, none, some (.goto 89, 3), none,
  none, some (.aload 0, 1), some (.invokevirtual 212, 3), none, none, some (.iinc 6 1, 3), none, none,
  some (.goto 80, 3), none, none, some (.aload 0, 1), some (.iconst 0, 1), some (.putfield 792, 3), none, none,
  some (.iload 4, 2), none, some (.ifCond .ne 154, 3), none, none, some (.iload 5, 2), none, some (.goto 158, 3),
  none, none, some (.aload 0, 1), some (.getfield 793, 3), none, none, some (.ireturn, 1)]
def xg241 : List (Option (Instr × Nat)) := [some (.iload 1, 1), some (.tableswitch 186 0 15 #[80, 87, 80, 80, 80, 105, 110, 115, 122, 130, 135, 143, 152, 157, 162, 167], 79), none, none, none, none, none, none,
  none, none, none, none, none, none, none, none,
  none, none, none, none, none, none, none, none,
  none, none, none, none, none, none, none, none,
  none, none, none, none, none, none, none, none,
  none, none, none, none, none, none, none, none,
  none, none, none, none, none, none, none, none,
  none, none, none, none, none, none, none, none,
  none, none, none, none, none, none, none, none,
  none, none, none, none, none, none, none, none,
  some (.aload 0, 1), some (.getfield 788, 3), none, none, some (.iload 1, 1), some (.iaload, 1), some (.ireturn, 1), some (.aload 0, 1),
  some (.invokevirtual 172, 3), none, none, some (.ifCond .eq 103, 3), none, none, some (.aload 0, 1), some (.getfield 788, 3),
  none, none, some (.iconst 1, 1), some (.iaload, 1), some (.goto 104, 3), none, none, some (.iconst (-1), 1),
  some (.ireturn, 1), some (.aload 0, 1), some (.getfield 770, 3), none, none, some (.ireturn, 1), some (.aload 0, 1), some (.getfield 789, 3),
  none, none, some (.ireturn, 1), some (.aload 0, 1), some (.getfield 788, 3), none, none, some (.iconst 5, 1),
  some (.iaload, 1), some (.ireturn, 1), some (.aload 0, 1), some (.getfield 788, 3), none, none, some (.iconst 6, 2), none,
  some (.iaload, 1), some (.ireturn, 1), some (.aload 0, 1), some (.invokevirtual 209, 3), none, none, some (.ireturn, 1), some (.aload 0, 1),
  some (.getfield 788, 3), none, none, some (.iconst 7, 2), none, some (.iaload, 1), some (.ireturn, 1), some (.aload 0, 1),
  some (.getfield 788, 3), none, none, some (.iconst 150, 3), none, none, some (.iaload, 1), some (.ireturn, 1),
  some (.aload 0, 1), some (.getfield 795, 3), none, none, some (.ireturn, 1), some (.aload 0, 1), some (.getfield 790, 3), none,
  none, some (.ireturn, 1), some (.aload 0, 1), some (.getfield 769, 3), none, none, some (.ireturn, 1), some (.aload 0, 1),
  some (.invokevirtual 172, 3), none, none, some (.ifCond .eq 184, 3), none, none, some (.aload 0, 1), some (.getfield 788, 3),
  none, none, some (.iconst 8, 2), none, some (.iaload, 1), some (.goto 185, 3), none, none,
  some (.iconst (-1), 1), some (.ireturn, 1), some (.iconst (-1), 1), some (.ireturn, 1)]
def xg242 : List (Option (Instr × Nat)) := [some (.iload 1, 1), some (.i2l, 1), some (.ldc2_w 0, 1), some (.ldc2_w 3, 3), none, none, some (.invokestatic 126, 3), none,
  none, some (.ifCond .ne 14, 3), none, none, some (.iconst (-1), 1), some (.ireturn, 1), some (.aload 0, 1), some (.getfield 807, 3),
  none, none, some (.iload 1, 1), some (.iconst 1, 1), some (.bastore, 1), some (.aload 0, 1), some (.getfield 805, 3), none,
  none, some (.iload 1, 1), some (.aload 0, 1), some (.getfield 789, 3), none, none, some (.iastore, 1), some (.aload 0, 1),
  some (.getfield 806, 3), none, none, some (.iload 1, 1), some (.aload 0, 1), some (.getfield 790, 3), none, none,
  some (.iastore, 1), some (.iconst 0, 1), some (.istore 2, 1), some (.iload 2, 1), some (.iconst 151, 3), none, none, some (.if_icmp .ge 74, 3),
  none, none, some (.aload 0, 1), some (.getfield 804, 3), none, none, some (.iconst 151, 3), none,
  none, some (.iload 1, 1), some (.imul, 1), some (.iload 2, 1), some (.iadd, 1), some (.aload 0, 1), some (.getfield 788, 3), none,
  none, some (.iload 2, 1), some (.iaload, 1), some (.iastore, 1), some (.iinc 2 1, 3), none, none, some (.goto 43, 3),
  none, none, some (.aload 0, 1), some (.getfield 788, 3), none, none, some (.iconst 6, 2), none,
  some (.iaload, 1), some (.ireturn, 1)]
def xg243 : List (Option (Instr × Nat)) := [some (.iload 1, 1), some (.i2l, 1), some (.ldc2_w 0, 1), some (.ldc2_w 3, 3), none, none, some (.invokestatic 126, 3), none,
  none, some (.ifCond .eq 21, 3), none, none, some (.aload 0, 1), some (.getfield 807, 3), none, none,
  some (.iload 1, 1), some (.baload, 1), some (.ifCond .ne 23, 3), none, none, some (.iconst (-1), 1), some (.ireturn, 1), some (.aload 0, 1),
  some (.aload 0, 1), some (.getfield 805, 3), none, none, some (.iload 1, 1), some (.iaload, 1), some (.putfield 789, 3), none,
  none, some (.aload 0, 1), some (.aload 0, 1), some (.getfield 806, 3), none, none, some (.iload 1, 1), some (.iaload, 1),
  some (.putfield 790, 3), none, none, some (.aload 0, 1), some (.iconst 0, 1), some (.putfield 795, 3), none, none,
  some (.iconst 0, 1), some (.istore 2, 1), some (.iload 2, 1), some (.iconst 151, 3), none, none, some (.if_icmp .ge 81, 3), none,
  none, some (.aload 0, 1), some (.getfield 788, 3), none, none, some (.iload 2, 1), some (.aload 0, 1), some (.getfield 804, 3),
  none, none, some (.iconst 151, 3), none, none, some (.iload 1, 1), some (.imul, 1), some (.iload 2, 1),
  some (.iadd, 1), some (.iaload, 1), some (.iastore, 1), some (.iinc 2 1, 3), none, none, some (.goto 50, 3), none,
  none, some (.aload 0, 1), some (.getfield 788, 3), none, none, some (.iconst 6, 2), none, some (.iaload, 1),
  some (.ireturn, 1)]
def xg244 : List (Option (Instr × Nat)) := [some (.iload 0, 1), some (.iload 1, 1), some (.if_icmp .ge 9, 3), none, none, some (.iconst (-1), 1), some (.goto 19, 3), none,
  none, some (.iload 0, 1), some (.iload 1, 1), some (.if_icmp .ne 18, 3), none, none, some (.iconst 0, 1), some (.goto 19, 3),
  none, none, some (.iconst 1, 1), some (.ireturn, 1)]
def xg245 : List (Option (Instr × Nat)) := [some (.iload 0, 1), some (.iload 0, 1), some (.iconst 1, 1), some (.iushr, 1), some (.iconst 1431655765, 3), none, none, some (.iand, 1),
  some (.isub, 1), some (.istore 0, 1), some (.iload 0, 1), some (.iconst 858993459, 3), none, none, some (.iand, 1), some (.iload 0, 1),
  some (.iconst 2, 1), some (.iushr, 1), some (.iconst 858993459, 3), none, none, some (.iand, 1), some (.iadd, 1), some (.istore 0, 1),
  some (.iload 0, 1), some (.iload 0, 1), some (.iconst 4, 1), some (.iushr, 1), some (.iadd, 1), some (.iconst 252645135, 3), none, none,
  some (.iand, 1), some (.istore 0, 1), some (.iload 0, 1), some (.iload 0, 1), some (.iconst 8, 2), none, some (.iushr, 1), some (.iadd, 1),
  some (.istore 0, 1), some (.iload 0, 1), some (.iload 0, 1), some (.iconst 16, 2), none, some (.iushr, 1), some (.iadd, 1), some (.istore 0, 1),
  some (.iload 0, 1), some (.iconst 63, 2), none, some (.iand, 1), some (.ireturn, 1)]
def xg246 : List (Option (Instr × Nat)) := [some (.lload 0, 1), some (.lload 2, 1), some (.lcmp, 1), some (.ifCond .ge 10, 3), none, none, some (.iconst (-1), 1), some (.goto 21, 3),
  none, none, some (.lload 0, 1), some (.lload 2, 1), some (.lcmp, 1), some (.ifCond .ne 20, 3), none, none,
  some (.iconst 0, 1), some (.goto 21, 3), none, none, some (.iconst 1, 1), some (.ireturn, 1)]
def xg247 : List (Option (Instr × Nat)) := [some (.iload 0, 1), some (.iload 1, 1), some (.if_icmp .lt 9, 3), none, none, some (.iload 0, 1), some (.goto 10, 3), none,
  none, some (.iload 1, 1), some (.ireturn, 1)]
def xg248 : List (Option (Instr × Nat)) := [some (.iload 0, 1), some (.iload 1, 1), some (.if_icmp .gt 9, 3), none, none, some (.iload 0, 1), some (.goto 10, 3), none,
  none, some (.iload 1, 1), some (.ireturn, 1)]
def xg249 : List (Option (Instr × Nat)) := [some (.aload 0, 1), some (.getfield 5760, 3), none, none, some (.arraylength, 1), some (.aload 0, 1), some (.invokevirtual 251, 3), none,
  none, some (.ishr, 1), some (.ireturn, 1)]
def xg250 : List (Option (Instr × Nat)) := [some (.aload 0, 1), some (.invokevirtual 252, 3), none, none, some (.ifCond .eq 16, 3), none, none, some (.aload 0, 1),
  some (.getfield 5760, 3), none, none, some (.iload 1, 1), some (.invokestatic 254, 3), none, none, some (.ireturn, 1),
  some (.aload 0, 1), some (.getfield 5760, 3), none, none, some (.iload 1, 1), none, none, none,
  some (.ireturn, 1)]
def xg251 : List (Option (Instr × Nat)) := [some (.getstatic 0, 3), none, none, some (.ifCond .eq 13, 3), none, none, some (.aload 0, 1), some (.getfield 5761, 3),
  none, none, some (.goto 14, 3), none, none, some (.iconst 1, 1), some (.ireturn, 1)]
def xg252 : List (Option (Instr × Nat)) := [some (.getstatic 0, 3), none, none, some (.ifCond .eq 17, 3), none, none, some (.aload 0, 1), some (.getfield 5761, 3),
  none, none, some (.ifCond .ne 17, 3), none, none, some (.iconst 1, 1), some (.goto 18, 3), none,
  none, some (.iconst 0, 1), some (.ireturn, 1)]
def xg253 : List (Option (Instr × Nat)) := [some (.iload 0, 1), some (.iload 1, 1), some (.getstatic 1, 3), none, none, some (.invokestatic 257, 3), none, none,
  some (.pop, 1), some (.return_, 1)]
def xg254 : List (Option (Instr × Nat)) := [some (.iload 1, 1), some (.aload 0, 1), some (.arraylength, 1), some (.invokestatic 253, 3), none, none, some (.aload 0, 1), some (.iload 1, 1),
  some (.baload, 1), some (.iconst 255, 3), none, none, some (.iand, 1), some (.i2c, 1), some (.ireturn, 1)]
def xg255 : List (Option (Instr × Nat)) := [some (.iconst 0, 1), some (.istore 2, 1), some (.aload 0, 1), some (.arraylength, 1), some (.istore 3, 1), some (.iload 2, 1), some (.iload 3, 1), some (.if_icmp .ge 20, 3),
  none, none, some (.aload 0, 1), some (.iload 2, 1), some (.iload 1, 1), some (.iastore, 1), some (.iinc 2 1, 3), none,
  none, some (.goto 5, 3), none, none, some (.return_, 1)]
def xg256 : List (Option (Instr × Nat)) := [some (.iload 1, 1), some (.aload 0, 1), some (.arraylength, 1), some (.if_icmp .ne 14, 3), none, none, some (.aload 0, 1), some (.invokevirtual 9997, 3),
  none, none, some (.checkcast 0, 3), none, none, some (.areturn, 1), some (.iload 1, 1), some (.newarray .int, 2),
  none, some (.astore 2, 1), some (.aload 0, 1), some (.iconst 0, 1), some (.aload 2, 1), some (.iconst 0, 1), some (.aload 0, 1), some (.arraylength, 1),
  some (.iload 1, 1), some (.invokestatic 248, 3), none, none, some (.invokestatic 9998, 3), none, none, some (.aload 2, 1),
  some (.areturn, 1)]
def xg257 : List (Option (Instr × Nat)) := [some (.iload 0, 1), some (.ifCond .lt 9, 3), none, none, some (.iload 0, 1), some (.iload 1, 1), some (.if_icmp .lt 16, 3), none,
  none, some (.aload 2, 1), some (.iload 0, 1), some (.iload 1, 1), none, none, none, none,
  some (.iload 0, 1), some (.ireturn, 1)]
def xg258_0 : List (Option (Instr × Nat)) := [some (.new 11, 3), none, none, some (.dup, 1), some (.invokespecial 88, 3), none, none, some (.astore 1, 1),
  some (.new 12, 3), none, none, some (.dup, 1), some (.invokespecial 125, 3), none, none, some (.astore 2, 1),
  some (.iconst 0, 1), some (.istore 3, 1), some (.iload 3, 1), some (.aload 0, 1), some (.arraylength, 1), some (.iconst 7, 2), none, some (.isub, 1),
  some (.if_icmp .gt 1048, 3), none, none, some (.aload 0, 1), some (.iload 3, 1), some (.iaload, 1), some (.iconst 31, 2), none,
  some (.iand, 1), some (.tableswitch 1042 0 27 #[160, 223, 246, 259, 272, 295, 328, 361, 384, 397, 430, 453, 476, 489, 532, 565, 598, 621, 654, 723, 746, 779, 854, 897, 920, 973, 996, 1019], 127), none, none, none, none, none, none,
  none, none, none, none, none, none, none, none,
  none, none, none, none, none, none, none, none,
  none, none, none, none, none, none, none, none,
  none, none, none, none, none, none, none, none,
  none, none, none, none, none, none, none, none,
  none, none, none, none, none, none, none, none,
  none, none, none, none, none, none, none, none,
  none, none, none, none, none, none, none, none,
  none, none, none, none, none, none, none, none,
  none, none, none, none, none, none, none, none,
  none, none, none, none, none, none, none, none,
  none, none]
def xg258_1 : List (Option (Instr × Nat)) := [none, none, none, none, none, none, none, none,
  none, none, none, none, none, none, none, none,
  none, none, none, none, none, none, none, none,
  none, none, none, none, none, none, some (.aload 1, 1), some (.aload 0, 1),
  some (.iload 3, 1), some (.iconst 1, 1), some (.iadd, 1), some (.iaload, 1), some (.aload 0, 1), some (.iload 3, 1), some (.iconst 2, 1), some (.iadd, 1),
  some (.iaload, 1), some (.aload 0, 1), some (.iload 3, 1), some (.iconst 3, 1), some (.iadd, 1), some (.iaload, 1), some (.aload 0, 1), some (.iload 3, 1),
  some (.iconst 4, 1), some (.iadd, 1), some (.iaload, 1), some (.aload 0, 1), some (.iload 3, 1), some (.iconst 5, 1), some (.iadd, 1), some (.iaload, 1),
  some (.invokevirtual 89, 3), none, none, some (.aload 2, 1), some (.aload 0, 1), some (.iload 3, 1), some (.iconst 1, 1), some (.iadd, 1),
  some (.iaload, 1), some (.aload 0, 1), some (.iload 3, 1), some (.iconst 2, 1), some (.iadd, 1), some (.iaload, 1), some (.aload 0, 1), some (.iload 3, 1),
  some (.iconst 3, 1), some (.iadd, 1), some (.iaload, 1), some (.aload 0, 1), some (.iload 3, 1), some (.iconst 4, 1), some (.iadd, 1), some (.iaload, 1),
  some (.aload 0, 1), some (.iload 3, 1), some (.iconst 5, 1), some (.iadd, 1), some (.iaload, 1), some (.invokevirtual 128, 3), none, none,
  some (.if_icmp .eq 1042, 3), none, none, some (.iconst 0, 1), some (.ireturn, 1), some (.aload 1, 1), some (.aload 0, 1), some (.iload 3, 1),
  some (.iconst 1, 1), some (.iadd, 1), some (.iaload, 1), some (.invokevirtual 90, 3), none, none, some (.aload 2, 1), some (.aload 0, 1),
  some (.iload 3, 1), some (.iconst 1, 1), some (.iadd, 1), some (.iaload, 1), some (.invokevirtual 129, 3), none, none, some (.if_icmp .eq 1042, 3),
  none, none, some (.iconst 0, 1), some (.ireturn, 1), some (.aload 1, 1), some (.invokevirtual 91, 3), none, none,
  some (.aload 2, 1), some (.invokevirtual 166, 3), none, none, some (.if_icmp .eq 1042, 3), none, none, some (.iconst 0, 1),
  some (.ireturn, 1), some (.aload 1, 1)]
def xg258_2 : List (Option (Instr × Nat)) := [some (.invokevirtual 92, 3), none, none, some (.aload 2, 1), some (.invokevirtual 165, 3), none, none, some (.if_icmp .eq 1042, 3),
  none, none, some (.iconst 0, 1), some (.ireturn, 1), some (.aload 1, 1), some (.aload 0, 1), some (.iload 3, 1), some (.iconst 1, 1),
  some (.iadd, 1), some (.iaload, 1), some (.invokevirtual 93, 3), none, none, some (.aload 2, 1), some (.aload 0, 1), some (.iload 3, 1),
  some (.iconst 1, 1), some (.iadd, 1), some (.iaload, 1), some (.invokevirtual 185, 3), none, none, some (.if_icmp .eq 1042, 3), none,
  none, some (.iconst 0, 1), some (.ireturn, 1), some (.aload 1, 1), some (.aload 0, 1), some (.iload 3, 1), some (.iconst 1, 1), some (.iadd, 1),
  some (.iaload, 1), some (.aload 0, 1), some (.iload 3, 1), some (.iconst 2, 1), some (.iadd, 1), some (.iaload, 1), some (.invokevirtual 94, 3), none,
  none, some (.aload 2, 1), some (.aload 0, 1), some (.iload 3, 1), some (.iconst 1, 1), some (.iadd, 1), some (.iaload, 1), some (.aload 0, 1),
  some (.iload 3, 1), some (.iconst 2, 1), some (.iadd, 1), some (.iaload, 1), some (.invokevirtual 186, 3), none, none, some (.if_icmp .eq 1042, 3),
  none, none, some (.iconst 0, 1), some (.ireturn, 1), some (.aload 1, 1), some (.aload 0, 1), some (.iload 3, 1), some (.iconst 1, 1),
  some (.iadd, 1), some (.iaload, 1), some (.aload 0, 1), some (.iload 3, 1), some (.iconst 2, 1), some (.iadd, 1), some (.iaload, 1), some (.invokevirtual 95, 3),
  none, none, some (.aload 2, 1), some (.aload 0, 1), some (.iload 3, 1), some (.iconst 1, 1), some (.iadd, 1), some (.iaload, 1),
  some (.aload 0, 1), some (.iload 3, 1), some (.iconst 2, 1), some (.iadd, 1), some (.iaload, 1), some (.invokevirtual 187, 3), none, none,
  some (.if_icmp .eq 1042, 3), none, none, some (.iconst 0, 1), some (.ireturn, 1), some (.aload 1, 1), some (.aload 0, 1), some (.iload 3, 1),
  some (.iconst 1, 1), some (.iadd, 1), some (.iaload, 1), some (.invokevirtual 96, 3), none, none, some (.aload 2, 1), some (.aload 0, 1),
  some (.iload 3, 1), some (.iconst 1, 1), some (.iadd, 1), some (.iaload, 1), some (.invokevirtual 188, 3), none, none, some (.if_icmp .eq 1042, 3),
  none, none, some (.iconst 0, 1), some (.ireturn, 1), some (.aload 1, 1), some (.invokevirtual 97, 3), none, none,
  some (.aload 2, 1), some (.invokevirtual 203, 3)]
def xg258_3 : List (Option (Instr × Nat)) := [none, none, some (.if_icmp .eq 1042, 3), none, none, some (.iconst 0, 1), some (.ireturn, 1), some (.aload 1, 1),
  some (.aload 0, 1), some (.iload 3, 1), some (.iconst 1, 1), some (.iadd, 1), some (.iaload, 1), some (.aload 0, 1), some (.iload 3, 1), some (.iconst 2, 1),
  some (.iadd, 1), some (.iaload, 1), some (.invokevirtual 98, 3), none, none, some (.aload 2, 1), some (.aload 0, 1), some (.iload 3, 1),
  some (.iconst 1, 1), some (.iadd, 1), some (.iaload, 1), some (.aload 0, 1), some (.iload 3, 1), some (.iconst 2, 1), some (.iadd, 1), some (.iaload, 1),
  some (.invokevirtual 207, 3), none, none, some (.if_icmp .eq 1042, 3), none, none, some (.iconst 0, 1), some (.ireturn, 1),
  some (.aload 1, 1), some (.aload 0, 1), some (.iload 3, 1), some (.iconst 1, 1), some (.iadd, 1), some (.iaload, 1), some (.invokevirtual 99, 3), none,
  none, some (.aload 2, 1), some (.aload 0, 1), some (.iload 3, 1), some (.iconst 1, 1), some (.iadd, 1), some (.iaload, 1), some (.invokevirtual 208, 3),
  none, none, some (.if_icmp .eq 1042, 3), none, none, some (.iconst 0, 1), some (.ireturn, 1), some (.aload 1, 1),
  some (.aload 0, 1), some (.iload 3, 1), some (.iconst 1, 1), some (.iadd, 1), some (.iaload, 1), some (.invokevirtual 100, 3), none, none,
  some (.aload 2, 1), some (.aload 0, 1), some (.iload 3, 1), some (.iconst 1, 1), some (.iadd, 1), some (.iaload, 1), some (.invokevirtual 210, 3), none,
  none, some (.if_icmp .eq 1042, 3), none, none, some (.iconst 0, 1), some (.ireturn, 1), some (.aload 1, 1), some (.invokevirtual 101, 3),
  none, none, some (.aload 2, 1), some (.invokevirtual 202, 3), none, none, some (.if_icmp .eq 1042, 3), none,
  none, some (.iconst 0, 1), some (.ireturn, 1), some (.aload 1, 1), some (.aload 0, 1), some (.iload 3, 1), some (.iconst 1, 1), some (.iadd, 1),
  some (.iaload, 1), some (.aload 0, 1), some (.iload 3, 1), some (.iconst 2, 1), some (.iadd, 1), some (.iaload, 1), some (.aload 0, 1), some (.iload 3, 1),
  some (.iconst 3, 1), some (.iadd, 1), some (.iaload, 1), some (.invokevirtual 102, 3), none, none, some (.aload 2, 1), some (.aload 0, 1),
  some (.iload 3, 1), some (.iconst 1, 1), some (.iadd, 1), some (.iaload, 1), some (.aload 0, 1), some (.iload 3, 1), some (.iconst 2, 1), some (.iadd, 1),
  some (.iaload, 1), some (.aload 0, 1)]
def xg258_4 : List (Option (Instr × Nat)) := [some (.iload 3, 1), some (.iconst 3, 1), some (.iadd, 1), some (.iaload, 1), some (.invokevirtual 213, 3), none, none, some (.if_icmp .eq 1042, 3),
  none, none, some (.iconst 0, 1), some (.ireturn, 1), some (.aload 1, 1), some (.aload 0, 1), some (.iload 3, 1), some (.iconst 1, 1),
  some (.iadd, 1), some (.iaload, 1), some (.aload 0, 1), some (.iload 3, 1), some (.iconst 2, 1), some (.iadd, 1), some (.iaload, 1), some (.invokevirtual 103, 3),
  none, none, some (.aload 2, 1), some (.aload 0, 1), some (.iload 3, 1), some (.iconst 1, 1), some (.iadd, 1), some (.iaload, 1),
  some (.aload 0, 1), some (.iload 3, 1), some (.iconst 2, 1), some (.iadd, 1), some (.iaload, 1), some (.invokevirtual 217, 3), none, none,
  some (.if_icmp .eq 1042, 3), none, none, some (.iconst 0, 1), some (.ireturn, 1), some (.aload 1, 1), some (.aload 0, 1), some (.iload 3, 1),
  some (.iconst 1, 1), some (.iadd, 1), some (.iaload, 1), some (.aload 0, 1), some (.iload 3, 1), some (.iconst 2, 1), some (.iadd, 1), some (.iaload, 1),
  some (.invokevirtual 104, 3), none, none, some (.aload 2, 1), some (.aload 0, 1), some (.iload 3, 1), some (.iconst 1, 1), some (.iadd, 1),
  some (.iaload, 1), some (.aload 0, 1), some (.iload 3, 1), some (.iconst 2, 1), some (.iadd, 1), some (.iaload, 1), some (.invokevirtual 218, 3), none,
  none, some (.if_icmp .eq 1042, 3), none, none, some (.iconst 0, 1), some (.ireturn, 1), some (.aload 1, 1), some (.aload 0, 1),
  some (.iload 3, 1), some (.iconst 1, 1), some (.iadd, 1), some (.iaload, 1), some (.invokevirtual 105, 3), none, none, some (.aload 2, 1),
  some (.aload 0, 1), some (.iload 3, 1), some (.iconst 1, 1), some (.iadd, 1), some (.iaload, 1), some (.invokevirtual 219, 3), none, none,
  some (.if_icmp .eq 1042, 3), none, none, some (.iconst 0, 1), some (.ireturn, 1), some (.aload 1, 1), some (.aload 0, 1), some (.iload 3, 1),
  some (.iconst 1, 1), some (.iadd, 1), some (.iaload, 1), some (.aload 0, 1), some (.iload 3, 1), some (.iconst 2, 1), some (.iadd, 1), some (.iaload, 1),
  some (.invokevirtual 106, 3), none, none, some (.aload 2, 1), some (.aload 0, 1), some (.iload 3, 1), some (.iconst 1, 1), some (.iadd, 1),
  some (.iaload, 1), some (.aload 0, 1), some (.iload 3, 1), some (.iconst 2, 1), some (.iadd, 1), some (.iaload, 1), some (.invokevirtual 223, 3), none,
  none, some (.if_icmp .eq 1042, 3)]
def xg258_5 : List (Option (Instr × Nat)) := [none, none, some (.iconst 0, 1), some (.ireturn, 1), some (.aload 1, 1), some (.aload 0, 1), some (.iload 3, 1), some (.iconst 1, 1),
  some (.iadd, 1), some (.iaload, 1), some (.aload 0, 1), some (.iload 3, 1), some (.iconst 2, 1), some (.iadd, 1), some (.iaload, 1), some (.aload 0, 1),
  some (.iload 3, 1), some (.iconst 3, 1), some (.iadd, 1), some (.iaload, 1), some (.aload 0, 1), some (.iload 3, 1), some (.iconst 4, 1), some (.iadd, 1),
  some (.iaload, 1), some (.ifCond .eq 682, 3), none, none, some (.iconst 1, 1), some (.goto 683, 3), none, none,
  some (.iconst 0, 1), some (.invokevirtual 107, 3), none, none, some (.aload 2, 1), some (.aload 0, 1), some (.iload 3, 1), some (.iconst 1, 1),
  some (.iadd, 1), some (.iaload, 1), some (.aload 0, 1), some (.iload 3, 1), some (.iconst 2, 1), some (.iadd, 1), some (.iaload, 1), some (.aload 0, 1),
  some (.iload 3, 1), some (.iconst 3, 1), some (.iadd, 1), some (.iaload, 1), some (.aload 0, 1), some (.iload 3, 1), some (.iconst 4, 1), some (.iadd, 1),
  some (.iaload, 1), some (.ifCond .eq 714, 3), none, none, some (.iconst 1, 1), some (.goto 715, 3), none, none,
  some (.iconst 0, 1), some (.invokevirtual 224, 3), none, none, some (.if_icmp .eq 1042, 3), none, none, some (.iconst 0, 1),
  some (.ireturn, 1), some (.aload 1, 1), some (.aload 0, 1), some (.iload 3, 1), some (.iconst 1, 1), some (.iadd, 1), some (.iaload, 1), some (.invokevirtual 108, 3),
  none, none, some (.aload 2, 1), some (.aload 0, 1), some (.iload 3, 1), some (.iconst 1, 1), some (.iadd, 1), some (.iaload, 1),
  some (.invokevirtual 231, 3), none, none, some (.if_icmp .eq 1042, 3), none, none, some (.iconst 0, 1), some (.ireturn, 1),
  some (.aload 1, 1), some (.aload 0, 1), some (.iload 3, 1), some (.iconst 1, 1), some (.iadd, 1), some (.iaload, 1), some (.aload 0, 1), some (.iload 3, 1),
  some (.iconst 2, 1), some (.iadd, 1), some (.iaload, 1), some (.invokevirtual 109, 3), none, none, some (.aload 2, 1), some (.aload 0, 1),
  some (.iload 3, 1), some (.iconst 1, 1), some (.iadd, 1), some (.iaload, 1), some (.aload 0, 1), some (.iload 3, 1), some (.iconst 2, 1), some (.iadd, 1),
  some (.iaload, 1), some (.invokevirtual 234, 3), none, none, some (.if_icmp .eq 1042, 3), none, none, some (.iconst 0, 1),
  some (.ireturn, 1), some (.aload 1, 1)]
def xg258_6 : List (Option (Instr × Nat)) := [some (.aload 0, 1), some (.iload 3, 1), some (.iconst 1, 1), some (.iadd, 1), some (.iaload, 1), some (.aload 0, 1), some (.iload 3, 1), some (.iconst 2, 1),
  some (.iadd, 1), some (.iaload, 1), some (.aload 0, 1), some (.iload 3, 1), some (.iconst 3, 1), some (.iadd, 1), some (.iaload, 1), some (.aload 0, 1),
  some (.iload 3, 1), some (.iconst 4, 1), some (.iadd, 1), some (.iaload, 1), some (.aload 0, 1), some (.iload 3, 1), some (.iconst 5, 1), some (.iadd, 1),
  some (.iaload, 1), some (.aload 0, 1), some (.iload 3, 1), some (.iconst 6, 2), none, some (.iadd, 1), some (.iaload, 1), some (.invokevirtual 110, 3),
  none, none, some (.aload 2, 1), some (.aload 0, 1), some (.iload 3, 1), some (.iconst 1, 1), some (.iadd, 1), some (.iaload, 1),
  some (.aload 0, 1), some (.iload 3, 1), some (.iconst 2, 1), some (.iadd, 1), some (.iaload, 1), some (.aload 0, 1), some (.iload 3, 1), some (.iconst 3, 1),
  some (.iadd, 1), some (.iaload, 1), some (.aload 0, 1), some (.iload 3, 1), some (.iconst 4, 1), some (.iadd, 1), some (.iaload, 1), some (.aload 0, 1),
  some (.iload 3, 1), some (.iconst 5, 1), some (.iadd, 1), some (.iaload, 1), some (.aload 0, 1), some (.iload 3, 1), some (.iconst 6, 2), none,
  some (.iadd, 1), some (.iaload, 1), some (.invokevirtual 236, 3), none, none, some (.if_icmp .eq 1042, 3), none, none,
  some (.iconst 0, 1), some (.ireturn, 1), some (.aload 1, 1), some (.aload 0, 1), some (.iload 3, 1), some (.iconst 1, 1), some (.iadd, 1), some (.iaload, 1),
  some (.aload 0, 1), some (.iload 3, 1), some (.iconst 2, 1), some (.iadd, 1), some (.iaload, 1), some (.aload 0, 1), some (.iload 3, 1), some (.iconst 3, 1),
  some (.iadd, 1), some (.iaload, 1), some (.invokevirtual 111, 3), none, none, some (.aload 2, 1), some (.aload 0, 1), some (.iload 3, 1),
  some (.iconst 1, 1), some (.iadd, 1), some (.iaload, 1), some (.aload 0, 1), some (.iload 3, 1), some (.iconst 2, 1), some (.iadd, 1), some (.iaload, 1),
  some (.aload 0, 1), some (.iload 3, 1), some (.iconst 3, 1), some (.iadd, 1), some (.iaload, 1), some (.invokevirtual 237, 3), none, none,
  some (.if_icmp .eq 1042, 3), none, none, some (.iconst 0, 1), some (.ireturn, 1), some (.aload 1, 1), some (.aload 0, 1), some (.iload 3, 1),
  some (.iconst 1, 1), some (.iadd, 1), some (.iaload, 1), some (.invokevirtual 112, 3), none, none, some (.aload 2, 1), some (.aload 0, 1),
  some (.iload 3, 1), some (.iconst 1, 1)]
def xg258_7 : List (Option (Instr × Nat)) := [some (.iadd, 1), some (.iaload, 1), some (.invokevirtual 238, 3), none, none, some (.if_icmp .eq 1042, 3), none, none,
  some (.iconst 0, 1), some (.ireturn, 1), some (.aload 1, 1), some (.aload 0, 1), some (.iload 3, 1), some (.iconst 1, 1), some (.iadd, 1), some (.iaload, 1),
  some (.aload 0, 1), some (.iload 3, 1), some (.iconst 2, 1), some (.iadd, 1), some (.iaload, 1), some (.aload 0, 1), some (.iload 3, 1), some (.iconst 3, 1),
  some (.iadd, 1), some (.iaload, 1), some (.aload 0, 1), some (.iload 3, 1), some (.iconst 4, 1), some (.iadd, 1), some (.iaload, 1), some (.invokevirtual 113, 3),
  none, none, some (.aload 2, 1), some (.aload 0, 1), some (.iload 3, 1), some (.iconst 1, 1), some (.iadd, 1), some (.iaload, 1),
  some (.aload 0, 1), some (.iload 3, 1), some (.iconst 2, 1), some (.iadd, 1), some (.iaload, 1), some (.aload 0, 1), some (.iload 3, 1), some (.iconst 3, 1),
  some (.iadd, 1), some (.iaload, 1), some (.aload 0, 1), some (.iload 3, 1), some (.iconst 4, 1), some (.iadd, 1), some (.iaload, 1), some (.invokevirtual 240, 3),
  none, none, some (.if_icmp .eq 1042, 3), none, none, some (.iconst 0, 1), some (.ireturn, 1), some (.aload 1, 1),
  some (.aload 0, 1), some (.iload 3, 1), some (.iconst 1, 1), some (.iadd, 1), some (.iaload, 1), some (.invokevirtual 114, 3), none, none,
  some (.aload 2, 1), some (.aload 0, 1), some (.iload 3, 1), some (.iconst 1, 1), some (.iadd, 1), some (.iaload, 1), some (.invokevirtual 241, 3), none,
  none, some (.if_icmp .eq 1042, 3), none, none, some (.iconst 0, 1), some (.ireturn, 1), some (.aload 1, 1), some (.aload 0, 1),
  some (.iload 3, 1), some (.iconst 1, 1), some (.iadd, 1), some (.iaload, 1), some (.invokevirtual 115, 3), none, none, some (.aload 2, 1),
  some (.aload 0, 1), some (.iload 3, 1), some (.iconst 1, 1), some (.iadd, 1), some (.iaload, 1), some (.invokevirtual 242, 3), none, none,
  some (.if_icmp .eq 1042, 3), none, none, some (.iconst 0, 1), some (.ireturn, 1), some (.aload 1, 1), some (.aload 0, 1), some (.iload 3, 1),
  some (.iconst 1, 1), some (.iadd, 1), some (.iaload, 1), some (.invokevirtual 116, 3), none, none, some (.aload 2, 1), some (.aload 0, 1),
  some (.iload 3, 1), some (.iconst 1, 1), some (.iadd, 1), some (.iaload, 1), some (.invokevirtual 243, 3), none, none, some (.if_icmp .eq 1042, 3),
  none, none]
def xg258_8 : List (Option (Instr × Nat)) := [some (.iconst 0, 1), some (.ireturn, 1), some (.iinc 3 7, 3), none, none, some (.goto 18, 3), none, none,
  some (.iconst 1, 1), some (.ireturn, 1)]
def xg258 : List (Option (Instr × Nat)) := xg258_0 ++ (xg258_1 ++ (xg258_2 ++ (xg258_3 ++ (xg258_4 ++ (xg258_5 ++ (xg258_6 ++ (xg258_7 ++ (xg258_8))))))))
def xgL : List (List (Option (Instr × Nat))) := [xg0, xg1, xg2, xg3, xg4, xg5, xg6, xg7, xg8, xg9, xg10, xg11, xg12, xg13, xg14, xg15, xg16, xg17, xg18, xg19,
  xg20, xg21, xg22, xg23, xg24, xg25, xg26, xg27, xg28, xg29, xg30, xg31, xg32, xg33, xg34, xg35, xg36, xg37, xg38, xg39,
  xg40, xg41, xg42, xg43, xg44, xg45, xg46, xg47, xg48, xg49, xg50, xg51, xg52, xg53, xg54, xg55, xg56, xg57, xg58, xg59,
  xg60, xg61, xg62, xg63, xg64, xg65, xg66, xg67, xg68, xg69, xg70, xg71, xg72, xg73, xg74, xg75, xg76, xg77, xg78, xg79,
  xg80, xg81, xg82, xg83, xg84, xg85, xg86, xg87, xg88, xg89, xg90, xg91, xg92, xg93, xg94, xg95, xg96, xg97, xg98, xg99,
  xg100, xg101, xg102, xg103, xg104, xg105, xg106, xg107, xg108, xg109, xg110, xg111, xg112, xg113, xg114, xg115, xg116, xg117, xg118, xg119,
  xg120, xg121, xg122, xg123, xg124, xg125, xg126, xg127, xg128, xg129, xg130, xg131, xg132, xg133, xg134, xg135, xg136, xg137, xg138, xg139,
  xg140, xg141, xg142, xg143, xg144, xg145, xg146, xg147, xg148, xg149, xg150, xg151, xg152, xg153, xg154, xg155, xg156, xg157, xg158, xg159,
  xg160, xg161, xg162, xg163, xg164, xg165, xg166, xg167, xg168, xg169, xg170, xg171, xg172, xg173, xg174, xg175, xg176, xg177, xg178, xg179,
  xg180, xg181, xg182, xg183, xg184, xg185, xg186, xg187, xg188, xg189, xg190, xg191, xg192, xg193, xg194, xg195, xg196, xg197, xg198, xg199,
  xg200, xg201, xg202, xg203, xg204, xg205, xg206, xg207, xg208, xg209, xg210, xg211, xg212, xg213, xg214, xg215, xg216, xg217, xg218, xg219,
  xg220, xg221, xg222, xg223, xg224, xg225, xg226, xg227, xg228, xg229, xg230, xg231, xg232, xg233, xg234, xg235, xg236, xg237, xg238, xg239,
  xg240, xg241, xg242, xg243, xg244, xg245, xg246, xg247, xg248, xg249, xg250, xg251, xg252, xg253, xg254, xg255, xg256, xg257, xg258]
def xG (j pc : Nat) : Option (Instr × Nat) := ((xgL.getD j [])[pc]?).getD none
def xstr : List (Nat × String × Nat × String) := [(0, "OneBoots$Lane", 70, "lane brother wet frost want sole boots"),
  (2, "OneBoots$RuleReader", 44, "walk"),
  (4, "OneBoots$RuleReader", 107, "brother place home size hour day goal pay until wet frost boots chill others lying"),
  (6, "OneBoots$RuleReader", 61, "if"),
  (8, "OneBoots$RuleReader", 82, "not"),
  (10, "OneBoots$RuleReader", 76, "and or")]
def xlens : List Nat := [38, 4, 82, 2, 3, 6]
def xbyt : List (List Int32) := [[108, 97, 110, 101, 32, 98, 114, 111, 116, 104, 101, 114, 32, 119, 101, 116, 32, 102, 114, 111, 115, 116, 32, 119, 97, 110, 116, 32, 115, 111, 108, 101, 32, 98, 111, 111, 116, 115],
  [119, 97, 108, 107],
  [98, 114, 111, 116, 104, 101, 114, 32, 112, 108, 97, 99, 101, 32, 104, 111, 109, 101, 32, 115, 105, 122, 101, 32, 104, 111, 117, 114, 32, 100, 97, 121, 32, 103, 111, 97, 108, 32, 112, 97, 121, 32, 117, 110, 116, 105, 108, 32, 119, 101, 116, 32, 102, 114, 111, 115, 116, 32, 98, 111, 111, 116, 115, 32, 99, 104, 105, 108, 108, 32, 111, 116, 104, 101, 114, 115, 32, 108, 121, 105, 110, 103],
  [105, 102],
  [110, 111, 116],
  [97, 110, 100, 32, 111, 114]]
def xgt : List Cond := lw_tbl.filter goodWord
def xnst : List Cond := [.methodLinkNest "OneBoots" 9 ⟨"OneBoots$Tape", "<init>", "()V"⟩ "OneBoots", .methodLinkNest "OneBoots" 18 ⟨"OneBoots$RuleReader", "<init>", "()V"⟩ "OneBoots",
  .methodLinkNest "OneBoots" 37 ⟨"OneBoots$World", "<init>", "()V"⟩ "OneBoots", .methodLinkNest "OneBoots" 44 ⟨"OneBoots$Past", "<init>", "()V"⟩ "OneBoots",
  .methodLinkNest "OneBoots" 51 ⟨"OneBoots$Prints", "<init>", "()V"⟩ "OneBoots", .methodLinkNest "OneBoots" 58 ⟨"OneBoots$Hours", "<init>", "()V"⟩ "OneBoots",
  .methodLinkNest "OneBoots$Hours" 22 ⟨"OneBoots$Lane", "<init>", "()V"⟩ "OneBoots", .methodLinkNest "OneBoots" 65 ⟨"OneBoots$Trials", "<init>", "()V"⟩ "OneBoots",
  .methodLinkNest "OneBoots$Trials" 11 ⟨"OneBoots$World", "<init>", "()V"⟩ "OneBoots", .methodLinkNest "OneBoots$Relays" 35 ⟨"OneBoots$World", "<init>", "()V"⟩ "OneBoots",
  .methodLinkNest "OneBoots" 86 ⟨"OneBoots$Lane", "<init>", "()V"⟩ "OneBoots", .methodLinkNest "OneBoots" 276 ⟨"OneBoots$Image", "<init>", "()V"⟩ "OneBoots",
  .methodLinkNest "OneBoots$Image" 11 ⟨"OneBoots$Lane", "<init>", "()V"⟩ "OneBoots", .methodLinkNest "OneBoots$Image" 20 ⟨"OneBoots$World", "<init>", "()V"⟩ "OneBoots",
  .methodLinkNest "OneBoots$Image" 27 ⟨"OneBoots$Prints", "<init>", "()V"⟩ "OneBoots", .castable "[I" "java/lang/Cloneable"]
end
section
/-! THE TABLES ARE THE STATEMENT'S OWN. Printed by wip/whole/tools/gen_tab.py. -/
def xin (k : Nat) (w : Cond) : Bool := decide (lw_tbl[k]? = some w) && goodWord w
theorem xin_mem {k : Nat} {w : Cond} (h : xin k w = true) : w ∈ xgt := by
  simp only [xin, Bool.and_eq_true, decide_eq_true_eq] at h
  exact List.mem_filter.mpr ⟨List.mem_of_getElem? h.1, h.2⟩
def xFL : List (Nat × Nat × Nat × Nat) := [(0, 11, 0, 341), (0, 17, 1, 342), (0, 23, 2, 343), (0, 27, 3, 347), (0, 31, 4, 349), (0, 35, 5, 352), (0, 38, 640, 225), (0, 52, 138, 303), (0, 66, 132, 289), (0, 69, 140, 311),
  (0, 93, 134, 292), (0, 104, 129, 281), (0, 107, 130, 284), (0, 110, 128, 277), (0, 129, 136, 298), (1, 12, 64, 1059), (1, 21, 65, 1061), (1, 28, 66, 1063), (1, 32, 67, 1065), (1, 36, 68, 1067),
  (2, 11, 128, 276), (2, 15, 129, 279), (2, 18, 130, 283), (2, 21, 131, 287), (2, 24, 132, 288), (2, 27, 133, 290), (2, 30, 134, 291), (2, 34, 135, 295), (2, 37, 136, 297), (2, 40, 137, 300),
  (2, 43, 138, 302), (2, 46, 139, 308), (2, 49, 140, 310), (2, 97, 515, 168), (2, 130, 518, 173), (3, 11, 192, 239), (3, 15, 193, 240), (3, 19, 194, 241), (3, 22, 640, 224), (4, 9, 256, 256),
  (4, 13, 257, 257), (4, 29, 640, 227), (5, 13, 320, 402), (5, 17, 321, 403), (5, 21, 322, 404), (5, 25, 323, 405), (5, 29, 324, 406), (5, 32, 325, 408), (5, 52, 2, 345), (5, 58, 138, 305),
  (5, 79, 640, 226), (6, 7, 384, 706), (6, 13, 385, 707), (7, 11, 448, 196), (7, 17, 449, 197), (7, 20, 450, 198), (7, 24, 451, 199), (7, 27, 452, 200), (7, 70, 515, 167), (7, 95, 518, 172),
  (8, 11, 512, 161), (8, 15, 513, 162), (8, 19, 514, 164), (8, 22, 515, 166), (8, 25, 516, 169), (8, 28, 517, 170), (8, 31, 518, 171), (9, 12, 576, 375), (9, 20, 577, 376), (9, 24, 578, 377),
  (9, 27, 579, 378), (9, 31, 580, 380), (9, 56, 2, 346), (9, 60, 138, 307), (9, 76, 130, 285), (9, 83, 4, 350), (9, 119, 134, 293), (9, 122, 640, 229), (10, 11, 640, 223), (10, 27, 129, 280),
  (10, 32, 138, 304), (10, 36, 137, 301), (11, 10, 704, 425), (11, 19, 705, 426), (11, 25, 706, 427), (11, 31, 707, 428), (11, 38, 708, 429), (11, 45, 709, 430), (11, 52, 710, 431), (11, 59, 711, 432),
  (11, 66, 712, 433), (11, 73, 713, 434), (11, 77, 2, 344), (11, 81, 714, 435), (11, 87, 715, 436), (11, 90, 716, 437), (11, 94, 717, 438), (11, 97, 718, 439), (11, 100, 513, 163), (11, 111, 514, 165),
  (11, 121, 257, 258), (11, 124, 194, 242), (11, 125, 138, 306), (11, 137, 640, 228), (11, 141, 129, 282), (11, 144, 130, 286), (11, 161, 136, 299), (11, 167, 128, 278), (11, 208, 579, 379), (11, 219, 325, 409),
  (11, 222, 324, 407), (11, 255, 580, 381), (11, 261, 5, 353), (11, 264, 134, 294), (11, 267, 135, 296), (11, 270, 139, 309), (11, 273, 140, 312), (11, 277, 64, 1060), (11, 278, 65, 1062), (11, 283, 66, 1064),
  (11, 287, 67, 1066), (11, 288, 68, 1068), (11, 289, 3, 348), (11, 293, 4, 351), (12, 7, 768, 1096), (12, 13, 771, 1099), (12, 17, 772, 1100), (12, 20, 773, 1101), (12, 23, 774, 1102), (12, 26, 775, 1103),
  (12, 29, 783, 1111), (12, 32, 785, 1113), (12, 36, 787, 1115), (12, 39, 788, 1116), (12, 42, 789, 1117), (12, 46, 791, 1119), (12, 49, 794, 1122), (12, 52, 796, 1124), (12, 55, 801, 1129), (12, 58, 802, 1130),
  (12, 61, 804, 1132), (12, 64, 805, 1133), (12, 67, 806, 1134), (12, 70, 807, 1135), (12, 74, 769, 1097), (12, 81, 777, 1105), (12, 84, 776, 1104), (12, 109, 778, 1106), (12, 146, 779, 1107), (12, 149, 780, 1108),
  (12, 152, 781, 1109), (12, 155, 784, 1112), (12, 254, 782, 1110), (12, 266, 770, 1098), (12, 272, 795, 1123), (12, 275, 786, 1114), (12, 327, 792, 1120), (12, 357, 793, 1121), (12, 409, 797, 1125), (12, 415, 798, 1126),
  (12, 426, 799, 1127), (12, 429, 800, 1128), (12, 478, 790, 1118), (12, 481, 803, 1131), (16, 9, 5760, 1726), (16, 15, 5761, 1727)]
def xML : List (Nat × Nat × Nat × Nat) := [(0, 44, 12, 779), (0, 48, 2, 783), (0, 55, 3, 787), (0, 59, 5, 823), (0, 62, 7, 834), (0, 72, 14, 791), (0, 76, 244, 792), (0, 81, 4, 795), (0, 84, 40, 808), (0, 88, 246, 819),
  (0, 96, 248, 822), (0, 101, 13, 799), (0, 115, 84, 801), (0, 119, 245, 802), (0, 122, 247, 827), (0, 125, 6, 830), (2, 58, 13, 733), (2, 62, 16, 491), (2, 65, 57, 498), (2, 72, 62, 511),
  (2, 76, 64, 567), (2, 80, 18, 571), (2, 84, 58, 575), (2, 87, 19, 576), (2, 91, 60, 611), (2, 94, 17, 615), (2, 100, 255, 495), (2, 106, 20, 580), (2, 110, 21, 592), (2, 113, 22, 596),
  (2, 116, 23, 600), (2, 119, 24, 604), (2, 122, 25, 584), (2, 126, 61, 588), (3, 31, 248, 770), (4, 23, 247, 977), (4, 34, 84, 982), (4, 38, 245, 983), (5, 36, 80, 929), (5, 40, 36, 930),
  (5, 44, 86, 934), (5, 48, 38, 938), (5, 63, 11, 943), (5, 67, 37, 944), (5, 71, 1, 948), (5, 75, 83, 947), (6, 16, 41, 812), (6, 20, 42, 816), (7, 32, 256, 688), (7, 38, 39, 702),
  (7, 41, 57, 637), (7, 46, 62, 639), (7, 50, 64, 640), (7, 54, 58, 641), (7, 57, 50, 642), (7, 63, 46, 664), (7, 67, 60, 673), (7, 73, 47, 668), (7, 78, 54, 656), (7, 84, 48, 674),
  (7, 88, 49, 678), (7, 92, 53, 652), (7, 98, 52, 646), (7, 100, 51, 660), (7, 103, 61, 650), (8, 34, 58, 502), (8, 37, 59, 506), (8, 41, 249, 515), (8, 46, 250, 525), (8, 50, 63, 563),
  (9, 34, 80, 878), (9, 38, 67, 882), (9, 42, 1, 886), (9, 48, 82, 902), (9, 52, 68, 898), (9, 63, 11, 906), (9, 67, 248, 919), (9, 73, 247, 920), (9, 79, 84, 998), (9, 92, 74, 968),
  (9, 96, 81, 972), (9, 100, 32, 973), (9, 106, 33, 978), (9, 110, 255, 993), (9, 116, 76, 994), (9, 125, 245, 999), (9, 130, 78, 1011), (10, 21, 255, 627), (10, 39, 87, 858), (11, 72, 34, 395),
  (11, 103, 56, 475), (11, 107, 15, 487), (11, 114, 10, 619), (11, 118, 81, 623), (11, 128, 45, 633), (11, 129, 44, 682), (11, 133, 118, 721), (11, 147, 84, 725), (11, 151, 14, 729), (11, 155, 120, 741),
  (11, 158, 83, 749), (11, 164, 119, 757), (11, 170, 117, 745), (11, 174, 27, 765), (11, 178, 124, 771), (11, 182, 1, 775), (11, 186, 11, 842), (11, 189, 85, 854), (11, 193, 28, 866), (11, 197, 66, 874),
  (11, 201, 121, 891), (11, 204, 69, 894), (11, 211, 70, 915), (11, 215, 35, 925), (11, 225, 122, 953), (11, 228, 30, 956), (11, 231, 73, 964), (11, 235, 245, 984), (11, 240, 75, 989), (11, 244, 123, 1004),
  (11, 247, 77, 1007), (11, 252, 71, 1021), (11, 258, 72, 1033), (11, 281, 80, 1080), (11, 284, 31, 1081), (12, 77, 127, 1222), (12, 87, 131, 1242), (12, 91, 133, 1255), (12, 95, 134, 1251), (12, 99, 135, 1278),
  (12, 102, 132, 1290), (12, 105, 130, 1266), (12, 112, 126, 1294), (12, 158, 142, 1391), (12, 162, 139, 1342), (12, 167, 137, 1286), (12, 170, 140, 1338), (12, 173, 138, 1346), (12, 176, 144, 1333), (12, 180, 145, 1329),
  (12, 183, 146, 1325), (12, 188, 141, 1375), (12, 191, 147, 1379), (12, 194, 143, 1387), (12, 197, 149, 1394), (12, 200, 148, 1370), (12, 203, 150, 1383), (12, 212, 136, 1362), (12, 215, 151, 1366), (12, 218, 153, 1282),
  (12, 224, 154, 1274), (12, 227, 155, 1297), (12, 230, 156, 1301), (12, 233, 157, 1305), (12, 238, 158, 1309), (12, 243, 159, 1313), (12, 246, 160, 1317), (12, 249, 162, 1246), (12, 257, 161, 1270), (12, 260, 152, 1321),
  (12, 263, 163, 1238), (12, 269, 164, 1234), (12, 278, 168, 1520), (12, 282, 169, 1524), (12, 286, 170, 1528), (12, 290, 176, 1428), (12, 293, 175, 1420), (12, 297, 178, 1452), (12, 300, 183, 1436), (12, 303, 167, 1408),
  (12, 306, 173, 1416), (12, 309, 181, 1424), (12, 312, 184, 1432), (12, 315, 172, 1444), (12, 318, 177, 1448), (12, 321, 179, 1456), (12, 324, 174, 1464), (12, 331, 189, 1484), (12, 334, 182, 1504), (12, 337, 190, 1508),
  (12, 340, 171, 1516), (12, 344, 191, 1500), (12, 347, 192, 1512), (12, 351, 193, 1496), (12, 354, 196, 1535), (12, 360, 194, 1488), (12, 363, 195, 1492), (12, 366, 197, 1531), (12, 369, 198, 1539), (12, 372, 199, 1480),
  (12, 375, 201, 1476), (12, 378, 180, 1551), (12, 381, 206, 1547), (12, 384, 204, 1555), (12, 387, 205, 1563), (12, 390, 209, 1571), (12, 397, 211, 1581), (12, 400, 200, 1585), (12, 403, 212, 1589), (12, 406, 214, 1606),
  (12, 412, 215, 1602), (12, 420, 216, 1598), (12, 423, 220, 1623), (12, 432, 221, 1630), (12, 438, 222, 1626), (12, 443, 226, 1659), (12, 446, 225, 1651), (12, 449, 227, 1655), (12, 452, 228, 1647), (12, 455, 230, 1643),
  (12, 458, 229, 1663), (12, 461, 232, 1670), (12, 464, 233, 1674), (12, 471, 235, 1684), (12, 499, 239, 1705), (16, 335, 251, 519), (16, 492, 252, 529), (16, 495, 254, 533), (16, 1059, 257, 541), (17, 9, 253, 536),
  (18, 304, 248, 698), (20, 9, 88, 149), (20, 12, 125, 1092), (20, 13, 89, 471), (20, 17, 128, 1218), (20, 18, 90, 479), (20, 22, 129, 1226), (20, 23, 91, 483), (20, 27, 166, 1400), (20, 28, 92, 629),
  (20, 31, 165, 1230), (20, 32, 93, 713), (20, 35, 185, 1404), (20, 36, 94, 717), (20, 40, 186, 1412), (20, 41, 95, 737), (20, 44, 187, 1440), (20, 45, 96, 753), (20, 48, 188, 1460), (20, 49, 97, 761),
  (20, 52, 203, 1472), (20, 53, 98, 838), (20, 56, 207, 1543), (20, 57, 99, 846), (20, 60, 208, 1559), (20, 61, 100, 850), (20, 64, 210, 1567), (20, 65, 101, 862), (20, 68, 202, 1468), (20, 69, 102, 870),
  (20, 73, 213, 1575), (20, 74, 103, 887), (20, 77, 217, 1593), (20, 78, 104, 907), (20, 81, 218, 1610), (20, 82, 105, 911), (20, 85, 219, 1614), (20, 86, 106, 921), (20, 89, 223, 1618), (20, 90, 107, 949),
  (20, 94, 224, 1634), (20, 95, 108, 960), (20, 98, 231, 1639), (20, 99, 109, 985), (20, 102, 234, 1666), (20, 103, 110, 1000), (20, 107, 236, 1678), (20, 108, 111, 1016), (20, 111, 237, 1688), (20, 112, 112, 1025),
  (20, 115, 238, 1694), (20, 116, 113, 1029), (20, 120, 240, 1698), (20, 121, 114, 1040), (20, 124, 241, 1713), (20, 125, 115, 1044), (20, 128, 242, 1717), (20, 129, 116, 1086), (20, 132, 243, 1722)]
def xCL : List (Nat × Nat × Nat × Nat) := [(0, 20, 2, 270), (1, 9, 2, 1053), (1, 18, 10, 1055), (1, 25, 4, 1057), (5, 11, 10, 399), (7, 30, 6, 686), (9, 9, 10, 373), (11, 7, 8, 155), (11, 16, 7, 190), (11, 29, 1, 215),
  (11, 35, 10, 217), (11, 42, 3, 233), (11, 49, 4, 250), (11, 56, 0, 264), (11, 63, 9, 367), (11, 70, 5, 393), (11, 84, 2, 423), (20, 7, 11, 147), (20, 10, 12, 1090)]
def xAL : List (Nat × Nat × Nat × Nat) := [(5, 11, 6, 399), (11, 23, 4, 213), (11, 29, 5, 215)]
def xOL : List (Nat × Nat × Nat × Nat) := [(0, 3, 9999, 269), (1, 3, 9999, 1052), (2, 3, 9999, 275), (2, 52, 9998, 608), (3, 1, 9999, 238), (3, 25, 9998, 769), (4, 1, 9999, 255), (4, 17, 9998, 1085), (5, 3, 9999, 398), (5, 82, 9998, 942),
  (6, 1, 9999, 705), (7, 3, 9999, 195), (8, 3, 9999, 160), (9, 3, 9999, 372), (10, 3, 9999, 222), (10, 15, 9998, 628), (11, 1, 9999, 152), (12, 1, 9999, 1095), (18, 150, 9998, 701), (18, 316, 9997, 691)]
def xGS : List (Nat × Nat × Nat × Nat) := [(16, 38, 0, 523), (16, 1053, 1, 539)]
def xIC : List (Nat × Nat × Int × Nat) := [(9, 90, 2147483647, 1015), (9, 91, 65536, 1039), (11, 251, -100000, 1020), (12, 166, 99999, 1337), (12, 477, -100000, 1693), (13, 265, 1431655765, 805), (13, 266, 858993459, 806), (13, 267, 252645135, 807)]
def xLC : List (Nat × Nat × Nat × Nat) := [(0, 113, 2, 800), (9, 86, 1103515245, 1037), (9, 88, 12345, 1038), (12, 116, 27710370737579378, 1259), (12, 118, 482854658917, 1350), (12, 120, 1752132965, 1351),
  (12, 122, 1936292453, 1352), (12, 124, 1752135026, 1353), (12, 126, 6578553, 1354), (12, 128, 1735352684, 1355), (12, 130, 7364985, 1356), (12, 132, 504364296556, 1357),
  (12, 134, 7824756, 1260), (12, 136, 440006570868, 1261), (12, 138, 422776370291, 1264), (12, 140, 426953501804, 1358), (12, 142, 122545758368371, 1359), (12, 144, 465893420647, 1360),
  (12, 186, 7237492, 1374), (12, 206, 6385252, 1398), (12, 208, 28530, 1399), (12, 210, 26982, 1361), (12, 222, 1818324581, 1250), (12, 236, 2002873972, 1262),
  (12, 241, 1936682085, 1263), (12, 252, 2002873451, 1265), (12, 393, 96, 1579), (12, 395, 2, 1580), (12, 418, 24, 1597), (12, 436, 4, 1622),
  (12, 441, 47, 1638), (12, 467, 30, 1682), (12, 469, 99, 1683), (12, 475, 9, 1692), (12, 485, 1103515245, 1709), (12, 487, 12345, 1710),
  (12, 489, 2147483648, 1711), (12, 491, 65536, 1712), (12, 493, 10, 1702), (12, 495, 72, 1703), (12, 497, 100, 1704), (12, 502, 3, 1721)]
def xNL : List (Nat × Nat × Nat) := [(0, 22, 9), (1, 11, 9), (1, 20, 79), (1, 27, 29), (5, 35, 79), (9, 11, 79), (11, 9, 55), (11, 18, 43), (11, 37, 79), (11, 44, 26),
  (11, 51, 29), (11, 58, 0), (11, 65, 65), (11, 86, 9), (11, 276, 8)]
def xSL : List (Nat × Nat × Nat) := [(2, 70, 0), (7, 44, 2), (7, 61, 6), (7, 76, 10), (7, 82, 8), (7, 107, 4)]
def xauxL : List (Nat × Nat × Nat × Nat) := [(268, 131, 267, 0), (778, 131, 776, 777), (786, 131, 785, 24), (790, 131, 789, 25), (798, 131, 797, 26), (826, 131, 825, 28), (833, 131, 832, 29), (837, 131, 836, 30), (1051, 146, 1050, 0), (274, 132, 273, 0),
  (622, 132, 620, 621), (845, 132, 843, 844), (782, 132, 780, 781), (736, 132, 734, 735), (732, 132, 730, 731), (490, 132, 488, 489), (494, 132, 493, 0), (618, 132, 617, 11), (574, 132, 573, 3), (579, 132, 578, 4),
  (583, 132, 582, 5), (595, 132, 594, 7), (599, 132, 598, 8), (603, 132, 602, 9), (607, 132, 606, 10), (587, 132, 586, 6), (237, 129, 236, 0), (768, 129, 766, 767), (869, 129, 867, 868), (254, 130, 253, 0),
  (959, 130, 957, 958), (1084, 130, 1082, 1083), (976, 130, 974, 975), (981, 130, 979, 980), (397, 134, 396, 0), (928, 134, 926, 927), (933, 134, 932, 34), (946, 134, 945, 0), (941, 134, 940, 35), (704, 142, 703, 0),
  (811, 142, 809, 810), (815, 142, 814, 27), (818, 142, 817, 0), (194, 127, 193, 0), (685, 127, 683, 684), (636, 127, 634, 635), (667, 127, 666, 16), (671, 127, 670, 17), (677, 127, 676, 18), (680, 127, 679, 0),
  (645, 127, 644, 12), (662, 127, 661, 0), (649, 127, 648, 13), (655, 127, 654, 14), (659, 127, 658, 15), (159, 126, 158, 0), (478, 126, 476, 477), (501, 126, 499, 500), (505, 126, 503, 504), (509, 126, 508, 1),
  (614, 126, 612, 613), (591, 126, 589, 590), (514, 126, 512, 513), (566, 126, 565, 2), (570, 126, 568, 569), (371, 133, 370, 0), (877, 133, 875, 876), (885, 133, 884, 32), (901, 133, 900, 33), (897, 133, 895, 896),
  (918, 133, 916, 917), (1024, 133, 1022, 1023), (1036, 133, 1034, 1035), (967, 133, 965, 966), (971, 133, 970, 36), (992, 133, 990, 991), (997, 133, 996, 37), (1010, 133, 1008, 1009), (1014, 133, 1013, 38), (221, 128, 220, 0),
  (881, 128, 879, 880), (626, 128, 624, 625), (905, 128, 903, 904), (752, 128, 750, 751), (728, 128, 726, 727), (857, 128, 855, 856), (937, 128, 935, 936), (861, 128, 860, 31), (151, 125, 150, 0), (474, 125, 472, 473),
  (482, 125, 480, 481), (486, 125, 484, 485), (632, 125, 630, 631), (716, 125, 714, 715), (720, 125, 718, 719), (740, 125, 738, 739), (756, 125, 754, 755), (764, 125, 762, 763), (841, 125, 839, 840), (849, 125, 847, 848),
  (853, 125, 851, 852), (865, 125, 863, 864), (873, 125, 871, 872), (890, 125, 888, 889), (910, 125, 908, 909), (914, 125, 912, 913), (924, 125, 922, 923), (952, 125, 950, 951), (963, 125, 961, 962), (988, 125, 986, 987),
  (1003, 125, 1001, 1002), (1019, 125, 1017, 1018), (1028, 125, 1026, 1027), (1032, 125, 1030, 1031), (1043, 125, 1041, 1042), (1047, 125, 1045, 1046), (1089, 125, 1087, 1088), (748, 125, 747, 21), (724, 125, 723, 19), (760, 125, 759, 22),
  (744, 125, 743, 20), (893, 125, 892, 0), (955, 125, 954, 0), (1006, 125, 1005, 0), (774, 125, 773, 23), (1094, 135, 1093, 0), (1296, 135, 1295, 0), (1225, 135, 1224, 39), (1221, 135, 1219, 1220), (1229, 135, 1227, 1228),
  (1269, 135, 1268, 46), (1245, 135, 1244, 42), (1293, 135, 1292, 52), (1258, 135, 1257, 45), (1254, 135, 1253, 44), (1281, 135, 1280, 49), (1365, 135, 1364, 66), (1289, 135, 1288, 51), (1349, 135, 1348, 65), (1345, 135, 1344, 64),
  (1341, 135, 1340, 63), (1378, 135, 1377, 69), (1393, 135, 1392, 0), (1390, 135, 1389, 72), (1336, 135, 1335, 62), (1332, 135, 1331, 61), (1328, 135, 1327, 60), (1382, 135, 1381, 70), (1373, 135, 1372, 68), (1397, 135, 1396, 73),
  (1386, 135, 1385, 71), (1369, 135, 1368, 67), (1324, 135, 1323, 59), (1285, 135, 1284, 50), (1277, 135, 1276, 48), (1300, 135, 1299, 53), (1304, 135, 1303, 54), (1308, 135, 1307, 55), (1312, 135, 1311, 56), (1316, 135, 1315, 57),
  (1320, 135, 1319, 58), (1273, 135, 1272, 47), (1249, 135, 1248, 43), (1241, 135, 1240, 41), (1237, 135, 1236, 40), (1233, 135, 1231, 1232), (1403, 135, 1401, 1402), (1411, 135, 1410, 74), (1523, 135, 1522, 97), (1527, 135, 1526, 98),
  (1530, 135, 1529, 0), (1519, 135, 1518, 96), (1447, 135, 1446, 81), (1419, 135, 1418, 75), (1467, 135, 1466, 85), (1423, 135, 1422, 76), (1431, 135, 1430, 78), (1451, 135, 1450, 82), (1455, 135, 1454, 83), (1459, 135, 1458, 84),
  (1554, 135, 1553, 103), (1427, 135, 1426, 77), (1507, 135, 1506, 93), (1439, 135, 1438, 80), (1435, 135, 1434, 79), (1407, 135, 1405, 1406), (1415, 135, 1413, 1414), (1443, 135, 1441, 1442), (1463, 135, 1461, 1462), (1487, 135, 1486, 88),
  (1511, 135, 1510, 94), (1503, 135, 1502, 92), (1515, 135, 1514, 95), (1499, 135, 1498, 91), (1491, 135, 1490, 89), (1495, 135, 1494, 90), (1538, 135, 1537, 100), (1534, 135, 1533, 99), (1542, 135, 1541, 101), (1483, 135, 1482, 87),
  (1588, 135, 1587, 108), (1479, 135, 1478, 86), (1471, 135, 1469, 1470), (1475, 135, 1473, 1474), (1558, 135, 1557, 104), (1566, 135, 1565, 105), (1550, 135, 1549, 102), (1546, 135, 1544, 1545), (1562, 135, 1560, 1561), (1574, 135, 1573, 106),
  (1570, 135, 1568, 1569), (1584, 135, 1583, 107), (1592, 135, 1591, 109), (1578, 135, 1576, 1577), (1609, 135, 1608, 112), (1605, 135, 1604, 111), (1601, 135, 1600, 110), (1596, 135, 1594, 1595), (1613, 135, 1611, 1612), (1617, 135, 1615, 1616),
  (1625, 135, 1624, 0), (1633, 135, 1632, 114), (1629, 135, 1628, 113), (1621, 135, 1619, 1620), (1637, 135, 1635, 1636), (1654, 135, 1653, 117), (1662, 135, 1661, 119), (1658, 135, 1657, 118), (1650, 135, 1649, 116), (1665, 135, 1664, 0),
  (1646, 135, 1645, 115), (1642, 135, 1640, 1641), (1673, 135, 1672, 120), (1677, 135, 1676, 121), (1669, 135, 1667, 1668), (1687, 135, 1686, 122), (1681, 135, 1679, 1680), (1691, 135, 1689, 1690), (1697, 135, 1695, 1696), (1708, 135, 1707, 123),
  (1701, 135, 1699, 1700), (1716, 135, 1714, 1715), (1720, 135, 1718, 1719), (1725, 135, 1723, 1724), (794, 144, 793, 0), (804, 144, 803, 0), (821, 145, 820, 0), (829, 143, 828, 0), (700, 143, 699, 0), (518, 137, 516, 517),
  (528, 137, 526, 527), (522, 137, 520, 521), (532, 137, 530, 531), (538, 137, 537, 0), (535, 138, 534, 0), (497, 136, 496, 0), (690, 136, 689, 0), (543, 139, 542, 0), (0, 124, 0, 0)]
def xaux (j : Nat) : Nat × Nat × Nat × Nat := xauxL.getD j (0, 0, 0, 0)
def xlayL : List (List Nat) := [[354, 356, 358, 360, 362, 364],
  [1069, 1071, 1073, 1075, 1077],
  [313, 315, 317, 319, 321, 323, 325, 327, 329, 331, 333, 335, 337],
  [243, 245, 247],
  [259, 261],
  [410, 412, 414, 416, 418, 420],
  [708, 710],
  [201, 203, 205, 207, 209],
  [174, 176, 178, 180, 182, 184, 186],
  [382, 384, 386, 388, 390],
  [230],
  [440, 442, 444, 446, 448, 450, 452, 454, 456, 458, 460, 462, 464, 466, 468],
  [1136, 1138, 1140, 1142, 1144, 1146, 1148, 1150, 1152, 1154, 1156, 1158, 1160, 1162, 1164, 1166, 1168, 1170, 1172, 1174, 1176, 1178, 1180, 1182, 1184, 1186, 1188, 1190, 1192, 1194, 1196, 1198, 1200, 1202, 1204, 1206, 1208, 1210, 1212, 1214]]
def xinsL : List (Nat × Nat) := [(265, 131), (1048, 146), (271, 132), (234, 129), (251, 130), (394, 134), (687, 142), (191, 127), (156, 126), (368, 133), (218, 128), (148, 125),
  (1091, 135)]
def xwdL : List (Nat × Cond) := [(212, .arrayClass .int), (189, .arrayClass .byte), (340, .arrayClass .long), (1217, .arrayClass .boolean), (153, .instanceMethod objectInit), (154, .code objectInit ⟨#[0xb1]⟩ 1 none), (610, .native arraycopyName), (609, .static arraycopyName), (141, .initialized "java/lang/System"), (692, .sameMethod "[I" "java/lang/Object" "clone" "()Ljava/lang/Object;"), (693, .native ⟨"java/lang/Object", "clone", "()Ljava/lang/Object;"⟩), (694, .instanceMethod ⟨"java/lang/Object", "clone", "()Ljava/lang/Object;"⟩), (695, .selects "[I" ⟨"[I", "clone", "()Ljava/lang/Object;"⟩ ⟨"java/lang/Object", "clone", "()Ljava/lang/Object;"⟩)]
def xNk : List Nat := [157, 192, 219, 235, 252, 266, 272, 369, 374, 401, 424, 1049,
  1054, 1056, 1058, 696]
def xStk : List Nat := [510, 638, 651, 663, 672, 681]
def xkdL : List Nat := [2, 1, 1, 1, 1, 1, 1, 1, 2, 2, 1, 1, 1, 1, 1, 1, 1, 1, 1, 1, 1, 1, 1, 1, 1, 1, 2, 1, 1, 2, 1, 1, 1, 1, 2, 1, 1, 0, 1, 2,
  1, 1, 0, 2, 1, 1, 1, 1, 1, 0, 1, 0, 1, 1, 1, 2, 1, 1, 1, 1, 1, 1, 1, 1, 1, 2, 1, 1, 1, 1, 1, 1, 1, 1, 1, 1, 1, 1, 1, 2,
  1, 1, 1, 1, 1, 1, 1, 1, 2, 1, 1, 1, 1, 1, 1, 1, 1, 1, 1, 1, 1, 1, 1, 1, 1, 1, 1, 1, 1, 1, 1, 1, 1, 1, 1, 1, 1, 1, 1, 1,
  1, 0, 0, 0, 1, 2, 0, 1, 1, 1, 1, 1, 1, 1, 1, 1, 1, 1, 1, 1, 1, 1, 0, 1, 1, 1, 1, 1, 1, 1, 1, 1, 1, 1, 1, 1, 1, 1, 1, 1,
  1, 1, 1, 1, 1, 1, 1, 1, 1, 1, 0, 1, 1, 1, 1, 1, 1, 1, 1, 1, 1, 1, 1, 1, 1, 1, 1, 1, 1, 1, 1, 1, 1, 1, 1, 1, 1, 1, 1, 1,
  1, 1, 1, 1, 1, 1, 1, 1, 1, 1, 1, 1, 1, 1, 1, 1, 1, 1, 1, 1, 0, 1, 1, 1, 1, 1, 1, 1, 1, 0, 1, 1, 1, 1, 1, 1, 1, 1, 1, 1,
  1, 1, 1, 1, 0, 0, 0, 0, 0, 1, 1, 1, 1, 0, 0, 0, 0, 0, 3]
def xkd (j : Nat) : Nat := xkdL.getD j 9
end
section
/-! THE RESOLVED CODE IS THE PROGRAM'S: a checker, and what it is worth. -/
def xh3 (l : List (Nat × Nat × Nat × Nat)) (a b c : Nat) : Bool := l.any (fun e => e.1 == a && e.2.1 == b && e.2.2.1 == c)
theorem xh3_mem {l : List (Nat × Nat × Nat × Nat)} {a b c : Nat} (h : xh3 l a b c = true) : ∃ k, (a, b, c, k) ∈ l := by
  obtain ⟨⟨e1, e2, e3, e4⟩, he, h⟩ := List.any_eq_true.mp h
  simp only [Bool.and_eq_true, beq_iff_eq] at h
  obtain ⟨⟨rfl, rfl⟩, rfl⟩ := h
  exact ⟨e4, he⟩
def xFLb (e : Nat × Nat × Nat × Nat) : Bool := match xcls[e.2.2.1 / 64]? with
  | some (C, T, N) => decide (e.2.2.1 % 64 < N) && decide ((T (e.2.2.1 % 64)).1 = C) && xin e.2.2.2 (.fieldLink (xcn e.1) e.2.1 C (T (e.2.2.1 % 64)).2.1 (T (e.2.2.1 % 64)).2.2.1)
  | none => (e.2.2.1 == 5760 && xin e.2.2.2 (.fieldLink (xcn e.1) e.2.1 "java/lang/String" "value" "[B")) || (e.2.2.1 == 5761 && xin e.2.2.2 (.fieldLink (xcn e.1) e.2.1 "java/lang/String" "coder" "B"))
def xMLb (e : Nat × Nat × Nat × Nat) : Bool := decide (e.2.2.1 < xnM) && xin e.2.2.2 (.methodLink (xcn e.1) e.2.1 (xyn e.2.2.1))
def xCLb (e : Nat × Nat × Nat × Nat) : Bool := match xcls[e.2.2.1]? with
  | some (C, _, _) => xin e.2.2.2 (.classLink (xcn e.1) e.2.1 C)
  | none => false
def xALb (e : Nat × Nat × Nat × Nat) : Bool := match xcls[xacl e.2.2.1]? with
  | some (C, _, _) => xin e.2.2.2 (.classLink (xcn e.1) e.2.1 C)
  | none => false
def xOLb (e : Nat × Nat × Nat × Nat) : Bool := (e.2.2.1 == 9999 && xin e.2.2.2 (.methodLink (xcn e.1) e.2.1 objectInit)) || (e.2.2.1 == 9998 && xin e.2.2.2 (.methodLink (xcn e.1) e.2.1 arraycopyName)) || (e.2.2.1 == 9997 && xin e.2.2.2 (.methodLink (xcn e.1) e.2.1 ⟨"[I", "clone", "()Ljava/lang/Object;"⟩))
def xGSb (e : Nat × Nat × Nat × Nat) : Bool := (e.2.2.1 == 0 && xin e.2.2.2 (.fieldLink (xcn e.1) e.2.1 "java/lang/String" "COMPACT_STRINGS" "Z")) || (e.2.2.1 == 1 && xin e.2.2.2 (.fieldLink (xcn e.1) e.2.1 "jdk/internal/util/Preconditions" "SIOOBE_FORMATTER" "Ljava/util/function/BiFunction;"))
def xLCb (e : Nat × Nat × Nat × Nat) : Bool := xin e.2.2.2 (.constantLong (xcn e.1) e.2.1 (Int64.ofNat e.2.2.1))
def xICb (e : Nat × Nat × Int × Nat) : Bool := xin e.2.2.2 (.constant (xcn e.1) e.2.1 (Int32.ofInt e.2.2.1))
def xNLb (e : Nat × Nat × Nat) : Bool := decide (e.2.2 < xnM) && decide (Cond.methodLinkNest (xcn e.1) e.2.1 (xyn e.2.2) "OneBoots" ∈ xnst)
def xSLb (e : Nat × Nat × Nat) : Bool := xstr.any (fun q => q.1 == e.2.2 && q.2.1 == xcn e.1 && q.2.2.1 == e.2.1)
def xkb (k : Nat) : Bool := (xyn k).cls == xcn (xoc k) && match xkd k with
  | 0 => xin (xaux k).2.2.1 (.static (xyn k)) && xna k == xnp k
  | 1 => xin (xaux k).2.2.1 (.instanceMethod (xyn k)) && xin (xaux k).2.2.2 (.selects (xyn k).cls (xyn k) (xyn k)) && xna k == xnp k + 1 && (match xcls[xrc k]? with
    | some r => r.1 == (xyn k).cls
    | none => xrc k == 90 && (xyn k).cls == "java/lang/String")
  | 2 => xin (xaux k).2.2.1 (.instanceMethod (xyn k)) && (xyn k).name == "<init>" && xna k == xnp k + 1 && decide (xrt k = none)
  | _ => true
end
section
/-! The links of the fields. -/
theorem xFL_ok : xFL.all xFLb = true := by decide +kernel
end
section
/-! The links of the methods. -/
theorem xML_ok : xML.all xMLb = true := by decide +kernel
end
section
/-! The other links. -/
theorem xCL_ok : xCL.all xCLb = true := by decide +kernel
theorem xAL_ok : xAL.all xALb = true := by decide +kernel
theorem xOL_ok : xOL.all xOLb = true := by decide +kernel
theorem xGS_ok : xGS.all xGSb = true := by decide +kernel
theorem xLC_ok : xLC.all xLCb = true := by decide +kernel
theorem xIC_ok : xIC.all xICb = true := by decide +kernel
theorem xNL_ok : xNL.all xNLb = true := by decide +kernel
theorem xSL_ok : xSL.all xSLb = true := by decide +kernel
end
section
/-! The kinds of the methods, the first half. -/
theorem xk_a : (List.range 130).all xkb = true := by decide +kernel
end
section
/-! The kinds of the methods, the second half. -/
theorem xk_b : (List.range' 130 129).all xkb = true := by decide +kernel
theorem xk_ok : (List.range xnM).all xkb = true := by
  rw [show List.range xnM = List.range 130 ++ List.range' 130 129 from by decide +kernel, List.all_append, xk_a, xk_b]
  rfl
end
section
/-! EVERY RESOLVED INSTRUCTION AGAINST THE BYTES. -/
/-- does raw, of len bytes, at pc of method j, resolve to i? -/
def xlkB (j pc len : Nat) (raw i : Instr) : Bool := match i with
  | .iconst v => match raw with
    | .iconst n => len == 1 && decide (Int32.ofInt n = Int32.ofInt v)
    | .bipush n => len == 2 && decide ((Int8.ofInt n).toInt32 = Int32.ofInt v)
    | .sipush n => len == 3 && decide ((Int16.ofInt n).toInt32 = Int32.ofInt v)
    | .ldc q => len == 2 && xIC.any (fun e => e.1 == xoc j && e.2.1 == q && e.2.2.1 == v)
    | .ldc_w q => len == 3 && xIC.any (fun e => e.1 == xoc j && e.2.1 == q && e.2.2.1 == v)
    | _ => false
  | .ldc2_w z => match raw with
    | .lconst n => len == 1 && (n : Nat) == z
    | .ldc2_w q => len == 3 && xh3 xLC (xoc j) q z
    | _ => false
  | .ldc s => match raw with
    | .ldc q => len == 2 && xSL.any (fun e => e.1 == xoc j && e.2.1 == q && e.2.2 == s)
    | _ => false
  | .iload k => match raw with
    | .iload a => a == k && len == 2
    | .iload_n f => len == 1 && (f : Nat) == k
    | _ => false
  | .lload k => match raw with
    | .lload a => a == k && len == 2
    | .lload_n f => len == 1 && (f : Nat) == k
    | _ => false
  | .aload k => match raw with
    | .aload a => a == k && len == 2
    | .aload_n f => len == 1 && (f : Nat) == k
    | _ => false
  | .istore k => match raw with
    | .istore a => a == k && len == 2
    | .istore_n f => len == 1 && (f : Nat) == k
    | _ => false
  | .lstore k => match raw with
    | .lstore a => a == k && len == 2
    | .lstore_n f => len == 1 && (f : Nat) == k
    | _ => false
  | .astore k => match raw with
    | .astore a => a == k && len == 2
    | .astore_n f => len == 1 && (f : Nat) == k
    | _ => false
  | .iinc k n => decide (raw = .iinc k n) && len == 3
  | .goto t => match raw with
    | .goto off => len == 3 && decide ((pc : Int) + off = t ∧ 0 ≤ t)
    | _ => false
  | .ifCond c t => match raw with
    | .ifCond c' off => decide (c' = c) && len == 3 && decide ((pc : Int) + off = t ∧ 0 ≤ t)
    | _ => false
  | .if_icmp c t => match raw with
    | .if_icmp c' off => decide (c' = c) && len == 3 && decide ((pc : Int) + off = t ∧ 0 ≤ t)
    | _ => false
  | .ifnonnull t => match raw with
    | .ifnonnull off => len == 3 && decide ((pc : Int) + off = t ∧ 0 ≤ t)
    | _ => false
  | .ifnull t => match raw with
    | .ifnull off => len == 3 && decide ((pc : Int) + off = t ∧ 0 ≤ t)
    | _ => false
  | .tableswitch d lo hi offs => match raw with
    | .tableswitch d' lo' hi' offs' => lo' == lo && hi' == hi && decide ((pc : Int) + d' = d ∧ 0 ≤ d ∧ offs = offs'.map (fun o => (pc : Int) + o)) && offs.toList.all (fun t => decide (0 ≤ t))
    | _ => false
  | .lookupswitch d ps => match raw with
    | .lookupswitch d' ps' => decide ((ps'.toList.zip (ps'.toList.drop 1)).all (fun (a, next) => a.1 < next.1) = true ∧ (pc : Int) + d' = d ∧ 0 ≤ d ∧ ps = ps'.map (fun q => (q.1, (pc : Int) + q.2))) && ps.toList.all (fun q => decide (0 ≤ q.2))
    | _ => false
  | .getfield q => match raw with
    | .getfield q1 => len == 3 && xh3 xFL (xoc j) q1 q
    | _ => false
  | .putfield q => match raw with
    | .putfield q1 => len == 3 && xh3 xFL (xoc j) q1 q && match xcls[q / 64]? with
      | some (C, T, _) => (T (q % 64)).2.2.2 == false || ((xyn j).name == "<init>" && C == (xyn j).cls)
      | none => false
    | _ => false
  | .getstatic q => match raw with
    | .getstatic q1 => len == 3 && xh3 xGS (xoc j) q1 q
    | _ => false
  | .new ci => match raw with
    | .new q1 => len == 3 && xh3 xCL (xoc j) q1 ci
    | _ => false
  | .newarray a => decide (raw = .newarray a) && len == 2
  | .anewarray t => match raw with
    | .anewarray q1 => len == 3 && xh3 xAL (xoc j) q1 t
    | _ => false
  | .checkcast _ => match raw with
    | .checkcast q1 => len == 3 && q1 == 317 && xoc j == xoc j_Arrays_copyOf
    | _ => false
  | .invokevirtual k => match raw with
    | .invokevirtual q1 => len == 3 && ((k == 9997 && xh3 xOL (xoc j) q1 9997) || (xkd k == 1 && xh3 xML (xoc j) q1 k))
    | _ => false
  | .invokespecial k => match raw with
    | .invokespecial q1 => len == 3 && ((k == 9999 && xh3 xOL (xoc j) q1 9999) || (xkd k == 2 && (xh3 xML (xoc j) q1 k || xNL.any (fun e => e.1 == xoc j && e.2.1 == q1 && e.2.2 == k))))
    | _ => false
  | .invokestatic k => match raw with
    | .invokestatic q1 => len == 3 && ((k == 9998 && xh3 xOL (xoc j) q1 9998) || (xkd k == 0 && xh3 xML (xoc j) q1 k))
    | _ => false
  | .ireturn => decide (raw = .ireturn) && len == 1 && decide (xrt j = some (xrk j))
  | .lreturn => decide (raw = .lreturn) && len == 1 && decide (xrt j = some .long)
  | .areturn => decide (raw = .areturn) && len == 1 && match xrt j with
    | some (.object _) => true
    | some (.array _) => true
    | _ => false
  | .return_ => decide (raw = .return_) && len == 1 && decide (xrt j = none)
  | i => decide (raw = i) && len == 1
def xcb (j : Nat) : Nat → List (Option (Instr × Nat)) → Bool
  | _, [] => true
  | pc, none :: r => xcb j (pc + 1) r
  | pc, some (i, len) :: r => (match decode (xbt j) pc with
    | .ok (raw, len') => len' == len && xlkB j pc len raw i
    | _ => false) && xcb j (pc + 1) r
theorem xcb_at {j : Nat} : ∀ (cd : List (Option (Instr × Nat))) (p0 pc : Nat) (i : Instr) (len : Nat), xcb j p0 cd = true → cd[pc]? = some (some (i, len)) → ∃ raw, decode (xbt j) (p0 + pc) = .ok (raw, len) ∧ xlkB j (p0 + pc) len raw i = true
  | [], _, _, _, _, _, h => by simp at h
  | none :: r, p0, pc, i, len, hc, h => by
    match pc, h with
    | 0, h => simp at h
    | pc + 1, h =>
      have := xcb_at r (p0 + 1) pc i len hc (by simpa using h)
      rw [show p0 + (pc + 1) = p0 + 1 + pc by omega]
      exact this
  | some (i', len') :: r, p0, pc, i, len, hc, h => by
    simp only [xcb, Bool.and_eq_true] at hc
    match pc, h with
    | 0, h =>
      simp at h
      obtain ⟨rfl, rfl⟩ := h
      have h1 := hc.1
      split at h1
      · rename_i raw len2 hd
        simp only [Bool.and_eq_true, beq_iff_eq] at h1
        obtain ⟨rfl, h2⟩ := h1
        exact ⟨raw, hd, h2⟩
      · cases h1
    | pc + 1, h =>
      have := xcb_at r (p0 + 1) pc i len hc.2 (by simpa using h)
      rw [show p0 + (pc + 1) = p0 + 1 + pc by omega]
      exact this
theorem xk_at {k : Nat} (h : k < xnM) : xkb k = true := List.all_eq_true.mp xk_ok k (List.mem_range.mpr h)
theorem xkd_lt {k q : Nat} (h : xkd k = q) (hq : q < 3) : k < xnC := by
  have hne : k ≠ xnC := fun e => by
    rw [e, show xkd xnC = 3 from by decide +kernel] at h
    omega
  suffices hs : k < xnM by simp only [xnM, xnC] at hs hne ⊢; omega
  unfold xkd at h
  rcases Nat.lt_or_ge k xkdL.length with h1 | h1
  · exact Nat.lt_of_lt_of_le h1 (by decide +kernel)
  · simp only [List.getD, List.getElem?_eq_none h1, Option.getD_none] at h
    omega
theorem xkd_own {k : Nat} (h : k < xnM) : (xyn k).cls = xcn (xoc k) := by
  have := xk_at h
  simp only [xkb, Bool.and_eq_true, beq_iff_eq] at this
  exact this.1
theorem xkd0 {k : Nat} (h : xkd k = 0) : k < xnC ∧ Cond.static (xyn k) ∈ xgt ∧ xna k = xnp k := by
  have hl := xkd_lt h (by decide)
  have := xk_at (Nat.lt_succ_of_lt hl)
  simp only [xkb, Bool.and_eq_true, beq_iff_eq, h] at this
  exact ⟨hl, xin_mem this.2.1, this.2.2⟩
theorem xkd1 {k : Nat} (h : xkd k = 1) : k < xnC ∧ Cond.instanceMethod (xyn k) ∈ xgt ∧ Cond.selects (xyn k).cls (xyn k) (xyn k) ∈ xgt ∧ xna k = xnp k + 1 ∧ ((∃ r, xcls[xrc k]? = some r ∧ r.1 = (xyn k).cls) ∨ (xrc k = 90 ∧ (xyn k).cls = "java/lang/String")) := by
  have hl := xkd_lt h (by decide)
  have := xk_at (Nat.lt_succ_of_lt hl)
  simp only [xkb, Bool.and_eq_true, beq_iff_eq, h] at this
  obtain ⟨-, ⟨⟨h1, h2⟩, h3⟩, h4⟩ := this
  refine ⟨hl, xin_mem h1, xin_mem h2, h3, ?_⟩
  split at h4
  · rename_i r hr
    exact Or.inl ⟨r, hr, by simpa using h4⟩
  · simp only [Bool.and_eq_true, beq_iff_eq] at h4
    exact Or.inr h4
theorem xkd2 {k : Nat} (h : xkd k = 2) : k < xnC ∧ Cond.instanceMethod (xyn k) ∈ xgt ∧ (xyn k).name = "<init>" ∧ xna k = xnp k + 1 ∧ xrt k = none := by
  have hl := xkd_lt h (by decide)
  have := xk_at (Nat.lt_succ_of_lt hl)
  simp only [xkb, Bool.and_eq_true, beq_iff_eq, decide_eq_true_eq, h] at this
  obtain ⟨-, ⟨⟨h1, h2⟩, h3⟩, h4⟩ := this
  exact ⟨hl, xin_mem h1, h2, h3, h4⟩
theorem xFL_at {j q1 q : Nat} (hj : j < xnM) (h : xh3 xFL (xoc j) q1 q = true) : (∃ C T N, xcls[q / 64]? = some (C, T, N) ∧ q % 64 < N ∧ (T (q % 64)).1 = C ∧ Cond.fieldLink (xyn j).cls q1 C (T (q % 64)).2.1 (T (q % 64)).2.2.1 ∈ xgt) ∨ (q = 90 * 64 ∧ Cond.fieldLink (xyn j).cls q1 "java/lang/String" "value" "[B" ∈ xgt) ∨ (q = 90 * 64 + 1 ∧ Cond.fieldLink (xyn j).cls q1 "java/lang/String" "coder" "B" ∈ xgt) := by
  obtain ⟨k, hk⟩ := xh3_mem h
  have := List.all_eq_true.mp xFL_ok _ hk
  rw [xkd_own hj]
  simp only [xFLb] at this
  split at this
  · rename_i C T N hc
    simp only [Bool.and_eq_true, decide_eq_true_eq] at this
    exact Or.inl ⟨C, T, N, hc, this.1.1, this.1.2, xin_mem this.2⟩
  · simp only [Bool.or_eq_true, Bool.and_eq_true, beq_iff_eq] at this
    rcases this with ⟨h1, h2⟩ | ⟨h1, h2⟩
    · exact Or.inr (Or.inl ⟨h1, xin_mem h2⟩)
    · exact Or.inr (Or.inr ⟨h1, xin_mem h2⟩)
theorem xML_at {j q1 k : Nat} (hj : j < xnM) (h : xh3 xML (xoc j) q1 k = true) : k < xnM ∧ Cond.methodLink (xyn j).cls q1 (xyn k) ∈ xgt := by
  obtain ⟨t, hk⟩ := xh3_mem h
  have := List.all_eq_true.mp xML_ok _ hk
  rw [xkd_own hj]
  simp only [xMLb, Bool.and_eq_true, decide_eq_true_eq] at this
  exact ⟨this.1, xin_mem this.2⟩
theorem xOL_at {j q1 k : Nat} (hj : j < xnM) (h : xh3 xOL (xoc j) q1 k = true) : (k = 9999 → Cond.methodLink (xyn j).cls q1 objectInit ∈ xgt) ∧ (k = 9998 → Cond.methodLink (xyn j).cls q1 arraycopyName ∈ xgt) ∧ (k = 9997 → Cond.methodLink (xyn j).cls q1 ⟨"[I", "clone", "()Ljava/lang/Object;"⟩ ∈ xgt) := by
  obtain ⟨t, hk⟩ := xh3_mem h
  have := List.all_eq_true.mp xOL_ok _ hk
  rw [xkd_own hj]
  simp only [xOLb, Bool.or_eq_true, Bool.and_eq_true, beq_iff_eq] at this
  rcases this with (⟨h1, h2⟩ | ⟨h1, h2⟩) | ⟨h1, h2⟩
  · exact ⟨fun _ => xin_mem h2, fun e => by omega, fun e => by omega⟩
  · exact ⟨fun e => by omega, fun _ => xin_mem h2, fun e => by omega⟩
  · exact ⟨fun e => by omega, fun e => by omega, fun _ => xin_mem h2⟩
theorem xcast_w : Cond.classLink (xcn (xoc j_Arrays_copyOf)) 317 "[I" ∈ xgt := xin_mem (k := 697) (by decide +kernel)
set_option maxHeartbeats 2000000 in
theorem xlkB_ok {j pc len : Nat} {raw i : Instr} (hj : j < xnM) (h : xlkB j pc len raw i = true) : xlk xgt xnst xcls xacl xnC xyn xstr j pc len raw i ∧ xlk2 xcls xyn xna xnp xrc xrk xrt j i := by
  cases i
  case iconst v =>
    simp only [xlkB] at h
    split at h <;> simp only [Bool.and_eq_true, beq_iff_eq, decide_eq_true_eq, reduceCtorEq] at h
    · exact ⟨Or.inl ⟨_, rfl, h.1, h.2⟩, trivial⟩
    · exact ⟨Or.inr (Or.inl ⟨_, rfl, h.1, h.2⟩), trivial⟩
    · exact ⟨Or.inr (Or.inr (Or.inl ⟨_, rfl, h.1, h.2⟩)), trivial⟩
    · obtain ⟨h1, h2⟩ := h
      obtain ⟨⟨e1, e2, e3, e4⟩, he, h3⟩ := List.any_eq_true.mp h2
      simp only [Bool.and_eq_true, beq_iff_eq] at h3
      obtain ⟨⟨rfl, rfl⟩, rfl⟩ := h3
      have := List.all_eq_true.mp xIC_ok _ he
      refine ⟨Or.inr (Or.inr (Or.inr (Or.inl ⟨_, rfl, h1, ?_⟩))), trivial⟩
      rw [xkd_own hj]
      exact xin_mem this
    · obtain ⟨h1, h2⟩ := h
      obtain ⟨⟨e1, e2, e3, e4⟩, he, h3⟩ := List.any_eq_true.mp h2
      simp only [Bool.and_eq_true, beq_iff_eq] at h3
      obtain ⟨⟨rfl, rfl⟩, rfl⟩ := h3
      have := List.all_eq_true.mp xIC_ok _ he
      refine ⟨Or.inr (Or.inr (Or.inr (Or.inr ⟨_, rfl, h1, ?_⟩))), trivial⟩
      rw [xkd_own hj]
      exact xin_mem this
  case ldc2_w z =>
    simp only [xlkB] at h
    split at h <;> simp only [Bool.and_eq_true, beq_iff_eq, reduceCtorEq] at h
    · exact ⟨Or.inl ⟨_, rfl, h.1, h.2⟩, trivial⟩
    · obtain ⟨k, hk⟩ := xh3_mem h.2
      have := List.all_eq_true.mp xLC_ok _ hk
      refine ⟨Or.inr ⟨_, rfl, h.1, ?_⟩, trivial⟩
      rw [xkd_own hj]
      exact xin_mem this
  case ldc s =>
    simp only [xlkB] at h
    split at h <;> simp only [Bool.and_eq_true, beq_iff_eq, reduceCtorEq] at h
    obtain ⟨h1, h2⟩ := h
    obtain ⟨⟨e1, e2, e3⟩, he, h3⟩ := List.any_eq_true.mp h2
    simp only [Bool.and_eq_true, beq_iff_eq] at h3
    obtain ⟨⟨rfl, rfl⟩, rfl⟩ := h3
    have := List.all_eq_true.mp xSL_ok _ he
    simp only [xSLb] at this
    obtain ⟨⟨f1, f2, f3, f4⟩, hf, h4⟩ := List.any_eq_true.mp this
    simp only [Bool.and_eq_true, beq_iff_eq] at h4
    obtain ⟨⟨rfl, h5⟩, rfl⟩ := h4
    refine ⟨⟨_, f4, rfl, h1, ?_⟩, trivial⟩
    rw [xkd_own hj, ← h5]
    exact hf
  case iload k =>
    simp only [xlkB] at h
    split at h <;> simp only [Bool.and_eq_true, beq_iff_eq, reduceCtorEq] at h
    · obtain ⟨rfl, h2⟩ := h
      exact ⟨Or.inl ⟨rfl, h2⟩, trivial⟩
    · exact ⟨Or.inr ⟨_, rfl, h.1, h.2⟩, trivial⟩
  case lload k =>
    simp only [xlkB] at h
    split at h <;> simp only [Bool.and_eq_true, beq_iff_eq, reduceCtorEq] at h
    · obtain ⟨rfl, h2⟩ := h
      exact ⟨Or.inl ⟨rfl, h2⟩, trivial⟩
    · exact ⟨Or.inr ⟨_, rfl, h.1, h.2⟩, trivial⟩
  case aload k =>
    simp only [xlkB] at h
    split at h <;> simp only [Bool.and_eq_true, beq_iff_eq, reduceCtorEq] at h
    · obtain ⟨rfl, h2⟩ := h
      exact ⟨Or.inl ⟨rfl, h2⟩, trivial⟩
    · exact ⟨Or.inr ⟨_, rfl, h.1, h.2⟩, trivial⟩
  case istore k =>
    simp only [xlkB] at h
    split at h <;> simp only [Bool.and_eq_true, beq_iff_eq, reduceCtorEq] at h
    · obtain ⟨rfl, h2⟩ := h
      exact ⟨Or.inl ⟨rfl, h2⟩, trivial⟩
    · exact ⟨Or.inr ⟨_, rfl, h.1, h.2⟩, trivial⟩
  case lstore k =>
    simp only [xlkB] at h
    split at h <;> simp only [Bool.and_eq_true, beq_iff_eq, reduceCtorEq] at h
    · obtain ⟨rfl, h2⟩ := h
      exact ⟨Or.inl ⟨rfl, h2⟩, trivial⟩
    · exact ⟨Or.inr ⟨_, rfl, h.1, h.2⟩, trivial⟩
  case astore k =>
    simp only [xlkB] at h
    split at h <;> simp only [Bool.and_eq_true, beq_iff_eq, reduceCtorEq] at h
    · obtain ⟨rfl, h2⟩ := h
      exact ⟨Or.inl ⟨rfl, h2⟩, trivial⟩
    · exact ⟨Or.inr ⟨_, rfl, h.1, h.2⟩, trivial⟩
  case iinc k n =>
    simp only [xlkB, Bool.and_eq_true, beq_iff_eq, decide_eq_true_eq] at h
    exact ⟨h, trivial⟩
  case goto t =>
    simp only [xlkB] at h
    split at h <;> simp only [Bool.and_eq_true, beq_iff_eq, decide_eq_true_eq, reduceCtorEq] at h
    exact ⟨⟨_, rfl, h.1, h.2.1, h.2.2⟩, trivial⟩
  case ifnonnull t =>
    simp only [xlkB] at h
    split at h <;> simp only [Bool.and_eq_true, beq_iff_eq, decide_eq_true_eq, reduceCtorEq] at h
    exact ⟨⟨_, rfl, h.1, h.2.1, h.2.2⟩, trivial⟩
  case ifnull t =>
    simp only [xlkB] at h
    split at h <;> simp only [Bool.and_eq_true, beq_iff_eq, decide_eq_true_eq, reduceCtorEq] at h
    exact ⟨⟨_, rfl, h.1, h.2.1, h.2.2⟩, trivial⟩
  case ifCond c t =>
    simp only [xlkB] at h
    split at h <;> simp only [Bool.and_eq_true, beq_iff_eq, decide_eq_true_eq, reduceCtorEq] at h
    obtain ⟨⟨rfl, h1⟩, h2, h3⟩ := h
    exact ⟨⟨_, rfl, h1, h2, h3⟩, trivial⟩
  case if_icmp c t =>
    simp only [xlkB] at h
    split at h <;> simp only [Bool.and_eq_true, beq_iff_eq, decide_eq_true_eq, reduceCtorEq] at h
    obtain ⟨⟨rfl, h1⟩, h2, h3⟩ := h
    exact ⟨⟨_, rfl, h1, h2, h3⟩, trivial⟩
  case tableswitch d lo hi offs =>
    simp only [xlkB] at h
    split at h <;> simp only [Bool.and_eq_true, beq_iff_eq, decide_eq_true_eq, List.all_eq_true, reduceCtorEq] at h
    obtain ⟨⟨⟨rfl, rfl⟩, h1, h2, h3⟩, h4⟩ := h
    exact ⟨⟨_, _, rfl, h1, h2, h3, h4⟩, trivial⟩
  case lookupswitch d ps =>
    simp only [xlkB] at h
    split at h <;> simp only [Bool.and_eq_true, decide_eq_true_eq, List.all_eq_true (l := ps.toList), reduceCtorEq] at h
    obtain ⟨⟨h0, h1, h2, h3⟩, h4⟩ := h
    exact ⟨⟨_, _, rfl, h0, h1, h2, h3, h4⟩, trivial⟩
  case getfield q =>
    simp only [xlkB] at h
    split at h <;> simp only [Bool.and_eq_true, beq_iff_eq, reduceCtorEq] at h
    exact ⟨⟨_, rfl, h.1, xFL_at hj h.2⟩, trivial⟩
  case putfield q =>
    simp only [xlkB] at h
    split at h <;> simp only [Bool.and_eq_true, beq_iff_eq, reduceCtorEq] at h
    obtain ⟨⟨h1, h2⟩, h3⟩ := h
    refine ⟨⟨_, rfl, h1, ?_⟩, trivial⟩
    split at h3
    · rename_i C T N hc
      rcases xFL_at hj h2 with ⟨C', T', N', g1, g2, g3, g4⟩ | ⟨rfl, -⟩ | ⟨rfl, -⟩
      · cases hc.symm.trans g1
        refine ⟨C, T, N, g1, g2, g3, g4, ?_⟩
        cases hf : (T (q % 64)).2.2.2
        · exact Or.inl rfl
        · simp only [hf, Bool.or_eq_true, Bool.and_eq_true, beq_iff_eq, reduceCtorEq, false_or] at h3
          exact Or.inr ⟨rfl, h3⟩
      · exact absurd hc (by rw [show xcls[90 * 64 / 64]? = none from by decide +kernel]; simp)
      · exact absurd hc (by rw [show xcls[(90 * 64 + 1) / 64]? = none from by decide +kernel]; simp)
    · cases h3
  case getstatic q =>
    simp only [xlkB] at h
    split at h <;> simp only [Bool.and_eq_true, beq_iff_eq, reduceCtorEq] at h
    obtain ⟨k, hk⟩ := xh3_mem h.2
    have := List.all_eq_true.mp xGS_ok _ hk
    simp only [xGSb, Bool.or_eq_true, Bool.and_eq_true, beq_iff_eq] at this
    refine ⟨⟨_, rfl, h.1, ?_⟩, trivial⟩
    rw [xkd_own hj]
    rcases this with ⟨h1, h2⟩ | ⟨h1, h2⟩
    · exact Or.inl ⟨h1, xin_mem h2⟩
    · exact Or.inr ⟨h1, xin_mem h2⟩
  case new ci =>
    simp only [xlkB] at h
    split at h <;> simp only [Bool.and_eq_true, beq_iff_eq, reduceCtorEq] at h
    obtain ⟨k, hk⟩ := xh3_mem h.2
    have := List.all_eq_true.mp xCL_ok _ hk
    simp only [xCLb] at this
    split at this
    · rename_i C T N hc
      refine ⟨⟨_, rfl, h.1, C, T, N, hc, ?_⟩, trivial⟩
      rw [xkd_own hj]
      exact xin_mem this
    · cases this
  case newarray a =>
    simp only [xlkB, Bool.and_eq_true, beq_iff_eq, decide_eq_true_eq] at h
    exact ⟨h, trivial⟩
  case anewarray t =>
    simp only [xlkB] at h
    split at h <;> simp only [Bool.and_eq_true, beq_iff_eq, reduceCtorEq] at h
    obtain ⟨k, hk⟩ := xh3_mem h.2
    have := List.all_eq_true.mp xAL_ok _ hk
    simp only [xALb] at this
    split at this
    · rename_i C T N hc
      refine ⟨⟨_, rfl, h.1, _, hc, ?_⟩, trivial⟩
      rw [xkd_own hj]
      exact xin_mem this
    · cases this
  case checkcast q =>
    simp only [xlkB] at h
    split at h <;> simp only [Bool.and_eq_true, beq_iff_eq, reduceCtorEq] at h
    obtain ⟨⟨h1, rfl⟩, h3⟩ := h
    refine ⟨⟨_, rfl, h1, ?_⟩, trivial⟩
    rw [xkd_own hj, h3]
    exact xcast_w
  case invokevirtual k =>
    simp only [xlkB] at h
    split at h <;> simp only [Bool.and_eq_true, Bool.or_eq_true, beq_iff_eq, reduceCtorEq] at h
    obtain ⟨h1, h2⟩ := h
    rcases h2 with ⟨rfl, h2⟩ | ⟨h2, h3⟩
    · exact ⟨⟨_, rfl, h1, Or.inl ⟨rfl, (xOL_at hj h2).2.2 rfl⟩⟩, Or.inl rfl⟩
    · obtain ⟨g1, g2, g3, g4, g5⟩ := xkd1 h2
      exact ⟨⟨_, rfl, h1, Or.inr ⟨g1, (xML_at hj h3).2, g2, g3⟩⟩, Or.inr ⟨g4, g5⟩⟩
  case invokespecial k =>
    simp only [xlkB] at h
    split at h <;> simp only [Bool.and_eq_true, Bool.or_eq_true, beq_iff_eq, reduceCtorEq] at h
    obtain ⟨h1, h2⟩ := h
    rcases h2 with ⟨rfl, h2⟩ | ⟨h2, h3⟩
    · exact ⟨⟨_, rfl, h1, Or.inl ⟨rfl, (xOL_at hj h2).1 rfl⟩⟩, Or.inl rfl⟩
    · obtain ⟨g1, g2, g3, g4, g5⟩ := xkd2 h2
      refine ⟨⟨_, rfl, h1, Or.inr ⟨g1, g3, g2, ?_⟩⟩, Or.inr ⟨g4, g5⟩⟩
      rcases h3 with h3 | h3
      · exact Or.inl (xML_at hj h3).2
      · obtain ⟨⟨e1, e2, e3⟩, he, h4⟩ := List.any_eq_true.mp h3
        simp only [Bool.and_eq_true, beq_iff_eq] at h4
        obtain ⟨⟨rfl, rfl⟩, rfl⟩ := h4
        have := List.all_eq_true.mp xNL_ok _ he
        simp only [xNLb, Bool.and_eq_true, decide_eq_true_eq] at this
        rw [xkd_own hj]
        exact Or.inr this.2
  case invokestatic k =>
    simp only [xlkB] at h
    split at h <;> simp only [Bool.and_eq_true, Bool.or_eq_true, beq_iff_eq, reduceCtorEq] at h
    obtain ⟨h1, h2⟩ := h
    rcases h2 with ⟨rfl, h2⟩ | ⟨h2, h3⟩
    · exact ⟨⟨_, rfl, h1, Or.inl ⟨rfl, (xOL_at hj h2).2.1 rfl⟩⟩, Or.inl rfl⟩
    · obtain ⟨g1, g2, g3⟩ := xkd0 h2
      exact ⟨⟨_, rfl, h1, Or.inr ⟨g1, (xML_at hj h3).2, g2⟩⟩, Or.inr g3⟩
  case ireturn =>
    simp only [xlkB, Bool.and_eq_true, beq_iff_eq, decide_eq_true_eq] at h
    exact ⟨h.1, h.2⟩
  case lreturn =>
    simp only [xlkB, Bool.and_eq_true, beq_iff_eq, decide_eq_true_eq] at h
    exact ⟨h.1, h.2⟩
  case areturn =>
    simp only [xlkB, Bool.and_eq_true, beq_iff_eq, decide_eq_true_eq] at h
    refine ⟨h.1, ?_⟩
    have h2 := h.2
    split at h2
    · rename_i n hn
      exact ⟨_, hn, Or.inl ⟨_, rfl⟩⟩
    · rename_i n hn
      exact ⟨_, hn, Or.inr ⟨_, rfl⟩⟩
    · cases h2
  case return_ =>
    simp only [xlkB, Bool.and_eq_true, beq_iff_eq, decide_eq_true_eq] at h
    exact ⟨h.1, h.2⟩
  all_goals
    simp only [xlkB, Bool.and_eq_true, beq_iff_eq, decide_eq_true_eq] at h
    exact ⟨h, trivial⟩
end
section
/-! EVERY METHOD, INSTRUCTION BY INSTRUCTION, BY THE KERNEL. -/
theorem xcb_0 : xcb 0 0 xg0 = true := by decide +kernel
theorem xcb_1 : xcb 1 0 xg1 = true := by decide +kernel
theorem xcb_2 : xcb 2 0 xg2 = true := by decide +kernel
theorem xcb_3 : xcb 3 0 xg3 = true := by decide +kernel
theorem xcb_4 : xcb 4 0 xg4 = true := by decide +kernel
theorem xcb_5 : xcb 5 0 xg5 = true := by decide +kernel
theorem xcb_6 : xcb 6 0 xg6 = true := by decide +kernel
theorem xcb_7 : xcb 7 0 xg7 = true := by decide +kernel
theorem xcb_8 : xcb 8 0 xg8 = true := by decide +kernel
theorem xcb_9 : xcb 9 0 xg9 = true := by decide +kernel
theorem xcb_10 : xcb 10 0 xg10 = true := by decide +kernel
theorem xcb_11 : xcb 11 0 xg11 = true := by decide +kernel
theorem xcb_12 : xcb 12 0 xg12 = true := by decide +kernel
theorem xcb_13 : xcb 13 0 xg13 = true := by decide +kernel
theorem xcb_14 : xcb 14 0 xg14 = true := by decide +kernel
theorem xcb_15 : xcb 15 0 xg15 = true := by decide +kernel
theorem xcb_16 : xcb 16 0 xg16 = true := by decide +kernel
theorem xcb_17 : xcb 17 0 xg17 = true := by decide +kernel
theorem xcb_18 : xcb 18 0 xg18 = true := by decide +kernel
theorem xcb_19 : xcb 19 0 xg19 = true := by decide +kernel
theorem xcb_20 : xcb 20 0 xg20 = true := by decide +kernel
theorem xcb_21 : xcb 21 0 xg21 = true := by decide +kernel
theorem xcb_22 : xcb 22 0 xg22 = true := by decide +kernel
theorem xcb_23 : xcb 23 0 xg23 = true := by decide +kernel
theorem xcb_24 : xcb 24 0 xg24 = true := by decide +kernel
theorem xcb_25 : xcb 25 0 xg25 = true := by decide +kernel
theorem xcb_26 : xcb 26 0 xg26 = true := by decide +kernel
theorem xcb_27 : xcb 27 0 xg27 = true := by decide +kernel
theorem xcb_28 : xcb 28 0 xg28 = true := by decide +kernel
theorem xcb_29 : xcb 29 0 xg29 = true := by decide +kernel
theorem xcb_30 : xcb 30 0 xg30 = true := by decide +kernel
theorem xcb_31 : xcb 31 0 xg31 = true := by decide +kernel
theorem xcb_32 : xcb 32 0 xg32 = true := by decide +kernel
theorem xcb_33 : xcb 33 0 xg33 = true := by decide +kernel
theorem xcb_34 : xcb 34 0 xg34 = true := by decide +kernel
theorem xcb_35 : xcb 35 0 xg35 = true := by decide +kernel
theorem xcb_36 : xcb 36 0 xg36 = true := by decide +kernel
theorem xcb_37 : xcb 37 0 xg37 = true := by decide +kernel
theorem xcb_38 : xcb 38 0 xg38 = true := by decide +kernel
theorem xcb_39 : xcb 39 0 xg39 = true := by decide +kernel
theorem xcb_40 : xcb 40 0 xg40 = true := by decide +kernel
theorem xcb_41 : xcb 41 0 xg41 = true := by decide +kernel
theorem xcb_42 : xcb 42 0 xg42 = true := by decide +kernel
theorem xcb_43 : xcb 43 0 xg43 = true := by decide +kernel
theorem xcb_44 : xcb 44 0 xg44 = true := by decide +kernel
theorem xcb_45 : xcb 45 0 xg45 = true := by decide +kernel
theorem xcb_46 : xcb 46 0 xg46 = true := by decide +kernel
theorem xcb_47 : xcb 47 0 xg47 = true := by decide +kernel
theorem xcb_48 : xcb 48 0 xg48 = true := by decide +kernel
theorem xcb_49 : xcb 49 0 xg49 = true := by decide +kernel
theorem xcb_50 : xcb 50 0 xg50 = true := by decide +kernel
theorem xcb_51 : xcb 51 0 xg51 = true := by decide +kernel
theorem xcb_52 : xcb 52 0 xg52 = true := by decide +kernel
theorem xcb_53 : xcb 53 0 xg53 = true := by decide +kernel
theorem xcb_54 : xcb 54 0 xg54 = true := by decide +kernel
theorem xcb_55 : xcb 55 0 xg55 = true := by decide +kernel
theorem xcb_56 : xcb 56 0 xg56 = true := by decide +kernel
theorem xcb_57 : xcb 57 0 xg57 = true := by decide +kernel
theorem xcb_58 : xcb 58 0 xg58 = true := by decide +kernel
theorem xcb_59 : xcb 59 0 xg59 = true := by decide +kernel
theorem xcb_60 : xcb 60 0 xg60 = true := by decide +kernel
theorem xcb_61 : xcb 61 0 xg61 = true := by decide +kernel
theorem xcb_62 : xcb 62 0 xg62 = true := by decide +kernel
theorem xcb_63 : xcb 63 0 xg63 = true := by decide +kernel
theorem xcb_64 : xcb 64 0 xg64 = true := by decide +kernel
theorem xcb_65 : xcb 65 0 xg65 = true := by decide +kernel
theorem xcb_66 : xcb 66 0 xg66 = true := by decide +kernel
theorem xcb_67 : xcb 67 0 xg67 = true := by decide +kernel
theorem xcb_68 : xcb 68 0 xg68 = true := by decide +kernel
theorem xcb_69 : xcb 69 0 xg69 = true := by decide +kernel
theorem xcb_70 : xcb 70 0 xg70 = true := by decide +kernel
theorem xcb_71 : xcb 71 0 xg71 = true := by decide +kernel
theorem xcb_72 : xcb 72 0 xg72 = true := by decide +kernel
theorem xcb_73 : xcb 73 0 xg73 = true := by decide +kernel
theorem xcb_74 : xcb 74 0 xg74 = true := by decide +kernel
theorem xcb_75 : xcb 75 0 xg75 = true := by decide +kernel
theorem xcb_76 : xcb 76 0 xg76 = true := by decide +kernel
theorem xcb_77 : xcb 77 0 xg77 = true := by decide +kernel
theorem xcb_78 : xcb 78 0 xg78 = true := by decide +kernel
theorem xcb_79 : xcb 79 0 xg79 = true := by decide +kernel
theorem xcb_80 : xcb 80 0 xg80 = true := by decide +kernel
theorem xcb_81 : xcb 81 0 xg81 = true := by decide +kernel
theorem xcb_82 : xcb 82 0 xg82 = true := by decide +kernel
theorem xcb_83 : xcb 83 0 xg83 = true := by decide +kernel
theorem xcb_84 : xcb 84 0 xg84 = true := by decide +kernel
theorem xcb_85 : xcb 85 0 xg85 = true := by decide +kernel
theorem xcb_86 : xcb 86 0 xg86 = true := by decide +kernel
theorem xcb_87 : xcb 87 0 xg87 = true := by decide +kernel
theorem xcb_88 : xcb 88 0 xg88 = true := by decide +kernel
theorem xcb_89 : xcb 89 0 xg89 = true := by decide +kernel
theorem xcb_90 : xcb 90 0 xg90 = true := by decide +kernel
theorem xcb_91 : xcb 91 0 xg91 = true := by decide +kernel
theorem xcb_92 : xcb 92 0 xg92 = true := by decide +kernel
theorem xcb_93 : xcb 93 0 xg93 = true := by decide +kernel
theorem xcb_94 : xcb 94 0 xg94 = true := by decide +kernel
theorem xcb_95 : xcb 95 0 xg95 = true := by decide +kernel
theorem xcb_96 : xcb 96 0 xg96 = true := by decide +kernel
theorem xcb_97 : xcb 97 0 xg97 = true := by decide +kernel
theorem xcb_98 : xcb 98 0 xg98 = true := by decide +kernel
theorem xcb_99 : xcb 99 0 xg99 = true := by decide +kernel
theorem xcb_100 : xcb 100 0 xg100 = true := by decide +kernel
theorem xcb_101 : xcb 101 0 xg101 = true := by decide +kernel
theorem xcb_102 : xcb 102 0 xg102 = true := by decide +kernel
theorem xcb_103 : xcb 103 0 xg103 = true := by decide +kernel
theorem xcb_104 : xcb 104 0 xg104 = true := by decide +kernel
theorem xcb_105 : xcb 105 0 xg105 = true := by decide +kernel
theorem xcb_106 : xcb 106 0 xg106 = true := by decide +kernel
theorem xcb_107 : xcb 107 0 xg107 = true := by decide +kernel
theorem xcb_108 : xcb 108 0 xg108 = true := by decide +kernel
theorem xcb_109 : xcb 109 0 xg109 = true := by decide +kernel
theorem xcb_110 : xcb 110 0 xg110 = true := by decide +kernel
theorem xcb_111 : xcb 111 0 xg111 = true := by decide +kernel
theorem xcb_112 : xcb 112 0 xg112 = true := by decide +kernel
theorem xcb_113 : xcb 113 0 xg113 = true := by decide +kernel
theorem xcb_114 : xcb 114 0 xg114 = true := by decide +kernel
theorem xcb_115 : xcb 115 0 xg115 = true := by decide +kernel
theorem xcb_116 : xcb 116 0 xg116 = true := by decide +kernel
theorem xcb_117 : xcb 117 0 xg117 = true := by decide +kernel
theorem xcb_118 : xcb 118 0 xg118 = true := by decide +kernel
theorem xcb_119 : xcb 119 0 xg119 = true := by decide +kernel
theorem xcb_120 : xcb 120 0 xg120 = true := by decide +kernel
theorem xcb_121 : xcb 121 0 xg121 = true := by decide +kernel
theorem xcb_122 : xcb 122 0 xg122 = true := by decide +kernel
theorem xcb_123 : xcb 123 0 xg123 = true := by decide +kernel
theorem xcb_124 : xcb 124 0 xg124 = true := by decide +kernel
theorem xcb_125 : xcb 125 0 xg125 = true := by decide +kernel
theorem xcb_126 : xcb 126 0 xg126 = true := by decide +kernel
theorem xcb_127 : xcb 127 0 xg127 = true := by decide +kernel
theorem xcb_128 : xcb 128 0 xg128 = true := by decide +kernel
theorem xcb_129 : xcb 129 0 xg129 = true := by decide +kernel
theorem xcb_130 : xcb 130 0 xg130 = true := by decide +kernel
theorem xcb_131 : xcb 131 0 xg131 = true := by decide +kernel
theorem xcb_132 : xcb 132 0 xg132 = true := by decide +kernel
theorem xcb_133 : xcb 133 0 xg133 = true := by decide +kernel
theorem xcb_134 : xcb 134 0 xg134 = true := by decide +kernel
theorem xcb_135 : xcb 135 0 xg135 = true := by decide +kernel
theorem xcb_136 : xcb 136 0 xg136 = true := by decide +kernel
theorem xcb_137 : xcb 137 0 xg137 = true := by decide +kernel
theorem xcb_138 : xcb 138 0 xg138 = true := by decide +kernel
theorem xcb_139 : xcb 139 0 xg139 = true := by decide +kernel
theorem xcb_140 : xcb 140 0 xg140 = true := by decide +kernel
theorem xcb_141 : xcb 141 0 xg141 = true := by decide +kernel
theorem xcb_142 : xcb 142 0 xg142 = true := by decide +kernel
theorem xcb_143 : xcb 143 0 xg143 = true := by decide +kernel
theorem xcb_144 : xcb 144 0 xg144 = true := by decide +kernel
theorem xcb_145 : xcb 145 0 xg145 = true := by decide +kernel
theorem xcb_146 : xcb 146 0 xg146 = true := by decide +kernel
theorem xcb_147 : xcb 147 0 xg147 = true := by decide +kernel
theorem xcb_148 : xcb 148 0 xg148 = true := by decide +kernel
theorem xcb_149 : xcb 149 0 xg149 = true := by decide +kernel
theorem xcb_150 : xcb 150 0 xg150 = true := by decide +kernel
theorem xcb_151 : xcb 151 0 xg151 = true := by decide +kernel
theorem xcb_152 : xcb 152 0 xg152 = true := by decide +kernel
theorem xcb_153 : xcb 153 0 xg153 = true := by decide +kernel
theorem xcb_154 : xcb 154 0 xg154 = true := by decide +kernel
theorem xcb_155 : xcb 155 0 xg155 = true := by decide +kernel
theorem xcb_156 : xcb 156 0 xg156 = true := by decide +kernel
theorem xcb_157 : xcb 157 0 xg157 = true := by decide +kernel
theorem xcb_158 : xcb 158 0 xg158 = true := by decide +kernel
theorem xcb_159 : xcb 159 0 xg159 = true := by decide +kernel
theorem xcb_160 : xcb 160 0 xg160 = true := by decide +kernel
theorem xcb_161 : xcb 161 0 xg161 = true := by decide +kernel
theorem xcb_162 : xcb 162 0 xg162 = true := by decide +kernel
theorem xcb_163 : xcb 163 0 xg163 = true := by decide +kernel
theorem xcb_164 : xcb 164 0 xg164 = true := by decide +kernel
theorem xcb_165 : xcb 165 0 xg165 = true := by decide +kernel
theorem xcb_166 : xcb 166 0 xg166 = true := by decide +kernel
theorem xcb_167 : xcb 167 0 xg167 = true := by decide +kernel
theorem xcb_168 : xcb 168 0 xg168 = true := by decide +kernel
theorem xcb_169 : xcb 169 0 xg169 = true := by decide +kernel
theorem xcb_170 : xcb 170 0 xg170 = true := by decide +kernel
theorem xcb_171 : xcb 171 0 xg171 = true := by decide +kernel
theorem xcb_172 : xcb 172 0 xg172 = true := by decide +kernel
theorem xcb_173 : xcb 173 0 xg173 = true := by decide +kernel
theorem xcb_174 : xcb 174 0 xg174 = true := by decide +kernel
theorem xcb_175 : xcb 175 0 xg175 = true := by decide +kernel
theorem xcb_176 : xcb 176 0 xg176 = true := by decide +kernel
theorem xcb_177 : xcb 177 0 xg177 = true := by decide +kernel
theorem xcb_178 : xcb 178 0 xg178 = true := by decide +kernel
theorem xcb_179 : xcb 179 0 xg179 = true := by decide +kernel
theorem xcb_180 : xcb 180 0 xg180 = true := by decide +kernel
theorem xcb_181 : xcb 181 0 xg181 = true := by decide +kernel
theorem xcb_182 : xcb 182 0 xg182 = true := by decide +kernel
theorem xcb_183 : xcb 183 0 xg183 = true := by decide +kernel
theorem xcb_184 : xcb 184 0 xg184 = true := by decide +kernel
theorem xcb_185 : xcb 185 0 xg185 = true := by decide +kernel
theorem xcb_186 : xcb 186 0 xg186 = true := by decide +kernel
theorem xcb_187 : xcb 187 0 xg187 = true := by decide +kernel
theorem xcb_188 : xcb 188 0 xg188 = true := by decide +kernel
theorem xcb_189 : xcb 189 0 xg189 = true := by decide +kernel
theorem xcb_190 : xcb 190 0 xg190 = true := by decide +kernel
theorem xcb_191 : xcb 191 0 xg191 = true := by decide +kernel
theorem xcb_192 : xcb 192 0 xg192 = true := by decide +kernel
theorem xcb_193 : xcb 193 0 xg193 = true := by decide +kernel
theorem xcb_194 : xcb 194 0 xg194 = true := by decide +kernel
theorem xcb_195 : xcb 195 0 xg195 = true := by decide +kernel
theorem xcb_196 : xcb 196 0 xg196 = true := by decide +kernel
theorem xcb_197 : xcb 197 0 xg197 = true := by decide +kernel
theorem xcb_198 : xcb 198 0 xg198 = true := by decide +kernel
theorem xcb_199 : xcb 199 0 xg199 = true := by decide +kernel
theorem xcb_200 : xcb 200 0 xg200 = true := by decide +kernel
theorem xcb_201 : xcb 201 0 xg201 = true := by decide +kernel
theorem xcb_202 : xcb 202 0 xg202 = true := by decide +kernel
theorem xcb_203 : xcb 203 0 xg203 = true := by decide +kernel
theorem xcb_204 : xcb 204 0 xg204 = true := by decide +kernel
theorem xcb_205 : xcb 205 0 xg205 = true := by decide +kernel
theorem xcb_206 : xcb 206 0 xg206 = true := by decide +kernel
theorem xcb_207 : xcb 207 0 xg207 = true := by decide +kernel
theorem xcb_208 : xcb 208 0 xg208 = true := by decide +kernel
theorem xcb_209 : xcb 209 0 xg209 = true := by decide +kernel
theorem xcb_210 : xcb 210 0 xg210 = true := by decide +kernel
theorem xcb_211 : xcb 211 0 xg211 = true := by decide +kernel
theorem xcb_212 : xcb 212 0 xg212 = true := by decide +kernel
theorem xcb_213 : xcb 213 0 xg213 = true := by decide +kernel
theorem xcb_214 : xcb 214 0 xg214 = true := by decide +kernel
theorem xcb_215 : xcb 215 0 xg215 = true := by decide +kernel
theorem xcb_216 : xcb 216 0 xg216 = true := by decide +kernel
theorem xcb_217 : xcb 217 0 xg217 = true := by decide +kernel
theorem xcb_218 : xcb 218 0 xg218 = true := by decide +kernel
theorem xcb_219 : xcb 219 0 xg219 = true := by decide +kernel
theorem xcb_220 : xcb 220 0 xg220 = true := by decide +kernel
theorem xcb_221 : xcb 221 0 xg221 = true := by decide +kernel
theorem xcb_222 : xcb 222 0 xg222 = true := by decide +kernel
theorem xcb_223 : xcb 223 0 xg223 = true := by decide +kernel
theorem xcb_224 : xcb 224 0 xg224 = true := by decide +kernel
theorem xcb_225 : xcb 225 0 xg225 = true := by decide +kernel
theorem xcb_226 : xcb 226 0 xg226 = true := by decide +kernel
theorem xcb_227 : xcb 227 0 xg227 = true := by decide +kernel
theorem xcb_228 : xcb 228 0 xg228 = true := by decide +kernel
theorem xcb_229 : xcb 229 0 xg229 = true := by decide +kernel
theorem xcb_230 : xcb 230 0 xg230 = true := by decide +kernel
theorem xcb_231 : xcb 231 0 xg231 = true := by decide +kernel
theorem xcb_232 : xcb 232 0 xg232 = true := by decide +kernel
theorem xcb_233 : xcb 233 0 xg233 = true := by decide +kernel
theorem xcb_234 : xcb 234 0 xg234 = true := by decide +kernel
theorem xcb_235 : xcb 235 0 xg235 = true := by decide +kernel
theorem xcb_236 : xcb 236 0 xg236 = true := by decide +kernel
theorem xcb_237 : xcb 237 0 xg237 = true := by decide +kernel
theorem xcb_238 : xcb 238 0 xg238 = true := by decide +kernel
theorem xcb_239 : xcb 239 0 xg239 = true := by decide +kernel
theorem xcb_240 : xcb 240 0 xg240 = true := by decide +kernel
theorem xcb_241 : xcb 241 0 xg241 = true := by decide +kernel
theorem xcb_242 : xcb 242 0 xg242 = true := by decide +kernel
theorem xcb_243 : xcb 243 0 xg243 = true := by decide +kernel
theorem xcb_244 : xcb 244 0 xg244 = true := by decide +kernel
theorem xcb_245 : xcb 245 0 xg245 = true := by decide +kernel
theorem xcb_246 : xcb 246 0 xg246 = true := by decide +kernel
theorem xcb_247 : xcb 247 0 xg247 = true := by decide +kernel
theorem xcb_248 : xcb 248 0 xg248 = true := by decide +kernel
theorem xcb_249 : xcb 249 0 xg249 = true := by decide +kernel
theorem xcb_250 : xcb 250 0 xg250 = true := by decide +kernel
theorem xcb_251 : xcb 251 0 xg251 = true := by decide +kernel
theorem xcb_252 : xcb 252 0 xg252 = true := by decide +kernel
theorem xcb_253 : xcb 253 0 xg253 = true := by decide +kernel
theorem xcb_254 : xcb 254 0 xg254 = true := by decide +kernel
theorem xcb_255 : xcb 255 0 xg255 = true := by decide +kernel
theorem xcb_256 : xcb 256 0 xg256 = true := by decide +kernel
theorem xcb_257 : xcb 257 0 xg257 = true := by decide +kernel
end
section
/-! THE LAW, INSTRUCTION BY INSTRUCTION, BY THE KERNEL. -/
theorem xcb_app {j : Nat} : ∀ (a b : List (Option (Instr × Nat))) (p0 : Nat), xcb j p0 a = true → xcb j (p0 + a.length) b = true → xcb j p0 (a ++ b) = true
  | [], b, p0, _, h => h
  | none :: r, b, p0, h1, h2 => xcb_app r b (p0 + 1) h1 (by rw [show p0 + 1 + r.length = p0 + (none :: r : List (Option (Instr × Nat))).length by simp; omega]; exact h2)
  | some (i, len) :: r, b, p0, h1, h2 => by
    simp only [xcb, Bool.and_eq_true] at h1
    simp only [List.cons_append, xcb, Bool.and_eq_true]
    exact ⟨h1.1, xcb_app r b (p0 + 1) h1.2 (by rw [show p0 + 1 + r.length = p0 + (some (i, len) :: r).length by simp; omega]; exact h2)⟩
theorem xcb_app' {j p0 q : Nat} {a b : List (Option (Instr × Nat))} (h1 : xcb j p0 a = true) (hq : p0 + a.length = q) (h2 : xcb j q b = true) : xcb j p0 (a ++ b) = true := xcb_app a b p0 h1 (by rw [hq]; exact h2)
theorem xcb_258_0 : xcb 258 0 xg258_0 = true := by decide +kernel
theorem xcb_258_1 : xcb 258 130 xg258_1 = true := by decide +kernel
theorem xcb_258_2 : xcb 258 260 xg258_2 = true := by decide +kernel
theorem xcb_258_3 : xcb 258 390 xg258_3 = true := by decide +kernel
theorem xcb_258_4 : xcb 258 520 xg258_4 = true := by decide +kernel
theorem xcb_258_5 : xcb 258 650 xg258_5 = true := by decide +kernel
theorem xcb_258_6 : xcb 258 780 xg258_6 = true := by decide +kernel
theorem xcb_258_7 : xcb 258 910 xg258_7 = true := by decide +kernel
theorem xcb_258_8 : xcb 258 1040 xg258_8 = true := by decide +kernel
theorem xcb_258 : xcb 258 0 xg258 = true := xcb_app' xcb_258_0 (by decide +kernel) (xcb_app' xcb_258_1 (by decide +kernel) (xcb_app' xcb_258_2 (by decide +kernel) (xcb_app' xcb_258_3 (by decide +kernel) (xcb_app' xcb_258_4 (by decide +kernel) (xcb_app' xcb_258_5 (by decide +kernel) (xcb_app' xcb_258_6 (by decide +kernel) (xcb_app' xcb_258_7 (by decide +kernel) (xcb_258_8))))))))
end
section
/-! THE METHODS' CODE WORDS. -/
theorem xcw_0 : xin (xaux 0).1 (.code (xyn 0) (xbt 0) (xmx 0) (xrt 0)) = true := by decide +kernel
theorem xcw_1 : xin (xaux 1).1 (.code (xyn 1) (xbt 1) (xmx 1) (xrt 1)) = true := by decide +kernel
theorem xcw_2 : xin (xaux 2).1 (.code (xyn 2) (xbt 2) (xmx 2) (xrt 2)) = true := by decide +kernel
theorem xcw_3 : xin (xaux 3).1 (.code (xyn 3) (xbt 3) (xmx 3) (xrt 3)) = true := by decide +kernel
theorem xcw_4 : xin (xaux 4).1 (.code (xyn 4) (xbt 4) (xmx 4) (xrt 4)) = true := by decide +kernel
theorem xcw_5 : xin (xaux 5).1 (.code (xyn 5) (xbt 5) (xmx 5) (xrt 5)) = true := by decide +kernel
theorem xcw_6 : xin (xaux 6).1 (.code (xyn 6) (xbt 6) (xmx 6) (xrt 6)) = true := by decide +kernel
theorem xcw_7 : xin (xaux 7).1 (.code (xyn 7) (xbt 7) (xmx 7) (xrt 7)) = true := by decide +kernel
theorem xcw_8 : xin (xaux 8).1 (.code (xyn 8) (xbt 8) (xmx 8) (xrt 8)) = true := by decide +kernel
theorem xcw_9 : xin (xaux 9).1 (.code (xyn 9) (xbt 9) (xmx 9) (xrt 9)) = true := by decide +kernel
theorem xcw_10 : xin (xaux 10).1 (.code (xyn 10) (xbt 10) (xmx 10) (xrt 10)) = true := by decide +kernel
theorem xcw_11 : xin (xaux 11).1 (.code (xyn 11) (xbt 11) (xmx 11) (xrt 11)) = true := by decide +kernel
theorem xcw_12 : xin (xaux 12).1 (.code (xyn 12) (xbt 12) (xmx 12) (xrt 12)) = true := by decide +kernel
theorem xcw_13 : xin (xaux 13).1 (.code (xyn 13) (xbt 13) (xmx 13) (xrt 13)) = true := by decide +kernel
theorem xcw_14 : xin (xaux 14).1 (.code (xyn 14) (xbt 14) (xmx 14) (xrt 14)) = true := by decide +kernel
theorem xcw_15 : xin (xaux 15).1 (.code (xyn 15) (xbt 15) (xmx 15) (xrt 15)) = true := by decide +kernel
theorem xcw_16 : xin (xaux 16).1 (.code (xyn 16) (xbt 16) (xmx 16) (xrt 16)) = true := by decide +kernel
theorem xcw_17 : xin (xaux 17).1 (.code (xyn 17) (xbt 17) (xmx 17) (xrt 17)) = true := by decide +kernel
theorem xcw_18 : xin (xaux 18).1 (.code (xyn 18) (xbt 18) (xmx 18) (xrt 18)) = true := by decide +kernel
theorem xcw_19 : xin (xaux 19).1 (.code (xyn 19) (xbt 19) (xmx 19) (xrt 19)) = true := by decide +kernel
theorem xcw_20 : xin (xaux 20).1 (.code (xyn 20) (xbt 20) (xmx 20) (xrt 20)) = true := by decide +kernel
theorem xcw_21 : xin (xaux 21).1 (.code (xyn 21) (xbt 21) (xmx 21) (xrt 21)) = true := by decide +kernel
theorem xcw_22 : xin (xaux 22).1 (.code (xyn 22) (xbt 22) (xmx 22) (xrt 22)) = true := by decide +kernel
theorem xcw_23 : xin (xaux 23).1 (.code (xyn 23) (xbt 23) (xmx 23) (xrt 23)) = true := by decide +kernel
theorem xcw_24 : xin (xaux 24).1 (.code (xyn 24) (xbt 24) (xmx 24) (xrt 24)) = true := by decide +kernel
theorem xcw_25 : xin (xaux 25).1 (.code (xyn 25) (xbt 25) (xmx 25) (xrt 25)) = true := by decide +kernel
theorem xcw_26 : xin (xaux 26).1 (.code (xyn 26) (xbt 26) (xmx 26) (xrt 26)) = true := by decide +kernel
theorem xcw_27 : xin (xaux 27).1 (.code (xyn 27) (xbt 27) (xmx 27) (xrt 27)) = true := by decide +kernel
theorem xcw_28 : xin (xaux 28).1 (.code (xyn 28) (xbt 28) (xmx 28) (xrt 28)) = true := by decide +kernel
theorem xcw_29 : xin (xaux 29).1 (.code (xyn 29) (xbt 29) (xmx 29) (xrt 29)) = true := by decide +kernel
theorem xcw_30 : xin (xaux 30).1 (.code (xyn 30) (xbt 30) (xmx 30) (xrt 30)) = true := by decide +kernel
theorem xcw_31 : xin (xaux 31).1 (.code (xyn 31) (xbt 31) (xmx 31) (xrt 31)) = true := by decide +kernel
theorem xcw_32 : xin (xaux 32).1 (.code (xyn 32) (xbt 32) (xmx 32) (xrt 32)) = true := by decide +kernel
theorem xcw_33 : xin (xaux 33).1 (.code (xyn 33) (xbt 33) (xmx 33) (xrt 33)) = true := by decide +kernel
theorem xcw_34 : xin (xaux 34).1 (.code (xyn 34) (xbt 34) (xmx 34) (xrt 34)) = true := by decide +kernel
theorem xcw_35 : xin (xaux 35).1 (.code (xyn 35) (xbt 35) (xmx 35) (xrt 35)) = true := by decide +kernel
theorem xcw_36 : xin (xaux 36).1 (.code (xyn 36) (xbt 36) (xmx 36) (xrt 36)) = true := by decide +kernel
theorem xcw_37 : xin (xaux 37).1 (.code (xyn 37) (xbt 37) (xmx 37) (xrt 37)) = true := by decide +kernel
theorem xcw_38 : xin (xaux 38).1 (.code (xyn 38) (xbt 38) (xmx 38) (xrt 38)) = true := by decide +kernel
theorem xcw_39 : xin (xaux 39).1 (.code (xyn 39) (xbt 39) (xmx 39) (xrt 39)) = true := by decide +kernel
theorem xcw_40 : xin (xaux 40).1 (.code (xyn 40) (xbt 40) (xmx 40) (xrt 40)) = true := by decide +kernel
theorem xcw_41 : xin (xaux 41).1 (.code (xyn 41) (xbt 41) (xmx 41) (xrt 41)) = true := by decide +kernel
theorem xcw_42 : xin (xaux 42).1 (.code (xyn 42) (xbt 42) (xmx 42) (xrt 42)) = true := by decide +kernel
theorem xcw_43 : xin (xaux 43).1 (.code (xyn 43) (xbt 43) (xmx 43) (xrt 43)) = true := by decide +kernel
theorem xcw_44 : xin (xaux 44).1 (.code (xyn 44) (xbt 44) (xmx 44) (xrt 44)) = true := by decide +kernel
theorem xcw_45 : xin (xaux 45).1 (.code (xyn 45) (xbt 45) (xmx 45) (xrt 45)) = true := by decide +kernel
theorem xcw_46 : xin (xaux 46).1 (.code (xyn 46) (xbt 46) (xmx 46) (xrt 46)) = true := by decide +kernel
theorem xcw_47 : xin (xaux 47).1 (.code (xyn 47) (xbt 47) (xmx 47) (xrt 47)) = true := by decide +kernel
theorem xcw_48 : xin (xaux 48).1 (.code (xyn 48) (xbt 48) (xmx 48) (xrt 48)) = true := by decide +kernel
theorem xcw_49 : xin (xaux 49).1 (.code (xyn 49) (xbt 49) (xmx 49) (xrt 49)) = true := by decide +kernel
theorem xcw_50 : xin (xaux 50).1 (.code (xyn 50) (xbt 50) (xmx 50) (xrt 50)) = true := by decide +kernel
theorem xcw_51 : xin (xaux 51).1 (.code (xyn 51) (xbt 51) (xmx 51) (xrt 51)) = true := by decide +kernel
theorem xcw_52 : xin (xaux 52).1 (.code (xyn 52) (xbt 52) (xmx 52) (xrt 52)) = true := by decide +kernel
theorem xcw_53 : xin (xaux 53).1 (.code (xyn 53) (xbt 53) (xmx 53) (xrt 53)) = true := by decide +kernel
theorem xcw_54 : xin (xaux 54).1 (.code (xyn 54) (xbt 54) (xmx 54) (xrt 54)) = true := by decide +kernel
theorem xcw_55 : xin (xaux 55).1 (.code (xyn 55) (xbt 55) (xmx 55) (xrt 55)) = true := by decide +kernel
theorem xcw_56 : xin (xaux 56).1 (.code (xyn 56) (xbt 56) (xmx 56) (xrt 56)) = true := by decide +kernel
theorem xcw_57 : xin (xaux 57).1 (.code (xyn 57) (xbt 57) (xmx 57) (xrt 57)) = true := by decide +kernel
theorem xcw_58 : xin (xaux 58).1 (.code (xyn 58) (xbt 58) (xmx 58) (xrt 58)) = true := by decide +kernel
theorem xcw_59 : xin (xaux 59).1 (.code (xyn 59) (xbt 59) (xmx 59) (xrt 59)) = true := by decide +kernel
theorem xcw_60 : xin (xaux 60).1 (.code (xyn 60) (xbt 60) (xmx 60) (xrt 60)) = true := by decide +kernel
theorem xcw_61 : xin (xaux 61).1 (.code (xyn 61) (xbt 61) (xmx 61) (xrt 61)) = true := by decide +kernel
theorem xcw_62 : xin (xaux 62).1 (.code (xyn 62) (xbt 62) (xmx 62) (xrt 62)) = true := by decide +kernel
theorem xcw_63 : xin (xaux 63).1 (.code (xyn 63) (xbt 63) (xmx 63) (xrt 63)) = true := by decide +kernel
theorem xcw_64 : xin (xaux 64).1 (.code (xyn 64) (xbt 64) (xmx 64) (xrt 64)) = true := by decide +kernel
theorem xcw_65 : xin (xaux 65).1 (.code (xyn 65) (xbt 65) (xmx 65) (xrt 65)) = true := by decide +kernel
theorem xcw_66 : xin (xaux 66).1 (.code (xyn 66) (xbt 66) (xmx 66) (xrt 66)) = true := by decide +kernel
theorem xcw_67 : xin (xaux 67).1 (.code (xyn 67) (xbt 67) (xmx 67) (xrt 67)) = true := by decide +kernel
theorem xcw_68 : xin (xaux 68).1 (.code (xyn 68) (xbt 68) (xmx 68) (xrt 68)) = true := by decide +kernel
theorem xcw_69 : xin (xaux 69).1 (.code (xyn 69) (xbt 69) (xmx 69) (xrt 69)) = true := by decide +kernel
theorem xcw_70 : xin (xaux 70).1 (.code (xyn 70) (xbt 70) (xmx 70) (xrt 70)) = true := by decide +kernel
theorem xcw_71 : xin (xaux 71).1 (.code (xyn 71) (xbt 71) (xmx 71) (xrt 71)) = true := by decide +kernel
theorem xcw_72 : xin (xaux 72).1 (.code (xyn 72) (xbt 72) (xmx 72) (xrt 72)) = true := by decide +kernel
theorem xcw_73 : xin (xaux 73).1 (.code (xyn 73) (xbt 73) (xmx 73) (xrt 73)) = true := by decide +kernel
theorem xcw_74 : xin (xaux 74).1 (.code (xyn 74) (xbt 74) (xmx 74) (xrt 74)) = true := by decide +kernel
theorem xcw_75 : xin (xaux 75).1 (.code (xyn 75) (xbt 75) (xmx 75) (xrt 75)) = true := by decide +kernel
theorem xcw_76 : xin (xaux 76).1 (.code (xyn 76) (xbt 76) (xmx 76) (xrt 76)) = true := by decide +kernel
theorem xcw_77 : xin (xaux 77).1 (.code (xyn 77) (xbt 77) (xmx 77) (xrt 77)) = true := by decide +kernel
theorem xcw_78 : xin (xaux 78).1 (.code (xyn 78) (xbt 78) (xmx 78) (xrt 78)) = true := by decide +kernel
theorem xcw_79 : xin (xaux 79).1 (.code (xyn 79) (xbt 79) (xmx 79) (xrt 79)) = true := by decide +kernel
theorem xcw_80 : xin (xaux 80).1 (.code (xyn 80) (xbt 80) (xmx 80) (xrt 80)) = true := by decide +kernel
theorem xcw_81 : xin (xaux 81).1 (.code (xyn 81) (xbt 81) (xmx 81) (xrt 81)) = true := by decide +kernel
theorem xcw_82 : xin (xaux 82).1 (.code (xyn 82) (xbt 82) (xmx 82) (xrt 82)) = true := by decide +kernel
theorem xcw_83 : xin (xaux 83).1 (.code (xyn 83) (xbt 83) (xmx 83) (xrt 83)) = true := by decide +kernel
theorem xcw_84 : xin (xaux 84).1 (.code (xyn 84) (xbt 84) (xmx 84) (xrt 84)) = true := by decide +kernel
theorem xcw_85 : xin (xaux 85).1 (.code (xyn 85) (xbt 85) (xmx 85) (xrt 85)) = true := by decide +kernel
theorem xcw_86 : xin (xaux 86).1 (.code (xyn 86) (xbt 86) (xmx 86) (xrt 86)) = true := by decide +kernel
theorem xcw_87 : xin (xaux 87).1 (.code (xyn 87) (xbt 87) (xmx 87) (xrt 87)) = true := by decide +kernel
theorem xcw_88 : xin (xaux 88).1 (.code (xyn 88) (xbt 88) (xmx 88) (xrt 88)) = true := by decide +kernel
theorem xcw_89 : xin (xaux 89).1 (.code (xyn 89) (xbt 89) (xmx 89) (xrt 89)) = true := by decide +kernel
theorem xcw_90 : xin (xaux 90).1 (.code (xyn 90) (xbt 90) (xmx 90) (xrt 90)) = true := by decide +kernel
theorem xcw_91 : xin (xaux 91).1 (.code (xyn 91) (xbt 91) (xmx 91) (xrt 91)) = true := by decide +kernel
theorem xcw_92 : xin (xaux 92).1 (.code (xyn 92) (xbt 92) (xmx 92) (xrt 92)) = true := by decide +kernel
theorem xcw_93 : xin (xaux 93).1 (.code (xyn 93) (xbt 93) (xmx 93) (xrt 93)) = true := by decide +kernel
theorem xcw_94 : xin (xaux 94).1 (.code (xyn 94) (xbt 94) (xmx 94) (xrt 94)) = true := by decide +kernel
theorem xcw_95 : xin (xaux 95).1 (.code (xyn 95) (xbt 95) (xmx 95) (xrt 95)) = true := by decide +kernel
theorem xcw_96 : xin (xaux 96).1 (.code (xyn 96) (xbt 96) (xmx 96) (xrt 96)) = true := by decide +kernel
theorem xcw_97 : xin (xaux 97).1 (.code (xyn 97) (xbt 97) (xmx 97) (xrt 97)) = true := by decide +kernel
theorem xcw_98 : xin (xaux 98).1 (.code (xyn 98) (xbt 98) (xmx 98) (xrt 98)) = true := by decide +kernel
theorem xcw_99 : xin (xaux 99).1 (.code (xyn 99) (xbt 99) (xmx 99) (xrt 99)) = true := by decide +kernel
theorem xcw_100 : xin (xaux 100).1 (.code (xyn 100) (xbt 100) (xmx 100) (xrt 100)) = true := by decide +kernel
theorem xcw_101 : xin (xaux 101).1 (.code (xyn 101) (xbt 101) (xmx 101) (xrt 101)) = true := by decide +kernel
theorem xcw_102 : xin (xaux 102).1 (.code (xyn 102) (xbt 102) (xmx 102) (xrt 102)) = true := by decide +kernel
theorem xcw_103 : xin (xaux 103).1 (.code (xyn 103) (xbt 103) (xmx 103) (xrt 103)) = true := by decide +kernel
theorem xcw_104 : xin (xaux 104).1 (.code (xyn 104) (xbt 104) (xmx 104) (xrt 104)) = true := by decide +kernel
theorem xcw_105 : xin (xaux 105).1 (.code (xyn 105) (xbt 105) (xmx 105) (xrt 105)) = true := by decide +kernel
theorem xcw_106 : xin (xaux 106).1 (.code (xyn 106) (xbt 106) (xmx 106) (xrt 106)) = true := by decide +kernel
theorem xcw_107 : xin (xaux 107).1 (.code (xyn 107) (xbt 107) (xmx 107) (xrt 107)) = true := by decide +kernel
theorem xcw_108 : xin (xaux 108).1 (.code (xyn 108) (xbt 108) (xmx 108) (xrt 108)) = true := by decide +kernel
theorem xcw_109 : xin (xaux 109).1 (.code (xyn 109) (xbt 109) (xmx 109) (xrt 109)) = true := by decide +kernel
theorem xcw_110 : xin (xaux 110).1 (.code (xyn 110) (xbt 110) (xmx 110) (xrt 110)) = true := by decide +kernel
theorem xcw_111 : xin (xaux 111).1 (.code (xyn 111) (xbt 111) (xmx 111) (xrt 111)) = true := by decide +kernel
theorem xcw_112 : xin (xaux 112).1 (.code (xyn 112) (xbt 112) (xmx 112) (xrt 112)) = true := by decide +kernel
theorem xcw_113 : xin (xaux 113).1 (.code (xyn 113) (xbt 113) (xmx 113) (xrt 113)) = true := by decide +kernel
theorem xcw_114 : xin (xaux 114).1 (.code (xyn 114) (xbt 114) (xmx 114) (xrt 114)) = true := by decide +kernel
theorem xcw_115 : xin (xaux 115).1 (.code (xyn 115) (xbt 115) (xmx 115) (xrt 115)) = true := by decide +kernel
theorem xcw_116 : xin (xaux 116).1 (.code (xyn 116) (xbt 116) (xmx 116) (xrt 116)) = true := by decide +kernel
theorem xcw_117 : xin (xaux 117).1 (.code (xyn 117) (xbt 117) (xmx 117) (xrt 117)) = true := by decide +kernel
theorem xcw_118 : xin (xaux 118).1 (.code (xyn 118) (xbt 118) (xmx 118) (xrt 118)) = true := by decide +kernel
theorem xcw_119 : xin (xaux 119).1 (.code (xyn 119) (xbt 119) (xmx 119) (xrt 119)) = true := by decide +kernel
theorem xcw_120 : xin (xaux 120).1 (.code (xyn 120) (xbt 120) (xmx 120) (xrt 120)) = true := by decide +kernel
theorem xcw_121 : xin (xaux 121).1 (.code (xyn 121) (xbt 121) (xmx 121) (xrt 121)) = true := by decide +kernel
theorem xcw_122 : xin (xaux 122).1 (.code (xyn 122) (xbt 122) (xmx 122) (xrt 122)) = true := by decide +kernel
theorem xcw_123 : xin (xaux 123).1 (.code (xyn 123) (xbt 123) (xmx 123) (xrt 123)) = true := by decide +kernel
theorem xcw_124 : xin (xaux 124).1 (.code (xyn 124) (xbt 124) (xmx 124) (xrt 124)) = true := by decide +kernel
theorem xcw_125 : xin (xaux 125).1 (.code (xyn 125) (xbt 125) (xmx 125) (xrt 125)) = true := by decide +kernel
theorem xcw_126 : xin (xaux 126).1 (.code (xyn 126) (xbt 126) (xmx 126) (xrt 126)) = true := by decide +kernel
theorem xcw_127 : xin (xaux 127).1 (.code (xyn 127) (xbt 127) (xmx 127) (xrt 127)) = true := by decide +kernel
theorem xcw_128 : xin (xaux 128).1 (.code (xyn 128) (xbt 128) (xmx 128) (xrt 128)) = true := by decide +kernel
theorem xcw_129 : xin (xaux 129).1 (.code (xyn 129) (xbt 129) (xmx 129) (xrt 129)) = true := by decide +kernel
theorem xcw_130 : xin (xaux 130).1 (.code (xyn 130) (xbt 130) (xmx 130) (xrt 130)) = true := by decide +kernel
theorem xcw_131 : xin (xaux 131).1 (.code (xyn 131) (xbt 131) (xmx 131) (xrt 131)) = true := by decide +kernel
theorem xcw_132 : xin (xaux 132).1 (.code (xyn 132) (xbt 132) (xmx 132) (xrt 132)) = true := by decide +kernel
theorem xcw_133 : xin (xaux 133).1 (.code (xyn 133) (xbt 133) (xmx 133) (xrt 133)) = true := by decide +kernel
theorem xcw_134 : xin (xaux 134).1 (.code (xyn 134) (xbt 134) (xmx 134) (xrt 134)) = true := by decide +kernel
theorem xcw_135 : xin (xaux 135).1 (.code (xyn 135) (xbt 135) (xmx 135) (xrt 135)) = true := by decide +kernel
theorem xcw_136 : xin (xaux 136).1 (.code (xyn 136) (xbt 136) (xmx 136) (xrt 136)) = true := by decide +kernel
theorem xcw_137 : xin (xaux 137).1 (.code (xyn 137) (xbt 137) (xmx 137) (xrt 137)) = true := by decide +kernel
theorem xcw_138 : xin (xaux 138).1 (.code (xyn 138) (xbt 138) (xmx 138) (xrt 138)) = true := by decide +kernel
theorem xcw_139 : xin (xaux 139).1 (.code (xyn 139) (xbt 139) (xmx 139) (xrt 139)) = true := by decide +kernel
theorem xcw_140 : xin (xaux 140).1 (.code (xyn 140) (xbt 140) (xmx 140) (xrt 140)) = true := by decide +kernel
theorem xcw_141 : xin (xaux 141).1 (.code (xyn 141) (xbt 141) (xmx 141) (xrt 141)) = true := by decide +kernel
theorem xcw_142 : xin (xaux 142).1 (.code (xyn 142) (xbt 142) (xmx 142) (xrt 142)) = true := by decide +kernel
theorem xcw_143 : xin (xaux 143).1 (.code (xyn 143) (xbt 143) (xmx 143) (xrt 143)) = true := by decide +kernel
theorem xcw_144 : xin (xaux 144).1 (.code (xyn 144) (xbt 144) (xmx 144) (xrt 144)) = true := by decide +kernel
theorem xcw_145 : xin (xaux 145).1 (.code (xyn 145) (xbt 145) (xmx 145) (xrt 145)) = true := by decide +kernel
theorem xcw_146 : xin (xaux 146).1 (.code (xyn 146) (xbt 146) (xmx 146) (xrt 146)) = true := by decide +kernel
theorem xcw_147 : xin (xaux 147).1 (.code (xyn 147) (xbt 147) (xmx 147) (xrt 147)) = true := by decide +kernel
theorem xcw_148 : xin (xaux 148).1 (.code (xyn 148) (xbt 148) (xmx 148) (xrt 148)) = true := by decide +kernel
theorem xcw_149 : xin (xaux 149).1 (.code (xyn 149) (xbt 149) (xmx 149) (xrt 149)) = true := by decide +kernel
theorem xcw_150 : xin (xaux 150).1 (.code (xyn 150) (xbt 150) (xmx 150) (xrt 150)) = true := by decide +kernel
theorem xcw_151 : xin (xaux 151).1 (.code (xyn 151) (xbt 151) (xmx 151) (xrt 151)) = true := by decide +kernel
theorem xcw_152 : xin (xaux 152).1 (.code (xyn 152) (xbt 152) (xmx 152) (xrt 152)) = true := by decide +kernel
theorem xcw_153 : xin (xaux 153).1 (.code (xyn 153) (xbt 153) (xmx 153) (xrt 153)) = true := by decide +kernel
theorem xcw_154 : xin (xaux 154).1 (.code (xyn 154) (xbt 154) (xmx 154) (xrt 154)) = true := by decide +kernel
theorem xcw_155 : xin (xaux 155).1 (.code (xyn 155) (xbt 155) (xmx 155) (xrt 155)) = true := by decide +kernel
theorem xcw_156 : xin (xaux 156).1 (.code (xyn 156) (xbt 156) (xmx 156) (xrt 156)) = true := by decide +kernel
theorem xcw_157 : xin (xaux 157).1 (.code (xyn 157) (xbt 157) (xmx 157) (xrt 157)) = true := by decide +kernel
theorem xcw_158 : xin (xaux 158).1 (.code (xyn 158) (xbt 158) (xmx 158) (xrt 158)) = true := by decide +kernel
theorem xcw_159 : xin (xaux 159).1 (.code (xyn 159) (xbt 159) (xmx 159) (xrt 159)) = true := by decide +kernel
theorem xcw_160 : xin (xaux 160).1 (.code (xyn 160) (xbt 160) (xmx 160) (xrt 160)) = true := by decide +kernel
theorem xcw_161 : xin (xaux 161).1 (.code (xyn 161) (xbt 161) (xmx 161) (xrt 161)) = true := by decide +kernel
theorem xcw_162 : xin (xaux 162).1 (.code (xyn 162) (xbt 162) (xmx 162) (xrt 162)) = true := by decide +kernel
theorem xcw_163 : xin (xaux 163).1 (.code (xyn 163) (xbt 163) (xmx 163) (xrt 163)) = true := by decide +kernel
theorem xcw_164 : xin (xaux 164).1 (.code (xyn 164) (xbt 164) (xmx 164) (xrt 164)) = true := by decide +kernel
theorem xcw_165 : xin (xaux 165).1 (.code (xyn 165) (xbt 165) (xmx 165) (xrt 165)) = true := by decide +kernel
theorem xcw_166 : xin (xaux 166).1 (.code (xyn 166) (xbt 166) (xmx 166) (xrt 166)) = true := by decide +kernel
theorem xcw_167 : xin (xaux 167).1 (.code (xyn 167) (xbt 167) (xmx 167) (xrt 167)) = true := by decide +kernel
theorem xcw_168 : xin (xaux 168).1 (.code (xyn 168) (xbt 168) (xmx 168) (xrt 168)) = true := by decide +kernel
theorem xcw_169 : xin (xaux 169).1 (.code (xyn 169) (xbt 169) (xmx 169) (xrt 169)) = true := by decide +kernel
theorem xcw_170 : xin (xaux 170).1 (.code (xyn 170) (xbt 170) (xmx 170) (xrt 170)) = true := by decide +kernel
theorem xcw_171 : xin (xaux 171).1 (.code (xyn 171) (xbt 171) (xmx 171) (xrt 171)) = true := by decide +kernel
theorem xcw_172 : xin (xaux 172).1 (.code (xyn 172) (xbt 172) (xmx 172) (xrt 172)) = true := by decide +kernel
theorem xcw_173 : xin (xaux 173).1 (.code (xyn 173) (xbt 173) (xmx 173) (xrt 173)) = true := by decide +kernel
theorem xcw_174 : xin (xaux 174).1 (.code (xyn 174) (xbt 174) (xmx 174) (xrt 174)) = true := by decide +kernel
theorem xcw_175 : xin (xaux 175).1 (.code (xyn 175) (xbt 175) (xmx 175) (xrt 175)) = true := by decide +kernel
theorem xcw_176 : xin (xaux 176).1 (.code (xyn 176) (xbt 176) (xmx 176) (xrt 176)) = true := by decide +kernel
theorem xcw_177 : xin (xaux 177).1 (.code (xyn 177) (xbt 177) (xmx 177) (xrt 177)) = true := by decide +kernel
theorem xcw_178 : xin (xaux 178).1 (.code (xyn 178) (xbt 178) (xmx 178) (xrt 178)) = true := by decide +kernel
theorem xcw_179 : xin (xaux 179).1 (.code (xyn 179) (xbt 179) (xmx 179) (xrt 179)) = true := by decide +kernel
theorem xcw_180 : xin (xaux 180).1 (.code (xyn 180) (xbt 180) (xmx 180) (xrt 180)) = true := by decide +kernel
theorem xcw_181 : xin (xaux 181).1 (.code (xyn 181) (xbt 181) (xmx 181) (xrt 181)) = true := by decide +kernel
theorem xcw_182 : xin (xaux 182).1 (.code (xyn 182) (xbt 182) (xmx 182) (xrt 182)) = true := by decide +kernel
theorem xcw_183 : xin (xaux 183).1 (.code (xyn 183) (xbt 183) (xmx 183) (xrt 183)) = true := by decide +kernel
theorem xcw_184 : xin (xaux 184).1 (.code (xyn 184) (xbt 184) (xmx 184) (xrt 184)) = true := by decide +kernel
theorem xcw_185 : xin (xaux 185).1 (.code (xyn 185) (xbt 185) (xmx 185) (xrt 185)) = true := by decide +kernel
theorem xcw_186 : xin (xaux 186).1 (.code (xyn 186) (xbt 186) (xmx 186) (xrt 186)) = true := by decide +kernel
theorem xcw_187 : xin (xaux 187).1 (.code (xyn 187) (xbt 187) (xmx 187) (xrt 187)) = true := by decide +kernel
theorem xcw_188 : xin (xaux 188).1 (.code (xyn 188) (xbt 188) (xmx 188) (xrt 188)) = true := by decide +kernel
theorem xcw_189 : xin (xaux 189).1 (.code (xyn 189) (xbt 189) (xmx 189) (xrt 189)) = true := by decide +kernel
theorem xcw_190 : xin (xaux 190).1 (.code (xyn 190) (xbt 190) (xmx 190) (xrt 190)) = true := by decide +kernel
theorem xcw_191 : xin (xaux 191).1 (.code (xyn 191) (xbt 191) (xmx 191) (xrt 191)) = true := by decide +kernel
theorem xcw_192 : xin (xaux 192).1 (.code (xyn 192) (xbt 192) (xmx 192) (xrt 192)) = true := by decide +kernel
theorem xcw_193 : xin (xaux 193).1 (.code (xyn 193) (xbt 193) (xmx 193) (xrt 193)) = true := by decide +kernel
theorem xcw_194 : xin (xaux 194).1 (.code (xyn 194) (xbt 194) (xmx 194) (xrt 194)) = true := by decide +kernel
theorem xcw_195 : xin (xaux 195).1 (.code (xyn 195) (xbt 195) (xmx 195) (xrt 195)) = true := by decide +kernel
theorem xcw_196 : xin (xaux 196).1 (.code (xyn 196) (xbt 196) (xmx 196) (xrt 196)) = true := by decide +kernel
theorem xcw_197 : xin (xaux 197).1 (.code (xyn 197) (xbt 197) (xmx 197) (xrt 197)) = true := by decide +kernel
theorem xcw_198 : xin (xaux 198).1 (.code (xyn 198) (xbt 198) (xmx 198) (xrt 198)) = true := by decide +kernel
theorem xcw_199 : xin (xaux 199).1 (.code (xyn 199) (xbt 199) (xmx 199) (xrt 199)) = true := by decide +kernel
theorem xcw_200 : xin (xaux 200).1 (.code (xyn 200) (xbt 200) (xmx 200) (xrt 200)) = true := by decide +kernel
theorem xcw_201 : xin (xaux 201).1 (.code (xyn 201) (xbt 201) (xmx 201) (xrt 201)) = true := by decide +kernel
theorem xcw_202 : xin (xaux 202).1 (.code (xyn 202) (xbt 202) (xmx 202) (xrt 202)) = true := by decide +kernel
theorem xcw_203 : xin (xaux 203).1 (.code (xyn 203) (xbt 203) (xmx 203) (xrt 203)) = true := by decide +kernel
theorem xcw_204 : xin (xaux 204).1 (.code (xyn 204) (xbt 204) (xmx 204) (xrt 204)) = true := by decide +kernel
theorem xcw_205 : xin (xaux 205).1 (.code (xyn 205) (xbt 205) (xmx 205) (xrt 205)) = true := by decide +kernel
theorem xcw_206 : xin (xaux 206).1 (.code (xyn 206) (xbt 206) (xmx 206) (xrt 206)) = true := by decide +kernel
theorem xcw_207 : xin (xaux 207).1 (.code (xyn 207) (xbt 207) (xmx 207) (xrt 207)) = true := by decide +kernel
theorem xcw_208 : xin (xaux 208).1 (.code (xyn 208) (xbt 208) (xmx 208) (xrt 208)) = true := by decide +kernel
theorem xcw_209 : xin (xaux 209).1 (.code (xyn 209) (xbt 209) (xmx 209) (xrt 209)) = true := by decide +kernel
theorem xcw_210 : xin (xaux 210).1 (.code (xyn 210) (xbt 210) (xmx 210) (xrt 210)) = true := by decide +kernel
theorem xcw_211 : xin (xaux 211).1 (.code (xyn 211) (xbt 211) (xmx 211) (xrt 211)) = true := by decide +kernel
theorem xcw_212 : xin (xaux 212).1 (.code (xyn 212) (xbt 212) (xmx 212) (xrt 212)) = true := by decide +kernel
theorem xcw_213 : xin (xaux 213).1 (.code (xyn 213) (xbt 213) (xmx 213) (xrt 213)) = true := by decide +kernel
theorem xcw_214 : xin (xaux 214).1 (.code (xyn 214) (xbt 214) (xmx 214) (xrt 214)) = true := by decide +kernel
theorem xcw_215 : xin (xaux 215).1 (.code (xyn 215) (xbt 215) (xmx 215) (xrt 215)) = true := by decide +kernel
theorem xcw_216 : xin (xaux 216).1 (.code (xyn 216) (xbt 216) (xmx 216) (xrt 216)) = true := by decide +kernel
theorem xcw_217 : xin (xaux 217).1 (.code (xyn 217) (xbt 217) (xmx 217) (xrt 217)) = true := by decide +kernel
theorem xcw_218 : xin (xaux 218).1 (.code (xyn 218) (xbt 218) (xmx 218) (xrt 218)) = true := by decide +kernel
theorem xcw_219 : xin (xaux 219).1 (.code (xyn 219) (xbt 219) (xmx 219) (xrt 219)) = true := by decide +kernel
theorem xcw_220 : xin (xaux 220).1 (.code (xyn 220) (xbt 220) (xmx 220) (xrt 220)) = true := by decide +kernel
theorem xcw_221 : xin (xaux 221).1 (.code (xyn 221) (xbt 221) (xmx 221) (xrt 221)) = true := by decide +kernel
theorem xcw_222 : xin (xaux 222).1 (.code (xyn 222) (xbt 222) (xmx 222) (xrt 222)) = true := by decide +kernel
theorem xcw_223 : xin (xaux 223).1 (.code (xyn 223) (xbt 223) (xmx 223) (xrt 223)) = true := by decide +kernel
theorem xcw_224 : xin (xaux 224).1 (.code (xyn 224) (xbt 224) (xmx 224) (xrt 224)) = true := by decide +kernel
theorem xcw_225 : xin (xaux 225).1 (.code (xyn 225) (xbt 225) (xmx 225) (xrt 225)) = true := by decide +kernel
theorem xcw_226 : xin (xaux 226).1 (.code (xyn 226) (xbt 226) (xmx 226) (xrt 226)) = true := by decide +kernel
theorem xcw_227 : xin (xaux 227).1 (.code (xyn 227) (xbt 227) (xmx 227) (xrt 227)) = true := by decide +kernel
theorem xcw_228 : xin (xaux 228).1 (.code (xyn 228) (xbt 228) (xmx 228) (xrt 228)) = true := by decide +kernel
theorem xcw_229 : xin (xaux 229).1 (.code (xyn 229) (xbt 229) (xmx 229) (xrt 229)) = true := by decide +kernel
theorem xcw_230 : xin (xaux 230).1 (.code (xyn 230) (xbt 230) (xmx 230) (xrt 230)) = true := by decide +kernel
theorem xcw_231 : xin (xaux 231).1 (.code (xyn 231) (xbt 231) (xmx 231) (xrt 231)) = true := by decide +kernel
theorem xcw_232 : xin (xaux 232).1 (.code (xyn 232) (xbt 232) (xmx 232) (xrt 232)) = true := by decide +kernel
theorem xcw_233 : xin (xaux 233).1 (.code (xyn 233) (xbt 233) (xmx 233) (xrt 233)) = true := by decide +kernel
theorem xcw_234 : xin (xaux 234).1 (.code (xyn 234) (xbt 234) (xmx 234) (xrt 234)) = true := by decide +kernel
theorem xcw_235 : xin (xaux 235).1 (.code (xyn 235) (xbt 235) (xmx 235) (xrt 235)) = true := by decide +kernel
theorem xcw_236 : xin (xaux 236).1 (.code (xyn 236) (xbt 236) (xmx 236) (xrt 236)) = true := by decide +kernel
theorem xcw_237 : xin (xaux 237).1 (.code (xyn 237) (xbt 237) (xmx 237) (xrt 237)) = true := by decide +kernel
theorem xcw_238 : xin (xaux 238).1 (.code (xyn 238) (xbt 238) (xmx 238) (xrt 238)) = true := by decide +kernel
theorem xcw_239 : xin (xaux 239).1 (.code (xyn 239) (xbt 239) (xmx 239) (xrt 239)) = true := by decide +kernel
theorem xcw_240 : xin (xaux 240).1 (.code (xyn 240) (xbt 240) (xmx 240) (xrt 240)) = true := by decide +kernel
theorem xcw_241 : xin (xaux 241).1 (.code (xyn 241) (xbt 241) (xmx 241) (xrt 241)) = true := by decide +kernel
theorem xcw_242 : xin (xaux 242).1 (.code (xyn 242) (xbt 242) (xmx 242) (xrt 242)) = true := by decide +kernel
theorem xcw_243 : xin (xaux 243).1 (.code (xyn 243) (xbt 243) (xmx 243) (xrt 243)) = true := by decide +kernel
theorem xcw_244 : xin (xaux 244).1 (.code (xyn 244) (xbt 244) (xmx 244) (xrt 244)) = true := by decide +kernel
theorem xcw_245 : xin (xaux 245).1 (.code (xyn 245) (xbt 245) (xmx 245) (xrt 245)) = true := by decide +kernel
theorem xcw_246 : xin (xaux 246).1 (.code (xyn 246) (xbt 246) (xmx 246) (xrt 246)) = true := by decide +kernel
theorem xcw_247 : xin (xaux 247).1 (.code (xyn 247) (xbt 247) (xmx 247) (xrt 247)) = true := by decide +kernel
theorem xcw_248 : xin (xaux 248).1 (.code (xyn 248) (xbt 248) (xmx 248) (xrt 248)) = true := by decide +kernel
theorem xcw_249 : xin (xaux 249).1 (.code (xyn 249) (xbt 249) (xmx 249) (xrt 249)) = true := by decide +kernel
theorem xcw_250 : xin (xaux 250).1 (.code (xyn 250) (xbt 250) (xmx 250) (xrt 250)) = true := by decide +kernel
theorem xcw_251 : xin (xaux 251).1 (.code (xyn 251) (xbt 251) (xmx 251) (xrt 251)) = true := by decide +kernel
theorem xcw_252 : xin (xaux 252).1 (.code (xyn 252) (xbt 252) (xmx 252) (xrt 252)) = true := by decide +kernel
theorem xcw_253 : xin (xaux 253).1 (.code (xyn 253) (xbt 253) (xmx 253) (xrt 253)) = true := by decide +kernel
theorem xcw_254 : xin (xaux 254).1 (.code (xyn 254) (xbt 254) (xmx 254) (xrt 254)) = true := by decide +kernel
theorem xcw_255 : xin (xaux 255).1 (.code (xyn 255) (xbt 255) (xmx 255) (xrt 255)) = true := by decide +kernel
theorem xcw_256 : xin (xaux 256).1 (.code (xyn 256) (xbt 256) (xmx 256) (xrt 256)) = true := by decide +kernel
theorem xcw_257 : xin (xaux 257).1 (.code (xyn 257) (xbt 257) (xmx 257) (xrt 257)) = true := by decide +kernel
theorem xcw_all : ∀ j, j < xnC → xin (xaux j).1 (.code (xyn j) (xbt j) (xmx j) (xrt j)) = true := by
  intro j hj
  match j, hj with
  | 0, _ => exact xcw_0
  | 1, _ => exact xcw_1
  | 2, _ => exact xcw_2
  | 3, _ => exact xcw_3
  | 4, _ => exact xcw_4
  | 5, _ => exact xcw_5
  | 6, _ => exact xcw_6
  | 7, _ => exact xcw_7
  | 8, _ => exact xcw_8
  | 9, _ => exact xcw_9
  | 10, _ => exact xcw_10
  | 11, _ => exact xcw_11
  | 12, _ => exact xcw_12
  | 13, _ => exact xcw_13
  | 14, _ => exact xcw_14
  | 15, _ => exact xcw_15
  | 16, _ => exact xcw_16
  | 17, _ => exact xcw_17
  | 18, _ => exact xcw_18
  | 19, _ => exact xcw_19
  | 20, _ => exact xcw_20
  | 21, _ => exact xcw_21
  | 22, _ => exact xcw_22
  | 23, _ => exact xcw_23
  | 24, _ => exact xcw_24
  | 25, _ => exact xcw_25
  | 26, _ => exact xcw_26
  | 27, _ => exact xcw_27
  | 28, _ => exact xcw_28
  | 29, _ => exact xcw_29
  | 30, _ => exact xcw_30
  | 31, _ => exact xcw_31
  | 32, _ => exact xcw_32
  | 33, _ => exact xcw_33
  | 34, _ => exact xcw_34
  | 35, _ => exact xcw_35
  | 36, _ => exact xcw_36
  | 37, _ => exact xcw_37
  | 38, _ => exact xcw_38
  | 39, _ => exact xcw_39
  | 40, _ => exact xcw_40
  | 41, _ => exact xcw_41
  | 42, _ => exact xcw_42
  | 43, _ => exact xcw_43
  | 44, _ => exact xcw_44
  | 45, _ => exact xcw_45
  | 46, _ => exact xcw_46
  | 47, _ => exact xcw_47
  | 48, _ => exact xcw_48
  | 49, _ => exact xcw_49
  | 50, _ => exact xcw_50
  | 51, _ => exact xcw_51
  | 52, _ => exact xcw_52
  | 53, _ => exact xcw_53
  | 54, _ => exact xcw_54
  | 55, _ => exact xcw_55
  | 56, _ => exact xcw_56
  | 57, _ => exact xcw_57
  | 58, _ => exact xcw_58
  | 59, _ => exact xcw_59
  | 60, _ => exact xcw_60
  | 61, _ => exact xcw_61
  | 62, _ => exact xcw_62
  | 63, _ => exact xcw_63
  | 64, _ => exact xcw_64
  | 65, _ => exact xcw_65
  | 66, _ => exact xcw_66
  | 67, _ => exact xcw_67
  | 68, _ => exact xcw_68
  | 69, _ => exact xcw_69
  | 70, _ => exact xcw_70
  | 71, _ => exact xcw_71
  | 72, _ => exact xcw_72
  | 73, _ => exact xcw_73
  | 74, _ => exact xcw_74
  | 75, _ => exact xcw_75
  | 76, _ => exact xcw_76
  | 77, _ => exact xcw_77
  | 78, _ => exact xcw_78
  | 79, _ => exact xcw_79
  | 80, _ => exact xcw_80
  | 81, _ => exact xcw_81
  | 82, _ => exact xcw_82
  | 83, _ => exact xcw_83
  | 84, _ => exact xcw_84
  | 85, _ => exact xcw_85
  | 86, _ => exact xcw_86
  | 87, _ => exact xcw_87
  | 88, _ => exact xcw_88
  | 89, _ => exact xcw_89
  | 90, _ => exact xcw_90
  | 91, _ => exact xcw_91
  | 92, _ => exact xcw_92
  | 93, _ => exact xcw_93
  | 94, _ => exact xcw_94
  | 95, _ => exact xcw_95
  | 96, _ => exact xcw_96
  | 97, _ => exact xcw_97
  | 98, _ => exact xcw_98
  | 99, _ => exact xcw_99
  | 100, _ => exact xcw_100
  | 101, _ => exact xcw_101
  | 102, _ => exact xcw_102
  | 103, _ => exact xcw_103
  | 104, _ => exact xcw_104
  | 105, _ => exact xcw_105
  | 106, _ => exact xcw_106
  | 107, _ => exact xcw_107
  | 108, _ => exact xcw_108
  | 109, _ => exact xcw_109
  | 110, _ => exact xcw_110
  | 111, _ => exact xcw_111
  | 112, _ => exact xcw_112
  | 113, _ => exact xcw_113
  | 114, _ => exact xcw_114
  | 115, _ => exact xcw_115
  | 116, _ => exact xcw_116
  | 117, _ => exact xcw_117
  | 118, _ => exact xcw_118
  | 119, _ => exact xcw_119
  | 120, _ => exact xcw_120
  | 121, _ => exact xcw_121
  | 122, _ => exact xcw_122
  | 123, _ => exact xcw_123
  | 124, _ => exact xcw_124
  | 125, _ => exact xcw_125
  | 126, _ => exact xcw_126
  | 127, _ => exact xcw_127
  | 128, _ => exact xcw_128
  | 129, _ => exact xcw_129
  | 130, _ => exact xcw_130
  | 131, _ => exact xcw_131
  | 132, _ => exact xcw_132
  | 133, _ => exact xcw_133
  | 134, _ => exact xcw_134
  | 135, _ => exact xcw_135
  | 136, _ => exact xcw_136
  | 137, _ => exact xcw_137
  | 138, _ => exact xcw_138
  | 139, _ => exact xcw_139
  | 140, _ => exact xcw_140
  | 141, _ => exact xcw_141
  | 142, _ => exact xcw_142
  | 143, _ => exact xcw_143
  | 144, _ => exact xcw_144
  | 145, _ => exact xcw_145
  | 146, _ => exact xcw_146
  | 147, _ => exact xcw_147
  | 148, _ => exact xcw_148
  | 149, _ => exact xcw_149
  | 150, _ => exact xcw_150
  | 151, _ => exact xcw_151
  | 152, _ => exact xcw_152
  | 153, _ => exact xcw_153
  | 154, _ => exact xcw_154
  | 155, _ => exact xcw_155
  | 156, _ => exact xcw_156
  | 157, _ => exact xcw_157
  | 158, _ => exact xcw_158
  | 159, _ => exact xcw_159
  | 160, _ => exact xcw_160
  | 161, _ => exact xcw_161
  | 162, _ => exact xcw_162
  | 163, _ => exact xcw_163
  | 164, _ => exact xcw_164
  | 165, _ => exact xcw_165
  | 166, _ => exact xcw_166
  | 167, _ => exact xcw_167
  | 168, _ => exact xcw_168
  | 169, _ => exact xcw_169
  | 170, _ => exact xcw_170
  | 171, _ => exact xcw_171
  | 172, _ => exact xcw_172
  | 173, _ => exact xcw_173
  | 174, _ => exact xcw_174
  | 175, _ => exact xcw_175
  | 176, _ => exact xcw_176
  | 177, _ => exact xcw_177
  | 178, _ => exact xcw_178
  | 179, _ => exact xcw_179
  | 180, _ => exact xcw_180
  | 181, _ => exact xcw_181
  | 182, _ => exact xcw_182
  | 183, _ => exact xcw_183
  | 184, _ => exact xcw_184
  | 185, _ => exact xcw_185
  | 186, _ => exact xcw_186
  | 187, _ => exact xcw_187
  | 188, _ => exact xcw_188
  | 189, _ => exact xcw_189
  | 190, _ => exact xcw_190
  | 191, _ => exact xcw_191
  | 192, _ => exact xcw_192
  | 193, _ => exact xcw_193
  | 194, _ => exact xcw_194
  | 195, _ => exact xcw_195
  | 196, _ => exact xcw_196
  | 197, _ => exact xcw_197
  | 198, _ => exact xcw_198
  | 199, _ => exact xcw_199
  | 200, _ => exact xcw_200
  | 201, _ => exact xcw_201
  | 202, _ => exact xcw_202
  | 203, _ => exact xcw_203
  | 204, _ => exact xcw_204
  | 205, _ => exact xcw_205
  | 206, _ => exact xcw_206
  | 207, _ => exact xcw_207
  | 208, _ => exact xcw_208
  | 209, _ => exact xcw_209
  | 210, _ => exact xcw_210
  | 211, _ => exact xcw_211
  | 212, _ => exact xcw_212
  | 213, _ => exact xcw_213
  | 214, _ => exact xcw_214
  | 215, _ => exact xcw_215
  | 216, _ => exact xcw_216
  | 217, _ => exact xcw_217
  | 218, _ => exact xcw_218
  | 219, _ => exact xcw_219
  | 220, _ => exact xcw_220
  | 221, _ => exact xcw_221
  | 222, _ => exact xcw_222
  | 223, _ => exact xcw_223
  | 224, _ => exact xcw_224
  | 225, _ => exact xcw_225
  | 226, _ => exact xcw_226
  | 227, _ => exact xcw_227
  | 228, _ => exact xcw_228
  | 229, _ => exact xcw_229
  | 230, _ => exact xcw_230
  | 231, _ => exact xcw_231
  | 232, _ => exact xcw_232
  | 233, _ => exact xcw_233
  | 234, _ => exact xcw_234
  | 235, _ => exact xcw_235
  | 236, _ => exact xcw_236
  | 237, _ => exact xcw_237
  | 238, _ => exact xcw_238
  | 239, _ => exact xcw_239
  | 240, _ => exact xcw_240
  | 241, _ => exact xcw_241
  | 242, _ => exact xcw_242
  | 243, _ => exact xcw_243
  | 244, _ => exact xcw_244
  | 245, _ => exact xcw_245
  | 246, _ => exact xcw_246
  | 247, _ => exact xcw_247
  | 248, _ => exact xcw_248
  | 249, _ => exact xcw_249
  | 250, _ => exact xcw_250
  | 251, _ => exact xcw_251
  | 252, _ => exact xcw_252
  | 253, _ => exact xcw_253
  | 254, _ => exact xcw_254
  | 255, _ => exact xcw_255
  | 256, _ => exact xcw_256
  | 257, _ => exact xcw_257
  | j + 258, hj => exact absurd hj (by simp only [xnC]; omega)
end
section
/-! THE PROGRAM IS AS THE INTERPRETER WANTS IT. -/
theorem xcb_all : ∀ j, j < xnM → xcb j 0 (xgL.getD j []) = true := by
  intro j hj
  match j, hj with
  | 0, _ => exact xcb_0
  | 1, _ => exact xcb_1
  | 2, _ => exact xcb_2
  | 3, _ => exact xcb_3
  | 4, _ => exact xcb_4
  | 5, _ => exact xcb_5
  | 6, _ => exact xcb_6
  | 7, _ => exact xcb_7
  | 8, _ => exact xcb_8
  | 9, _ => exact xcb_9
  | 10, _ => exact xcb_10
  | 11, _ => exact xcb_11
  | 12, _ => exact xcb_12
  | 13, _ => exact xcb_13
  | 14, _ => exact xcb_14
  | 15, _ => exact xcb_15
  | 16, _ => exact xcb_16
  | 17, _ => exact xcb_17
  | 18, _ => exact xcb_18
  | 19, _ => exact xcb_19
  | 20, _ => exact xcb_20
  | 21, _ => exact xcb_21
  | 22, _ => exact xcb_22
  | 23, _ => exact xcb_23
  | 24, _ => exact xcb_24
  | 25, _ => exact xcb_25
  | 26, _ => exact xcb_26
  | 27, _ => exact xcb_27
  | 28, _ => exact xcb_28
  | 29, _ => exact xcb_29
  | 30, _ => exact xcb_30
  | 31, _ => exact xcb_31
  | 32, _ => exact xcb_32
  | 33, _ => exact xcb_33
  | 34, _ => exact xcb_34
  | 35, _ => exact xcb_35
  | 36, _ => exact xcb_36
  | 37, _ => exact xcb_37
  | 38, _ => exact xcb_38
  | 39, _ => exact xcb_39
  | 40, _ => exact xcb_40
  | 41, _ => exact xcb_41
  | 42, _ => exact xcb_42
  | 43, _ => exact xcb_43
  | 44, _ => exact xcb_44
  | 45, _ => exact xcb_45
  | 46, _ => exact xcb_46
  | 47, _ => exact xcb_47
  | 48, _ => exact xcb_48
  | 49, _ => exact xcb_49
  | 50, _ => exact xcb_50
  | 51, _ => exact xcb_51
  | 52, _ => exact xcb_52
  | 53, _ => exact xcb_53
  | 54, _ => exact xcb_54
  | 55, _ => exact xcb_55
  | 56, _ => exact xcb_56
  | 57, _ => exact xcb_57
  | 58, _ => exact xcb_58
  | 59, _ => exact xcb_59
  | 60, _ => exact xcb_60
  | 61, _ => exact xcb_61
  | 62, _ => exact xcb_62
  | 63, _ => exact xcb_63
  | 64, _ => exact xcb_64
  | 65, _ => exact xcb_65
  | 66, _ => exact xcb_66
  | 67, _ => exact xcb_67
  | 68, _ => exact xcb_68
  | 69, _ => exact xcb_69
  | 70, _ => exact xcb_70
  | 71, _ => exact xcb_71
  | 72, _ => exact xcb_72
  | 73, _ => exact xcb_73
  | 74, _ => exact xcb_74
  | 75, _ => exact xcb_75
  | 76, _ => exact xcb_76
  | 77, _ => exact xcb_77
  | 78, _ => exact xcb_78
  | 79, _ => exact xcb_79
  | 80, _ => exact xcb_80
  | 81, _ => exact xcb_81
  | 82, _ => exact xcb_82
  | 83, _ => exact xcb_83
  | 84, _ => exact xcb_84
  | 85, _ => exact xcb_85
  | 86, _ => exact xcb_86
  | 87, _ => exact xcb_87
  | 88, _ => exact xcb_88
  | 89, _ => exact xcb_89
  | 90, _ => exact xcb_90
  | 91, _ => exact xcb_91
  | 92, _ => exact xcb_92
  | 93, _ => exact xcb_93
  | 94, _ => exact xcb_94
  | 95, _ => exact xcb_95
  | 96, _ => exact xcb_96
  | 97, _ => exact xcb_97
  | 98, _ => exact xcb_98
  | 99, _ => exact xcb_99
  | 100, _ => exact xcb_100
  | 101, _ => exact xcb_101
  | 102, _ => exact xcb_102
  | 103, _ => exact xcb_103
  | 104, _ => exact xcb_104
  | 105, _ => exact xcb_105
  | 106, _ => exact xcb_106
  | 107, _ => exact xcb_107
  | 108, _ => exact xcb_108
  | 109, _ => exact xcb_109
  | 110, _ => exact xcb_110
  | 111, _ => exact xcb_111
  | 112, _ => exact xcb_112
  | 113, _ => exact xcb_113
  | 114, _ => exact xcb_114
  | 115, _ => exact xcb_115
  | 116, _ => exact xcb_116
  | 117, _ => exact xcb_117
  | 118, _ => exact xcb_118
  | 119, _ => exact xcb_119
  | 120, _ => exact xcb_120
  | 121, _ => exact xcb_121
  | 122, _ => exact xcb_122
  | 123, _ => exact xcb_123
  | 124, _ => exact xcb_124
  | 125, _ => exact xcb_125
  | 126, _ => exact xcb_126
  | 127, _ => exact xcb_127
  | 128, _ => exact xcb_128
  | 129, _ => exact xcb_129
  | 130, _ => exact xcb_130
  | 131, _ => exact xcb_131
  | 132, _ => exact xcb_132
  | 133, _ => exact xcb_133
  | 134, _ => exact xcb_134
  | 135, _ => exact xcb_135
  | 136, _ => exact xcb_136
  | 137, _ => exact xcb_137
  | 138, _ => exact xcb_138
  | 139, _ => exact xcb_139
  | 140, _ => exact xcb_140
  | 141, _ => exact xcb_141
  | 142, _ => exact xcb_142
  | 143, _ => exact xcb_143
  | 144, _ => exact xcb_144
  | 145, _ => exact xcb_145
  | 146, _ => exact xcb_146
  | 147, _ => exact xcb_147
  | 148, _ => exact xcb_148
  | 149, _ => exact xcb_149
  | 150, _ => exact xcb_150
  | 151, _ => exact xcb_151
  | 152, _ => exact xcb_152
  | 153, _ => exact xcb_153
  | 154, _ => exact xcb_154
  | 155, _ => exact xcb_155
  | 156, _ => exact xcb_156
  | 157, _ => exact xcb_157
  | 158, _ => exact xcb_158
  | 159, _ => exact xcb_159
  | 160, _ => exact xcb_160
  | 161, _ => exact xcb_161
  | 162, _ => exact xcb_162
  | 163, _ => exact xcb_163
  | 164, _ => exact xcb_164
  | 165, _ => exact xcb_165
  | 166, _ => exact xcb_166
  | 167, _ => exact xcb_167
  | 168, _ => exact xcb_168
  | 169, _ => exact xcb_169
  | 170, _ => exact xcb_170
  | 171, _ => exact xcb_171
  | 172, _ => exact xcb_172
  | 173, _ => exact xcb_173
  | 174, _ => exact xcb_174
  | 175, _ => exact xcb_175
  | 176, _ => exact xcb_176
  | 177, _ => exact xcb_177
  | 178, _ => exact xcb_178
  | 179, _ => exact xcb_179
  | 180, _ => exact xcb_180
  | 181, _ => exact xcb_181
  | 182, _ => exact xcb_182
  | 183, _ => exact xcb_183
  | 184, _ => exact xcb_184
  | 185, _ => exact xcb_185
  | 186, _ => exact xcb_186
  | 187, _ => exact xcb_187
  | 188, _ => exact xcb_188
  | 189, _ => exact xcb_189
  | 190, _ => exact xcb_190
  | 191, _ => exact xcb_191
  | 192, _ => exact xcb_192
  | 193, _ => exact xcb_193
  | 194, _ => exact xcb_194
  | 195, _ => exact xcb_195
  | 196, _ => exact xcb_196
  | 197, _ => exact xcb_197
  | 198, _ => exact xcb_198
  | 199, _ => exact xcb_199
  | 200, _ => exact xcb_200
  | 201, _ => exact xcb_201
  | 202, _ => exact xcb_202
  | 203, _ => exact xcb_203
  | 204, _ => exact xcb_204
  | 205, _ => exact xcb_205
  | 206, _ => exact xcb_206
  | 207, _ => exact xcb_207
  | 208, _ => exact xcb_208
  | 209, _ => exact xcb_209
  | 210, _ => exact xcb_210
  | 211, _ => exact xcb_211
  | 212, _ => exact xcb_212
  | 213, _ => exact xcb_213
  | 214, _ => exact xcb_214
  | 215, _ => exact xcb_215
  | 216, _ => exact xcb_216
  | 217, _ => exact xcb_217
  | 218, _ => exact xcb_218
  | 219, _ => exact xcb_219
  | 220, _ => exact xcb_220
  | 221, _ => exact xcb_221
  | 222, _ => exact xcb_222
  | 223, _ => exact xcb_223
  | 224, _ => exact xcb_224
  | 225, _ => exact xcb_225
  | 226, _ => exact xcb_226
  | 227, _ => exact xcb_227
  | 228, _ => exact xcb_228
  | 229, _ => exact xcb_229
  | 230, _ => exact xcb_230
  | 231, _ => exact xcb_231
  | 232, _ => exact xcb_232
  | 233, _ => exact xcb_233
  | 234, _ => exact xcb_234
  | 235, _ => exact xcb_235
  | 236, _ => exact xcb_236
  | 237, _ => exact xcb_237
  | 238, _ => exact xcb_238
  | 239, _ => exact xcb_239
  | 240, _ => exact xcb_240
  | 241, _ => exact xcb_241
  | 242, _ => exact xcb_242
  | 243, _ => exact xcb_243
  | 244, _ => exact xcb_244
  | 245, _ => exact xcb_245
  | 246, _ => exact xcb_246
  | 247, _ => exact xcb_247
  | 248, _ => exact xcb_248
  | 249, _ => exact xcb_249
  | 250, _ => exact xcb_250
  | 251, _ => exact xcb_251
  | 252, _ => exact xcb_252
  | 253, _ => exact xcb_253
  | 254, _ => exact xcb_254
  | 255, _ => exact xcb_255
  | 256, _ => exact xcb_256
  | 257, _ => exact xcb_257
  | 258, _ => exact xcb_258
  | j + 259, hj => exact absurd hj (by simp only [xnM]; omega)
theorem xGo_ok : xGo xgt xnst xcls xacl xnC xyn xstr xbt xG xna xnp xrc xrk xrt := by
  intro j pc i len hj h
  have h1 : (xgL.getD j [])[pc]? = some (some (i, len)) := by
    unfold xG at h
    cases hc : (xgL.getD j [])[pc]? with
    | none => rw [hc] at h; cases h
    | some x => rw [hc] at h; rw [show x = some (i, len) from h]
  obtain ⟨raw, hd, hk⟩ := xcb_at _ 0 pc i len (xcb_all j hj) h1
  rw [Nat.zero_add] at hd hk
  exact ⟨raw, hd, xlkB_ok hj hk⟩
def xmb (j : Nat) : Bool := xin (xaux j).2.1 (.initialized (xyn j).cls) && plainFor (xyn j) && decide ((xyn j).cls ≠ "java/lang/invoke/MethodHandle") && decide ((xyn j).cls ≠ "java/lang/invoke/VarHandle") && decide (xmx j ≤ 40) && decide ((parseMethodDescriptor (xyn j).desc).map (fun d => d.parameters.length) = some (xnp j))
theorem xmb_ok : (List.range xnC).all xmb = true := by decide +kernel
theorem xMe_ok : xMe xgt xmx xbt xyn xnC xnp xrt := by
  refine ⟨by decide, fun j hj => ?_⟩
  have := List.all_eq_true.mp xmb_ok j (List.mem_range.mpr hj)
  simp only [xmb, Bool.and_eq_true, decide_eq_true_eq] at this
  obtain ⟨⟨⟨⟨⟨h2, h3⟩, h4⟩, h5⟩, h6⟩, h7⟩ := this
  exact ⟨xin_mem (xcw_all j hj), xin_mem h2, h3, h4, h5, h6, h7⟩
def xclb (ci : Nat) : Bool := match xcls[ci]? with
  | some (C, T, N) => decide ((xfty ci).length = N) && (List.range N).all (fun k => xin ((xlayL.getD ci []).getD k 0) (u_lay C T k)) && (List.range N).all (fun k => decide (parseFieldDescriptor (T k).2.2.1 = (xfty ci)[k]?)) && (List.range N).all (fun a => (List.range N).all (fun b => a == b || decide ((T a).2.1 ≠ (T b).2.1))) && xin (xinsL.getD ci (0, 0)).1 (.instantiable C N) && xin (xinsL.getD ci (0, 0)).2 (.initialized C)
  | none => true
theorem xclb_ok : (List.range xcls.length).all xclb = true := by decide +kernel
theorem xCl_ok : xCl xgt xcls xfty := by
  refine ⟨by decide +kernel, fun ci C T N h => ?_⟩
  have := List.all_eq_true.mp xclb_ok ci (List.mem_range.mpr (List.getElem?_eq_some_iff.mp h).1)
  simp only [xclb, h, Bool.and_eq_true, decide_eq_true_eq, List.all_eq_true, List.mem_range, Bool.or_eq_true, beq_iff_eq] at this
  obtain ⟨⟨⟨⟨⟨h1, h2⟩, h3⟩, h4⟩, h5⟩, h6⟩ := this
  refine ⟨h1, fun w hw => ?_, h3, fun a ha b hb hab => ?_, xin_mem h5, xin_mem h6⟩
  · obtain ⟨k, hk, rfl⟩ := List.mem_map.mp hw
    exact xin_mem (h2 k (List.mem_range.mp hk))
  · rcases h4 a ha b hb with h | h
    · exact absurd h hab
    · exact h
def xwdb (e : Nat × Cond) : Bool := xin e.1 e.2
theorem xwdb_ok : xwdL.all xwdb = true := by decide +kernel
theorem xwd_mem {w : Cond} (k : Nat) (h : xwdL[k]? = some ((xwdL.getD k (0, .initialized "")).1, w)) : w ∈ xgt := xin_mem (List.all_eq_true.mp xwdb_ok _ (List.mem_of_getElem? h))
def xnsb (w : Cond) : Bool := match w with
  | .methodLinkNest _ _ _ _ => true
  | w => decide (w = .castable "[I" "java/lang/Cloneable")
theorem xnsb_ok : xnst.all xnsb = true := by decide +kernel
theorem xWd_ok : xWd xgt xnst := by
  refine ⟨fun w hw => (List.mem_filter.mp hw).2, fun w hw => ?_, fun ty hty => ?_, xwd_mem 4 rfl, xwd_mem 5 rfl, xwd_mem 6 rfl, xwd_mem 7 rfl, xwd_mem 8 rfl, xwd_mem 9 rfl, xwd_mem 10 rfl, xwd_mem 11 rfl, xwd_mem 12 rfl, by decide +kernel⟩
  · have := List.all_eq_true.mp xnsb_ok w hw
    unfold xnsb at this
    split at this
    · exact Or.inl ⟨_, _, _, _, rfl⟩
    · exact Or.inr (by simpa using this)
  · simp only [List.mem_cons, List.not_mem_nil, or_false] at hty
    rcases hty with rfl | rfl | rfl | rfl
    · exact xwd_mem 0 rfl
    · exact xwd_mem 1 rfl
    · exact xwd_mem 2 rfl
    · exact xwd_mem 3 rfl
theorem xnst_mem : ∀ w ∈ xnst, w ∈ lw_tbl := by
  have h : (xnst.zip xNk).all (fun e => decide (lw_tbl[e.2]? = some e.1)) = true := by decide +kernel
  intro w hw
  obtain ⟨i, hi⟩ := List.getElem?_of_mem hw
  have hl : i < xnst.length := (List.getElem?_eq_some_iff.mp hi).1
  have hl2 : i < xNk.length := Nat.lt_of_lt_of_le hl (by decide +kernel)
  have hz : (xnst.zip xNk)[i]? = some (w, xNk[i]) := by
    rw [List.getElem?_zip_eq_some]
    exact ⟨hi, List.getElem?_eq_getElem hl2⟩
  have := List.all_eq_true.mp h _ (List.mem_of_getElem? hz)
  simp only [decide_eq_true_eq] at this
  exact List.mem_of_getElem? this
end
section
/-! THE PICTURE OF A MEMORY IN THE MACHINE'S HEAP: cell k lies at B + k. -/
def cv (B : Nat) (sp : Nat → Value) : Value → Value
  | .ref k => if k < xS then .ref (B + k) else sp (k - xS)
  | v => v
theorem cv_ref {B : Nat} {sp : Nat → Value} {k : Nat} (h : k < xS) : cv B sp (.ref k) = .ref (B + k) := if_pos h
def cA (B : Nat) : ((Nat → Int32) ⊕ (Nat → Int64) ⊕ (Nat → UInt32) ⊕ (Nat → UInt64) ⊕ (Nat → Option Nat)) → ((Nat → Int32) ⊕ (Nat → Int64) ⊕ (Nat → UInt32) ⊕ (Nat → UInt64) ⊕ (Nat → Option Nat))
  | .inr (.inr (.inr (.inr f))) => .inr (.inr (.inr (.inr fun j => (f j).map (B + ·))))
  | x => x
def cC (B : Nat) (sp : Nat → Value) (aC : Nat → ClassId) : xC → va_E
  | .inl a => .inl (aC a.1, a.2.1, cA B a.2.2)
  | .inr o => .inr (o.1, o.2.map (cv B sp))
def pwc (B : Nat) (sp : Nat → Value) (aC : Nat → ClassId) (f : Nat → Option xC) (k : Nat) : Nat × va_E := (B + k, match f k with
  | some c => cC B sp aC c
  | none => .inr (0, []))
def pw (B : Nat) (sp : Nat → Value) (aC : Nat → ClassId) (m : xM) : va_W := (List.range m.1).map (pwc B sp aC m.2.2)
def xOk (sp0 : Nat → Option xC) (m : xM) : Prop := m.1 ≤ xS ∧ (∀ k, k < xS → ((m.2.2 k).isSome = true ↔ k < m.1)) ∧ ∀ k, xS ≤ k → m.2.2 k = sp0 k
section PW
variable {B : Nat} {sp : Nat → Value} {aC : Nat → ClassId} {sp0 : Nat → Option xC} {m : xM}
theorem xOk.lt (h : xOk sp0 m) {k : Nat} {c : xC} (hk : k < xS) (hc : m.2.2 k = some c) : k < m.1 := (h.2.1 k hk).mp (by rw [hc]; rfl)
theorem pw_at {k : Nat} (hk : k < m.1) : (pw B sp aC m)[k]? = some (pwc B sp aC m.2.2 k) := by
  simp [pw, hk]
theorem pw_get (h : xOk sp0 m) {k : Nat} {c : xC} (hk : k < xS) (hc : m.2.2 k = some c) : (pw B sp aC m)[k]? = some (B + k, cC B sp aC c) := by
  rw [pw_at (h.lt hk hc)]
  simp [pwc, hc]
theorem pw_set (h : xOk sp0 m) {k : Nat} {c c' : xC} (hk : k < xS) (hc : m.2.2 k = some c) : (pw B sp aC m).set k (B + k, cC B sp aC c') = pw B sp aC (xset m k c') := by
  apply List.ext_getElem?
  intro i
  by_cases hi : i = k
  · subst hi
    have hl := h.lt hk hc
    rw [List.getElem?_set_self (by simp [pw, hl])]
    simp [pw, xset, hl, pwc, va_up]
  · rw [List.getElem?_set_ne (fun q => hi q.symm)]
    by_cases hl : i < m.1
    · simp [pw, xset, hl, pwc, va_up, hi]
    · simp [pw, xset, hl]
theorem pw_new {sl : Nat} {c : xC} : pw B sp aC (xnew m sl c) = pw B sp aC m ++ [(B + m.1, cC B sp aC c)] := by
  simp only [pw, xnew, List.range_succ, List.map_append, List.map_cons, List.map_nil]
  congr 1
  · apply List.map_congr_left
    intro k hk
    have : k ≠ m.1 := Nat.ne_of_lt (List.mem_range.mp hk)
    simp [pwc, va_up, this]
  · simp [pwc, va_up]
theorem pw_D {A : Nat → Prop} (hA : ∀ q, B ≤ q → A q) : va_D A (pw B sp aC m) := by
  have key : ∀ (i : Nat) (p : Nat × va_E), (pw B sp aC m)[i]? = some p → p.1 = B + i := by
    intro i p h
    by_cases hi : i < m.1
    · rw [pw_at hi] at h
      cases h
      rfl
    · simp [pw, hi] at h
  refine ⟨fun i j p q hp hq e => ?_, fun k q hq => hA _ (by rw [key k q hq]; omega)⟩
  have h1 := key i p hp
  have h2 := key j q hq
  omega
theorem xOk.set (h : xOk sp0 m) {k : Nat} {c c' : xC} (hk : k < xS) (hc : m.2.2 k = some c) : xOk sp0 (xset m k c') := by
  refine ⟨h.1, fun i hi => ?_, fun i hi => ?_⟩
  · by_cases e : i = k
    · subst e
      simp [xset, va_up, h.lt hk hc]
    · simp only [xset, va_up, if_neg e]
      exact h.2.1 i hi
  · have e : i ≠ k := by omega
    simp only [xset, va_up, if_neg e]
    exact h.2.2 i hi
theorem xOk.new (h : xOk sp0 m) {sl : Nat} {c : xC} (hm : m.1 < xS) : xOk sp0 (xnew m sl c) := by
  refine ⟨hm, fun i hi => ?_, fun i hi => ?_⟩
  · by_cases e : i = m.1
    · subst e
      simp [xnew, va_up]
    · simp only [xnew, va_up, if_neg e]
      rw [h.2.1 i hi]
      omega
  · have e : i ≠ m.1 := by omega
    simp only [xnew, va_up, if_neg e]
    exact h.2.2 i hi
theorem cv_cat (hsp : ∀ i, (sp i).category = 1) (v : Value) : (cv B sp v).category = v.category := by
  cases v <;> try rfl
  case ref k =>
    by_cases h : k < xS
    · rw [cv_ref h]; rfl
    · rw [show cv B sp (.ref k) = sp (k - xS) from if_neg h]; exact hsp _
theorem cv_cats (hsp : ∀ i, (sp i).category = 1) (st : List Value) : ((st.map (cv B sp)).map fun v => v.category).sum = xcat st := by
  induction st with
  | nil => rfl
  | cons v r ih => simp [xcat, cv_cat hsp] at ih ⊢; omega
/-- locals -/
def xla (B : Nat) (sp : Nat → Value) (ls : List Value) : List (Nat × Value) := (ls.zipIdx.filter (fun q => decide (q.1 ≠ xb))).map (fun q => (q.2, cv B sp q.1))
theorem xla_mem {ls : List Value} {i : Nat} {w : Value} : (i, w) ∈ xla B sp ls ↔ ∃ v, ls[i]? = some v ∧ v ≠ xb ∧ w = cv B sp v := by
  constructor
  · intro h
    obtain ⟨q, hq, e⟩ := List.mem_map.mp h
    obtain ⟨hq1, hq2⟩ := List.mem_filter.mp hq
    have h3 := List.mem_zipIdx_iff_getElem?.mp hq1
    cases e
    exact ⟨q.1, h3, by simpa using hq2, rfl⟩
  · rintro ⟨v, h1, h2, rfl⟩
    exact List.mem_map.mpr ⟨(v, i), List.mem_filter.mpr ⟨List.mem_zipIdx_iff_getElem?.mpr h1, by simpa using h2⟩, rfl⟩
def xLs (B : Nat) (sp : Nat → Value) (lsA : Array Slot) (nL : Nat) (ls : List Value) : Prop := ls.length = nL ∧ lv_has lsA nL (xla B sp ls)
theorem xLs.at {lsA : Array Slot} {nL : Nat} {ls : List Value} (h : xLs B sp lsA nL ls) {i : Nat} {v : Value} (hv : ls[i]? = some v) (hb : v ≠ xb) : lsA[i]? = some (.val (cv B sp v)) := h.2.2.2 (i, cv B sp v) (xla_mem.mpr ⟨v, hv, hb, rfl⟩)
theorem xst_len (ls : List Value) (i : Nat) (v : Value) : (xst ls i v).length = ls.length := by
  unfold xst
  cases i with
  | zero => cases v <;> simp
  | succ k =>
    cases v <;> dsimp only <;> split <;> simp
/-- what the locals are behind a store of a value of one slot -/
theorem xst_at1 {ls : List Value} {i : Nat} {v : Value} (hv : v.category = 1) {j : Nat} {w : Value} (h : (xst ls i v)[j]? = some w) (hb : w ≠ xb) : (j = i ∧ w = v) ∨ (j ≠ i ∧ ls[j]? = some w ∧ ¬ (j + 1 = i ∧ w.category = 2)) := by
  have hx : xst ls i v = ((match i with
    | 0 => ls
    | k + 1 => match ls[k]? with
      | some (.long _) => ls.set k xb
      | some (.double _) => ls.set k xb
      | _ => ls).set i v) := by
    unfold xst
    cases v <;> first | rfl | (exact absurd hv (by simp [Value.category]))
  rw [hx] at h
  clear hx
  by_cases hji : j = i
  · subst hji
    left
    refine ⟨rfl, ?_⟩
    rw [List.getElem?_set] at h
    simp at h
    exact h.2.symm
  · right
    rw [List.getElem?_set_ne (fun q => hji q.symm)] at h
    refine ⟨hji, ?_⟩
    cases i with
    | zero => exact ⟨h, by omega⟩
    | succ k =>
      dsimp only at h
      by_cases hjk : j = k
      · subst hjk
        split at h
        · rw [List.getElem?_set] at h
          simp at h
          exact absurd h.2.symm hb
        · rw [List.getElem?_set] at h
          simp at h
          exact absurd h.2.symm hb
        · rename_i hy hz
          refine ⟨h, fun ⟨_, h2⟩ => ?_⟩
          cases w <;> simp [Value.category] at h2
          · exact hy _ h
          · exact hz _ h
      · refine ⟨?_, by omega⟩
        split at h
        · rw [List.getElem?_set_ne (fun q => hjk q.symm)] at h
          exact h
        · rw [List.getElem?_set_ne (fun q => hjk q.symm)] at h
          exact h
        · exact h
theorem xst_at2 {ls : List Value} {i : Nat} {x : Int64} {j : Nat} {w : Value} (h : (xst ls i (.long x))[j]? = some w) (hb : w ≠ xb) : (j = i ∧ w = .long x) ∨ (j ≠ i ∧ j ≠ i + 1 ∧ ls[j]? = some w ∧ ¬ (j + 1 = i ∧ w.category = 2)) := by
  have hx : xst ls i (.long x) = ((match i with
    | 0 => ls
    | k + 1 => match ls[k]? with
      | some (.long _) => ls.set k xb
      | some (.double _) => ls.set k xb
      | _ => ls).set i (.long x)).set (i + 1) xb := rfl
  rw [hx] at h
  clear hx
  by_cases hj1 : j = i + 1
  · subst hj1
    rw [List.getElem?_set] at h
    simp at h
    exact absurd h.2.symm hb
  rw [List.getElem?_set_ne (fun q => hj1 q.symm)] at h
  by_cases hji : j = i
  · subst hji
    left
    refine ⟨rfl, ?_⟩
    rw [List.getElem?_set] at h
    simp at h
    exact h.2.symm
  · right
    rw [List.getElem?_set_ne (fun q => hji q.symm)] at h
    refine ⟨hji, hj1, ?_⟩
    cases i with
    | zero => exact ⟨h, by omega⟩
    | succ k =>
      dsimp only at h
      by_cases hjk : j = k
      · subst hjk
        split at h
        · rw [List.getElem?_set] at h
          simp at h
          exact absurd h.2.symm hb
        · rw [List.getElem?_set] at h
          simp at h
          exact absurd h.2.symm hb
        · rename_i hy hz
          refine ⟨h, fun ⟨_, h2⟩ => ?_⟩
          cases w <;> simp [Value.category] at h2
          · exact hy _ h
          · exact hz _ h
      · refine ⟨?_, by omega⟩
        split at h
        · rw [List.getElem?_set_ne (fun q => hjk q.symm)] at h
          exact h
        · rw [List.getElem?_set_ne (fun q => hjk q.symm)] at h
          exact h
        · exact h
/-- the machine's locals behind a store hold what the abstract ones do -/
theorem xLs.st1 (hsp : ∀ i, (sp i).category = 1) {ls : List Value} {nL i : Nat} {v : Value} {ls' : Array Slot} (hlen : ls.length = nL) (hv : v.category = 1) (h : lv_has ls' nL ((i, cv B sp v) :: (xla B sp ls).filter (fun q => !(q.1 == i) && !(q.1 + 1 == i && q.2.category == 2)))) : xLs B sp ls' nL (xst ls i v) := by
  refine ⟨by rw [xst_len]; exact hlen, h.1, h.2.1, ?_⟩
  rintro ⟨j, w⟩ hq
  obtain ⟨u, hu, hub, rfl⟩ := xla_mem.mp hq
  rcases xst_at1 hv hu hub with ⟨rfl, rfl⟩ | ⟨h1, h2, h3⟩
  · exact h.2.2 _ List.mem_cons_self
  · refine h.2.2 (j, cv B sp u) (List.mem_cons_of_mem _ (List.mem_filter.mpr ⟨xla_mem.mpr ⟨u, h2, hub, rfl⟩, ?_⟩))
    simp [h1, cv_cat hsp]
    exact Decidable.not_and_iff_or_not.mp h3
theorem xLs.st2 (hsp : ∀ i, (sp i).category = 1) {ls : List Value} {nL i : Nat} {x : Int64} {ls' : Array Slot} (hlen : ls.length = nL) (h : lv_has ls' nL ((i, Value.long x) :: (xla B sp ls).filter (fun q => !(q.1 == i) && (!(q.1 == i + 1) && !(q.1 + 1 == i && q.2.category == 2))))) : xLs B sp ls' nL (xst ls i (.long x)) := by
  refine ⟨by rw [xst_len]; exact hlen, h.1, h.2.1, ?_⟩
  rintro ⟨j, w⟩ hq
  obtain ⟨u, hu, hub, rfl⟩ := xla_mem.mp hq
  rcases xst_at2 hu hub with ⟨rfl, rfl⟩ | ⟨h1, h4, h2, h3⟩
  · exact h.2.2 _ List.mem_cons_self
  · refine h.2.2 (j, cv B sp u) (List.mem_cons_of_mem _ (List.mem_filter.mpr ⟨xla_mem.mpr ⟨u, h2, hub, rfl⟩, ?_⟩))
    simp [h1, h4, cv_cat hsp]
    exact Decidable.not_and_iff_or_not.mp h3
theorem xlo_args (hsp : ∀ i, (sp i).category = 1) : ∀ (as : List Value), (xlo as).length = (lg_sl (as.map (cv B sp))).length ∧ ∀ (k j : Nat) (v : Value), (xlo as)[j]? = some v → v ≠ xb → (k + j, cv B sp v) ∈ lv_args k (as.map (cv B sp))
  | [] => ⟨rfl, fun k j v h => by simp [xlo] at h⟩
  | a :: r => by
    obtain ⟨ih1, ih2⟩ := xlo_args hsp r
    have hc := cv_cat (B := B) hsp a
    by_cases h2 : a.category = 2
    · have e1 : xlo (a :: r) = a :: xb :: xlo r := by simp [xlo, h2]
      have e2 : lg_sl ((a :: r).map (cv B sp)) = [.val (cv B sp a), .second] ++ lg_sl (r.map (cv B sp)) := by simp [lg_sl, hc, h2]
      refine ⟨by rw [e1, e2]; simp [ih1], fun k j v h hb => ?_⟩
      rw [e1] at h
      have e3 : lv_args k ((a :: r).map (cv B sp)) = (k, cv B sp a) :: lv_args (k + 2) (r.map (cv B sp)) := by simp [lv_args, hc, h2]
      rw [e3]
      match j, h with
      | 0, h => simp at h; subst h; exact List.mem_cons_self
      | 1, h => simp at h; exact absurd h.symm hb
      | j + 2, h =>
        have := ih2 (k + 2) j v (by simpa using h) hb
        rw [show k + (j + 2) = k + 2 + j by omega]
        exact List.mem_cons_of_mem _ this
    · have e1 : xlo (a :: r) = a :: xlo r := by simp [xlo, h2]
      have e2 : lg_sl ((a :: r).map (cv B sp)) = [.val (cv B sp a)] ++ lg_sl (r.map (cv B sp)) := by simp [lg_sl, hc, h2]
      refine ⟨by rw [e1, e2]; simp [ih1], fun k j v h hb => ?_⟩
      rw [e1] at h
      have e3 : lv_args k ((a :: r).map (cv B sp)) = (k, cv B sp a) :: lv_args (k + 1) (r.map (cv B sp)) := by simp [lv_args, hc, h2]
      rw [e3]
      match j, h with
      | 0, h => simp at h; subst h; exact List.mem_cons_self
      | j + 1, h =>
        have := ih2 (k + 1) j v (by simpa using h) hb
        rw [show k + (j + 1) = k + 1 + j by omega]
        exact List.mem_cons_of_mem _ this
/-- the locals at a method's entry -/
theorem xLs.entry (hsp : ∀ i, (sp i).category = 1) {as : List Value} {nL : Nat} (h : (xlo as).length ≤ nL) : xLs B sp ((lg_sl (as.map (cv B sp)) ++ List.replicate (nL - (lg_sl (as.map (cv B sp))).length) Slot.unset).toArray) nL (xent nL as) := by
  obtain ⟨h1, h2⟩ := xlo_args (B := B) hsp as
  have h3 := lv_entry (as.map (cv B sp)) (n := nL) (by rw [← h1]; exact h)
  refine ⟨by simp [xent]; omega, h3.1, h3.2.1, ?_⟩
  rintro ⟨j, w⟩ hq
  obtain ⟨u, hu, hub, rfl⟩ := xla_mem.mp hq
  refine h3.2.2 (j, cv B sp u) ?_
  have h4 : (xlo as)[j]? = some u := by
    unfold xent at hu
    by_cases hj : j < (xlo as).length
    · rw [List.getElem?_append_left hj] at hu
      exact hu
    · rw [List.getElem?_append_right (by omega)] at hu
      have := List.mem_of_getElem? hu
      rw [List.mem_replicate] at this
      exact absurd this.2 hub
  have := h2 0 j u h4 hub
  rw [Nat.zero_add] at this
  exact this
end PW
end
section
/-! EACH INSTRUCTION OF THE INTERPRETER IS ONE OF THE MACHINE. -/
section XO
variable {gt nst : List Cond} {cls : List vw_C} {acl : Nat → Nat} {fty : Nat → List FieldType} {nM : Nat} {yn : Nat → MethodName} {strs : List (Nat × String × Nat × String)} {lens : List Nat} {byt : List (List Int32)}
variable {mx : Nat → Nat} {bt : Nat → ByteArray}
variable {B : Nat} {sp : Nat → Value} {sp0 : Nat → Option xC} {D : va_G} {aC : Nat → ClassId} {adK adV : Nat → Nat} {b L : Nat} {sc : Nat → Int32}
variable {p : Program} {l : Launch} {e : Env} {R : Room} {s : State} {mid : MethodId} {args : Array Value} {below : List Frame} {meth : Method} {c : Code} {H : Heap} {locs : List Loc} {cells slots : Nat} {Q : State → Prop}
theorem cv_int {x : Int32} : cv B sp (.int x) = .int x := rfl
theorem cv_long {x : Int64} : cv B sp (.long x) = .long x := rfl
theorem cv_null : cv B sp .null = .null := rfl
/-- an activation: the machine, the code, the tables -/
def xAct (gt : List Cond) (mx : Nat → Nat) (bt : Nat → ByteArray) (yn : Nat → MethodName) (j : Nat) (p : Program) (s : State) (mid : MethodId) (args : Array Value) (meth : Method) (c : Code) : Prop := p.tables.exec = Jvm.exec ∧ c.code = bt j ∧ c.maxLocals = mx j ∧ s.vm.findClass (yn j).cls = some mid.cls ∧ (∀ w ∈ gt, w.before args s = true) ∧ ((yn j).name = "<init>" → meth.name = "<init>")
/-- the heap holds the memory -/
def xH (cls : List vw_C) (B : Nat) (sp : Nat → Value) (sp0 : Nat → Option xC) (D : va_G) (aC : Nat → ClassId) (s : State) (m : xM) (H : Heap) (locs : List Loc) : Prop := va_P D cls (pw B sp aC m) H ∧ H.size = B + m.1 ∧ va_S (fun q => B ≤ q) s.heap H locs ∧ xOk sp0 m
theorem xH.A {q : Nat} (hB : B ≤ s.heap.size) (h : s.heap.size ≤ q) : (fun q => B ≤ q) q := Nat.le_trans hB h

theorem sx_iadd {j pc len : Nat} {raw : Instr}  {ls st ls' st' : List Value} {m m' : xM} {pc' : Nat} {lsA : Array Slot} (hsp : xSp strs lens byt B sp adK adV b L sc sp0) (hcl : xCl gt cls fty) (C0 : xAct gt mx bt yn j p s mid args meth c) (hE : xE cls acl nst strs lens byt B sp D aC adK adV b L sc s s.heap) (hB : B ≤ s.heap.size) (hd : decode (bt j) pc = .ok (raw, len)) (hk : xlk gt nst cls acl nM yn strs j pc len raw (.iadd)) (h : xs fty acl (.iadd) (pc + len) ls st m = some (pc', ls', st', m')) (hH : xH cls B sp sp0 D aC s m H locs) (hL : xLs B sp lsA (mx j) ls) (hc : cells + (m'.1 - m.1) ≤ R.cells) (hs : slots + (m'.2.1 - m.2.1) ≤ R.slots)
    (kk : ∀ (H' : Heap) (locs' : List Loc) (lsA' : Array Slot), xH cls B sp sp0 D aC s m' H' locs' → xLs B sp lsA' (mx j) ls' → W p l e R s mid args below meth c H' locs' (cells + (m'.1 - m.1)) (slots + (m'.2.1 - m.2.1)) Q (F0 mid pc' lsA' (st'.map (cv B sp)))) : W p l e R s mid args below meth c H locs cells slots Q (F0 mid pc lsA (st.map (cv B sp))) := by
  obtain ⟨hx, hb, hml, hown, hts, hnm⟩ := C0
  obtain ⟨rfl, rfl⟩ := hk
  simp only [xs, x_bin] at h
  split at h
  · cases h
    simp only [Nat.sub_self, Nat.add_zero, List.map_cons, cv_int, cv_long, cv_null] at kk ⊢
    exact lv_iadd hx hb hd (kk H locs lsA hH hL)
  · cases h
theorem sx_isub {j pc len : Nat} {raw : Instr}  {ls st ls' st' : List Value} {m m' : xM} {pc' : Nat} {lsA : Array Slot} (hsp : xSp strs lens byt B sp adK adV b L sc sp0) (hcl : xCl gt cls fty) (C0 : xAct gt mx bt yn j p s mid args meth c) (hE : xE cls acl nst strs lens byt B sp D aC adK adV b L sc s s.heap) (hB : B ≤ s.heap.size) (hd : decode (bt j) pc = .ok (raw, len)) (hk : xlk gt nst cls acl nM yn strs j pc len raw (.isub)) (h : xs fty acl (.isub) (pc + len) ls st m = some (pc', ls', st', m')) (hH : xH cls B sp sp0 D aC s m H locs) (hL : xLs B sp lsA (mx j) ls) (hc : cells + (m'.1 - m.1) ≤ R.cells) (hs : slots + (m'.2.1 - m.2.1) ≤ R.slots)
    (kk : ∀ (H' : Heap) (locs' : List Loc) (lsA' : Array Slot), xH cls B sp sp0 D aC s m' H' locs' → xLs B sp lsA' (mx j) ls' → W p l e R s mid args below meth c H' locs' (cells + (m'.1 - m.1)) (slots + (m'.2.1 - m.2.1)) Q (F0 mid pc' lsA' (st'.map (cv B sp)))) : W p l e R s mid args below meth c H locs cells slots Q (F0 mid pc lsA (st.map (cv B sp))) := by
  obtain ⟨hx, hb, hml, hown, hts, hnm⟩ := C0
  obtain ⟨rfl, rfl⟩ := hk
  simp only [xs, x_bin] at h
  split at h
  · cases h
    simp only [Nat.sub_self, Nat.add_zero, List.map_cons, cv_int, cv_long, cv_null] at kk ⊢
    exact lv_isub hx hb hd (kk H locs lsA hH hL)
  · cases h
theorem sx_imul {j pc len : Nat} {raw : Instr}  {ls st ls' st' : List Value} {m m' : xM} {pc' : Nat} {lsA : Array Slot} (hsp : xSp strs lens byt B sp adK adV b L sc sp0) (hcl : xCl gt cls fty) (C0 : xAct gt mx bt yn j p s mid args meth c) (hE : xE cls acl nst strs lens byt B sp D aC adK adV b L sc s s.heap) (hB : B ≤ s.heap.size) (hd : decode (bt j) pc = .ok (raw, len)) (hk : xlk gt nst cls acl nM yn strs j pc len raw (.imul)) (h : xs fty acl (.imul) (pc + len) ls st m = some (pc', ls', st', m')) (hH : xH cls B sp sp0 D aC s m H locs) (hL : xLs B sp lsA (mx j) ls) (hc : cells + (m'.1 - m.1) ≤ R.cells) (hs : slots + (m'.2.1 - m.2.1) ≤ R.slots)
    (kk : ∀ (H' : Heap) (locs' : List Loc) (lsA' : Array Slot), xH cls B sp sp0 D aC s m' H' locs' → xLs B sp lsA' (mx j) ls' → W p l e R s mid args below meth c H' locs' (cells + (m'.1 - m.1)) (slots + (m'.2.1 - m.2.1)) Q (F0 mid pc' lsA' (st'.map (cv B sp)))) : W p l e R s mid args below meth c H locs cells slots Q (F0 mid pc lsA (st.map (cv B sp))) := by
  obtain ⟨hx, hb, hml, hown, hts, hnm⟩ := C0
  obtain ⟨rfl, rfl⟩ := hk
  simp only [xs, x_bin] at h
  split at h
  · cases h
    simp only [Nat.sub_self, Nat.add_zero, List.map_cons, cv_int, cv_long, cv_null] at kk ⊢
    exact lv_imul hx hb hd (kk H locs lsA hH hL)
  · cases h
theorem sx_iand {j pc len : Nat} {raw : Instr}  {ls st ls' st' : List Value} {m m' : xM} {pc' : Nat} {lsA : Array Slot} (hsp : xSp strs lens byt B sp adK adV b L sc sp0) (hcl : xCl gt cls fty) (C0 : xAct gt mx bt yn j p s mid args meth c) (hE : xE cls acl nst strs lens byt B sp D aC adK adV b L sc s s.heap) (hB : B ≤ s.heap.size) (hd : decode (bt j) pc = .ok (raw, len)) (hk : xlk gt nst cls acl nM yn strs j pc len raw (.iand)) (h : xs fty acl (.iand) (pc + len) ls st m = some (pc', ls', st', m')) (hH : xH cls B sp sp0 D aC s m H locs) (hL : xLs B sp lsA (mx j) ls) (hc : cells + (m'.1 - m.1) ≤ R.cells) (hs : slots + (m'.2.1 - m.2.1) ≤ R.slots)
    (kk : ∀ (H' : Heap) (locs' : List Loc) (lsA' : Array Slot), xH cls B sp sp0 D aC s m' H' locs' → xLs B sp lsA' (mx j) ls' → W p l e R s mid args below meth c H' locs' (cells + (m'.1 - m.1)) (slots + (m'.2.1 - m.2.1)) Q (F0 mid pc' lsA' (st'.map (cv B sp)))) : W p l e R s mid args below meth c H locs cells slots Q (F0 mid pc lsA (st.map (cv B sp))) := by
  obtain ⟨hx, hb, hml, hown, hts, hnm⟩ := C0
  obtain ⟨rfl, rfl⟩ := hk
  simp only [xs, x_bin] at h
  split at h
  · cases h
    simp only [Nat.sub_self, Nat.add_zero, List.map_cons, cv_int, cv_long, cv_null] at kk ⊢
    exact lv_iand hx hb hd (kk H locs lsA hH hL)
  · cases h
theorem sx_ior {j pc len : Nat} {raw : Instr}  {ls st ls' st' : List Value} {m m' : xM} {pc' : Nat} {lsA : Array Slot} (hsp : xSp strs lens byt B sp adK adV b L sc sp0) (hcl : xCl gt cls fty) (C0 : xAct gt mx bt yn j p s mid args meth c) (hE : xE cls acl nst strs lens byt B sp D aC adK adV b L sc s s.heap) (hB : B ≤ s.heap.size) (hd : decode (bt j) pc = .ok (raw, len)) (hk : xlk gt nst cls acl nM yn strs j pc len raw (.ior)) (h : xs fty acl (.ior) (pc + len) ls st m = some (pc', ls', st', m')) (hH : xH cls B sp sp0 D aC s m H locs) (hL : xLs B sp lsA (mx j) ls) (hc : cells + (m'.1 - m.1) ≤ R.cells) (hs : slots + (m'.2.1 - m.2.1) ≤ R.slots)
    (kk : ∀ (H' : Heap) (locs' : List Loc) (lsA' : Array Slot), xH cls B sp sp0 D aC s m' H' locs' → xLs B sp lsA' (mx j) ls' → W p l e R s mid args below meth c H' locs' (cells + (m'.1 - m.1)) (slots + (m'.2.1 - m.2.1)) Q (F0 mid pc' lsA' (st'.map (cv B sp)))) : W p l e R s mid args below meth c H locs cells slots Q (F0 mid pc lsA (st.map (cv B sp))) := by
  obtain ⟨hx, hb, hml, hown, hts, hnm⟩ := C0
  obtain ⟨rfl, rfl⟩ := hk
  simp only [xs, x_bin] at h
  split at h
  · cases h
    simp only [Nat.sub_self, Nat.add_zero, List.map_cons, cv_int, cv_long, cv_null] at kk ⊢
    exact lv_ior hx hb hd (kk H locs lsA hH hL)
  · cases h
theorem sx_ishl {j pc len : Nat} {raw : Instr}  {ls st ls' st' : List Value} {m m' : xM} {pc' : Nat} {lsA : Array Slot} (hsp : xSp strs lens byt B sp adK adV b L sc sp0) (hcl : xCl gt cls fty) (C0 : xAct gt mx bt yn j p s mid args meth c) (hE : xE cls acl nst strs lens byt B sp D aC adK adV b L sc s s.heap) (hB : B ≤ s.heap.size) (hd : decode (bt j) pc = .ok (raw, len)) (hk : xlk gt nst cls acl nM yn strs j pc len raw (.ishl)) (h : xs fty acl (.ishl) (pc + len) ls st m = some (pc', ls', st', m')) (hH : xH cls B sp sp0 D aC s m H locs) (hL : xLs B sp lsA (mx j) ls) (hc : cells + (m'.1 - m.1) ≤ R.cells) (hs : slots + (m'.2.1 - m.2.1) ≤ R.slots)
    (kk : ∀ (H' : Heap) (locs' : List Loc) (lsA' : Array Slot), xH cls B sp sp0 D aC s m' H' locs' → xLs B sp lsA' (mx j) ls' → W p l e R s mid args below meth c H' locs' (cells + (m'.1 - m.1)) (slots + (m'.2.1 - m.2.1)) Q (F0 mid pc' lsA' (st'.map (cv B sp)))) : W p l e R s mid args below meth c H locs cells slots Q (F0 mid pc lsA (st.map (cv B sp))) := by
  obtain ⟨hx, hb, hml, hown, hts, hnm⟩ := C0
  obtain ⟨rfl, rfl⟩ := hk
  simp only [xs, x_bin] at h
  split at h
  · cases h
    simp only [Nat.sub_self, Nat.add_zero, List.map_cons, cv_int, cv_long, cv_null] at kk ⊢
    exact lv_ishl hx hb hd (kk H locs lsA hH hL)
  · cases h
theorem sx_ishr {j pc len : Nat} {raw : Instr}  {ls st ls' st' : List Value} {m m' : xM} {pc' : Nat} {lsA : Array Slot} (hsp : xSp strs lens byt B sp adK adV b L sc sp0) (hcl : xCl gt cls fty) (C0 : xAct gt mx bt yn j p s mid args meth c) (hE : xE cls acl nst strs lens byt B sp D aC adK adV b L sc s s.heap) (hB : B ≤ s.heap.size) (hd : decode (bt j) pc = .ok (raw, len)) (hk : xlk gt nst cls acl nM yn strs j pc len raw (.ishr)) (h : xs fty acl (.ishr) (pc + len) ls st m = some (pc', ls', st', m')) (hH : xH cls B sp sp0 D aC s m H locs) (hL : xLs B sp lsA (mx j) ls) (hc : cells + (m'.1 - m.1) ≤ R.cells) (hs : slots + (m'.2.1 - m.2.1) ≤ R.slots)
    (kk : ∀ (H' : Heap) (locs' : List Loc) (lsA' : Array Slot), xH cls B sp sp0 D aC s m' H' locs' → xLs B sp lsA' (mx j) ls' → W p l e R s mid args below meth c H' locs' (cells + (m'.1 - m.1)) (slots + (m'.2.1 - m.2.1)) Q (F0 mid pc' lsA' (st'.map (cv B sp)))) : W p l e R s mid args below meth c H locs cells slots Q (F0 mid pc lsA (st.map (cv B sp))) := by
  obtain ⟨hx, hb, hml, hown, hts, hnm⟩ := C0
  obtain ⟨rfl, rfl⟩ := hk
  simp only [xs, x_bin] at h
  split at h
  · cases h
    simp only [Nat.sub_self, Nat.add_zero, List.map_cons, cv_int, cv_long, cv_null] at kk ⊢
    exact lv_ishr hx hb hd (kk H locs lsA hH hL)
  · cases h
theorem sx_iushr {j pc len : Nat} {raw : Instr}  {ls st ls' st' : List Value} {m m' : xM} {pc' : Nat} {lsA : Array Slot} (hsp : xSp strs lens byt B sp adK adV b L sc sp0) (hcl : xCl gt cls fty) (C0 : xAct gt mx bt yn j p s mid args meth c) (hE : xE cls acl nst strs lens byt B sp D aC adK adV b L sc s s.heap) (hB : B ≤ s.heap.size) (hd : decode (bt j) pc = .ok (raw, len)) (hk : xlk gt nst cls acl nM yn strs j pc len raw (.iushr)) (h : xs fty acl (.iushr) (pc + len) ls st m = some (pc', ls', st', m')) (hH : xH cls B sp sp0 D aC s m H locs) (hL : xLs B sp lsA (mx j) ls) (hc : cells + (m'.1 - m.1) ≤ R.cells) (hs : slots + (m'.2.1 - m.2.1) ≤ R.slots)
    (kk : ∀ (H' : Heap) (locs' : List Loc) (lsA' : Array Slot), xH cls B sp sp0 D aC s m' H' locs' → xLs B sp lsA' (mx j) ls' → W p l e R s mid args below meth c H' locs' (cells + (m'.1 - m.1)) (slots + (m'.2.1 - m.2.1)) Q (F0 mid pc' lsA' (st'.map (cv B sp)))) : W p l e R s mid args below meth c H locs cells slots Q (F0 mid pc lsA (st.map (cv B sp))) := by
  obtain ⟨hx, hb, hml, hown, hts, hnm⟩ := C0
  obtain ⟨rfl, rfl⟩ := hk
  simp only [xs, x_bin] at h
  split at h
  · cases h
    simp only [Nat.sub_self, Nat.add_zero, List.map_cons, cv_int, cv_long, cv_null] at kk ⊢
    exact lv_iushr hx hb hd rfl (kk H locs lsA hH hL)
  · cases h
theorem sx_ladd {j pc len : Nat} {raw : Instr}  {ls st ls' st' : List Value} {m m' : xM} {pc' : Nat} {lsA : Array Slot} (hsp : xSp strs lens byt B sp adK adV b L sc sp0) (hcl : xCl gt cls fty) (C0 : xAct gt mx bt yn j p s mid args meth c) (hE : xE cls acl nst strs lens byt B sp D aC adK adV b L sc s s.heap) (hB : B ≤ s.heap.size) (hd : decode (bt j) pc = .ok (raw, len)) (hk : xlk gt nst cls acl nM yn strs j pc len raw (.ladd)) (h : xs fty acl (.ladd) (pc + len) ls st m = some (pc', ls', st', m')) (hH : xH cls B sp sp0 D aC s m H locs) (hL : xLs B sp lsA (mx j) ls) (hc : cells + (m'.1 - m.1) ≤ R.cells) (hs : slots + (m'.2.1 - m.2.1) ≤ R.slots)
    (kk : ∀ (H' : Heap) (locs' : List Loc) (lsA' : Array Slot), xH cls B sp sp0 D aC s m' H' locs' → xLs B sp lsA' (mx j) ls' → W p l e R s mid args below meth c H' locs' (cells + (m'.1 - m.1)) (slots + (m'.2.1 - m.2.1)) Q (F0 mid pc' lsA' (st'.map (cv B sp)))) : W p l e R s mid args below meth c H locs cells slots Q (F0 mid pc lsA (st.map (cv B sp))) := by
  obtain ⟨hx, hb, hml, hown, hts, hnm⟩ := C0
  obtain ⟨rfl, rfl⟩ := hk
  simp only [xs, x_binL] at h
  split at h
  · cases h
    simp only [Nat.sub_self, Nat.add_zero, List.map_cons, cv_int, cv_long, cv_null] at kk ⊢
    exact lv_ladd hx hb hd (kk H locs lsA hH hL)
  · cases h
theorem sx_lsub {j pc len : Nat} {raw : Instr}  {ls st ls' st' : List Value} {m m' : xM} {pc' : Nat} {lsA : Array Slot} (hsp : xSp strs lens byt B sp adK adV b L sc sp0) (hcl : xCl gt cls fty) (C0 : xAct gt mx bt yn j p s mid args meth c) (hE : xE cls acl nst strs lens byt B sp D aC adK adV b L sc s s.heap) (hB : B ≤ s.heap.size) (hd : decode (bt j) pc = .ok (raw, len)) (hk : xlk gt nst cls acl nM yn strs j pc len raw (.lsub)) (h : xs fty acl (.lsub) (pc + len) ls st m = some (pc', ls', st', m')) (hH : xH cls B sp sp0 D aC s m H locs) (hL : xLs B sp lsA (mx j) ls) (hc : cells + (m'.1 - m.1) ≤ R.cells) (hs : slots + (m'.2.1 - m.2.1) ≤ R.slots)
    (kk : ∀ (H' : Heap) (locs' : List Loc) (lsA' : Array Slot), xH cls B sp sp0 D aC s m' H' locs' → xLs B sp lsA' (mx j) ls' → W p l e R s mid args below meth c H' locs' (cells + (m'.1 - m.1)) (slots + (m'.2.1 - m.2.1)) Q (F0 mid pc' lsA' (st'.map (cv B sp)))) : W p l e R s mid args below meth c H locs cells slots Q (F0 mid pc lsA (st.map (cv B sp))) := by
  obtain ⟨hx, hb, hml, hown, hts, hnm⟩ := C0
  obtain ⟨rfl, rfl⟩ := hk
  simp only [xs, x_binL] at h
  split at h
  · cases h
    simp only [Nat.sub_self, Nat.add_zero, List.map_cons, cv_int, cv_long, cv_null] at kk ⊢
    exact lv_lsub hx hb hd (kk H locs lsA hH hL)
  · cases h
theorem sx_lmul {j pc len : Nat} {raw : Instr}  {ls st ls' st' : List Value} {m m' : xM} {pc' : Nat} {lsA : Array Slot} (hsp : xSp strs lens byt B sp adK adV b L sc sp0) (hcl : xCl gt cls fty) (C0 : xAct gt mx bt yn j p s mid args meth c) (hE : xE cls acl nst strs lens byt B sp D aC adK adV b L sc s s.heap) (hB : B ≤ s.heap.size) (hd : decode (bt j) pc = .ok (raw, len)) (hk : xlk gt nst cls acl nM yn strs j pc len raw (.lmul)) (h : xs fty acl (.lmul) (pc + len) ls st m = some (pc', ls', st', m')) (hH : xH cls B sp sp0 D aC s m H locs) (hL : xLs B sp lsA (mx j) ls) (hc : cells + (m'.1 - m.1) ≤ R.cells) (hs : slots + (m'.2.1 - m.2.1) ≤ R.slots)
    (kk : ∀ (H' : Heap) (locs' : List Loc) (lsA' : Array Slot), xH cls B sp sp0 D aC s m' H' locs' → xLs B sp lsA' (mx j) ls' → W p l e R s mid args below meth c H' locs' (cells + (m'.1 - m.1)) (slots + (m'.2.1 - m.2.1)) Q (F0 mid pc' lsA' (st'.map (cv B sp)))) : W p l e R s mid args below meth c H locs cells slots Q (F0 mid pc lsA (st.map (cv B sp))) := by
  obtain ⟨hx, hb, hml, hown, hts, hnm⟩ := C0
  obtain ⟨rfl, rfl⟩ := hk
  simp only [xs, x_binL] at h
  split at h
  · cases h
    simp only [Nat.sub_self, Nat.add_zero, List.map_cons, cv_int, cv_long, cv_null] at kk ⊢
    exact lv_lmul hx hb hd (kk H locs lsA hH hL)
  · cases h
theorem sx_land {j pc len : Nat} {raw : Instr}  {ls st ls' st' : List Value} {m m' : xM} {pc' : Nat} {lsA : Array Slot} (hsp : xSp strs lens byt B sp adK adV b L sc sp0) (hcl : xCl gt cls fty) (C0 : xAct gt mx bt yn j p s mid args meth c) (hE : xE cls acl nst strs lens byt B sp D aC adK adV b L sc s s.heap) (hB : B ≤ s.heap.size) (hd : decode (bt j) pc = .ok (raw, len)) (hk : xlk gt nst cls acl nM yn strs j pc len raw (.land)) (h : xs fty acl (.land) (pc + len) ls st m = some (pc', ls', st', m')) (hH : xH cls B sp sp0 D aC s m H locs) (hL : xLs B sp lsA (mx j) ls) (hc : cells + (m'.1 - m.1) ≤ R.cells) (hs : slots + (m'.2.1 - m.2.1) ≤ R.slots)
    (kk : ∀ (H' : Heap) (locs' : List Loc) (lsA' : Array Slot), xH cls B sp sp0 D aC s m' H' locs' → xLs B sp lsA' (mx j) ls' → W p l e R s mid args below meth c H' locs' (cells + (m'.1 - m.1)) (slots + (m'.2.1 - m.2.1)) Q (F0 mid pc' lsA' (st'.map (cv B sp)))) : W p l e R s mid args below meth c H locs cells slots Q (F0 mid pc lsA (st.map (cv B sp))) := by
  obtain ⟨hx, hb, hml, hown, hts, hnm⟩ := C0
  obtain ⟨rfl, rfl⟩ := hk
  simp only [xs, x_binL] at h
  split at h
  · cases h
    simp only [Nat.sub_self, Nat.add_zero, List.map_cons, cv_int, cv_long, cv_null] at kk ⊢
    exact lv_land hx hb hd (kk H locs lsA hH hL)
  · cases h
theorem sx_lor {j pc len : Nat} {raw : Instr}  {ls st ls' st' : List Value} {m m' : xM} {pc' : Nat} {lsA : Array Slot} (hsp : xSp strs lens byt B sp adK adV b L sc sp0) (hcl : xCl gt cls fty) (C0 : xAct gt mx bt yn j p s mid args meth c) (hE : xE cls acl nst strs lens byt B sp D aC adK adV b L sc s s.heap) (hB : B ≤ s.heap.size) (hd : decode (bt j) pc = .ok (raw, len)) (hk : xlk gt nst cls acl nM yn strs j pc len raw (.lor)) (h : xs fty acl (.lor) (pc + len) ls st m = some (pc', ls', st', m')) (hH : xH cls B sp sp0 D aC s m H locs) (hL : xLs B sp lsA (mx j) ls) (hc : cells + (m'.1 - m.1) ≤ R.cells) (hs : slots + (m'.2.1 - m.2.1) ≤ R.slots)
    (kk : ∀ (H' : Heap) (locs' : List Loc) (lsA' : Array Slot), xH cls B sp sp0 D aC s m' H' locs' → xLs B sp lsA' (mx j) ls' → W p l e R s mid args below meth c H' locs' (cells + (m'.1 - m.1)) (slots + (m'.2.1 - m.2.1)) Q (F0 mid pc' lsA' (st'.map (cv B sp)))) : W p l e R s mid args below meth c H locs cells slots Q (F0 mid pc lsA (st.map (cv B sp))) := by
  obtain ⟨hx, hb, hml, hown, hts, hnm⟩ := C0
  obtain ⟨rfl, rfl⟩ := hk
  simp only [xs, x_binL] at h
  split at h
  · cases h
    simp only [Nat.sub_self, Nat.add_zero, List.map_cons, cv_int, cv_long, cv_null] at kk ⊢
    exact lv_lor hx hb hd (kk H locs lsA hH hL)
  · cases h
theorem sx_lshl {j pc len : Nat} {raw : Instr}  {ls st ls' st' : List Value} {m m' : xM} {pc' : Nat} {lsA : Array Slot} (hsp : xSp strs lens byt B sp adK adV b L sc sp0) (hcl : xCl gt cls fty) (C0 : xAct gt mx bt yn j p s mid args meth c) (hE : xE cls acl nst strs lens byt B sp D aC adK adV b L sc s s.heap) (hB : B ≤ s.heap.size) (hd : decode (bt j) pc = .ok (raw, len)) (hk : xlk gt nst cls acl nM yn strs j pc len raw (.lshl)) (h : xs fty acl (.lshl) (pc + len) ls st m = some (pc', ls', st', m')) (hH : xH cls B sp sp0 D aC s m H locs) (hL : xLs B sp lsA (mx j) ls) (hc : cells + (m'.1 - m.1) ≤ R.cells) (hs : slots + (m'.2.1 - m.2.1) ≤ R.slots)
    (kk : ∀ (H' : Heap) (locs' : List Loc) (lsA' : Array Slot), xH cls B sp sp0 D aC s m' H' locs' → xLs B sp lsA' (mx j) ls' → W p l e R s mid args below meth c H' locs' (cells + (m'.1 - m.1)) (slots + (m'.2.1 - m.2.1)) Q (F0 mid pc' lsA' (st'.map (cv B sp)))) : W p l e R s mid args below meth c H locs cells slots Q (F0 mid pc lsA (st.map (cv B sp))) := by
  obtain ⟨hx, hb, hml, hown, hts, hnm⟩ := C0
  obtain ⟨rfl, rfl⟩ := hk
  simp only [xs] at h
  split at h
  · cases h
    simp only [Nat.sub_self, Nat.add_zero, List.map_cons, cv_int, cv_long, cv_null] at kk ⊢
    exact lv_lshl hx hb hd rfl (kk H locs lsA hH hL)
  · cases h
theorem sx_lcmp {j pc len : Nat} {raw : Instr}  {ls st ls' st' : List Value} {m m' : xM} {pc' : Nat} {lsA : Array Slot} (hsp : xSp strs lens byt B sp adK adV b L sc sp0) (hcl : xCl gt cls fty) (C0 : xAct gt mx bt yn j p s mid args meth c) (hE : xE cls acl nst strs lens byt B sp D aC adK adV b L sc s s.heap) (hB : B ≤ s.heap.size) (hd : decode (bt j) pc = .ok (raw, len)) (hk : xlk gt nst cls acl nM yn strs j pc len raw (.lcmp)) (h : xs fty acl (.lcmp) (pc + len) ls st m = some (pc', ls', st', m')) (hH : xH cls B sp sp0 D aC s m H locs) (hL : xLs B sp lsA (mx j) ls) (hc : cells + (m'.1 - m.1) ≤ R.cells) (hs : slots + (m'.2.1 - m.2.1) ≤ R.slots)
    (kk : ∀ (H' : Heap) (locs' : List Loc) (lsA' : Array Slot), xH cls B sp sp0 D aC s m' H' locs' → xLs B sp lsA' (mx j) ls' → W p l e R s mid args below meth c H' locs' (cells + (m'.1 - m.1)) (slots + (m'.2.1 - m.2.1)) Q (F0 mid pc' lsA' (st'.map (cv B sp)))) : W p l e R s mid args below meth c H locs cells slots Q (F0 mid pc lsA (st.map (cv B sp))) := by
  obtain ⟨hx, hb, hml, hown, hts, hnm⟩ := C0
  obtain ⟨rfl, rfl⟩ := hk
  simp only [xs] at h
  split at h
  · cases h
    simp only [Nat.sub_self, Nat.add_zero, List.map_cons, cv_int, cv_long, cv_null] at kk ⊢
    exact W.lcmp hx hb hd (kk H locs lsA hH hL)
  · cases h
theorem sx_i2l {j pc len : Nat} {raw : Instr}  {ls st ls' st' : List Value} {m m' : xM} {pc' : Nat} {lsA : Array Slot} (hsp : xSp strs lens byt B sp adK adV b L sc sp0) (hcl : xCl gt cls fty) (C0 : xAct gt mx bt yn j p s mid args meth c) (hE : xE cls acl nst strs lens byt B sp D aC adK adV b L sc s s.heap) (hB : B ≤ s.heap.size) (hd : decode (bt j) pc = .ok (raw, len)) (hk : xlk gt nst cls acl nM yn strs j pc len raw (.i2l)) (h : xs fty acl (.i2l) (pc + len) ls st m = some (pc', ls', st', m')) (hH : xH cls B sp sp0 D aC s m H locs) (hL : xLs B sp lsA (mx j) ls) (hc : cells + (m'.1 - m.1) ≤ R.cells) (hs : slots + (m'.2.1 - m.2.1) ≤ R.slots)
    (kk : ∀ (H' : Heap) (locs' : List Loc) (lsA' : Array Slot), xH cls B sp sp0 D aC s m' H' locs' → xLs B sp lsA' (mx j) ls' → W p l e R s mid args below meth c H' locs' (cells + (m'.1 - m.1)) (slots + (m'.2.1 - m.2.1)) Q (F0 mid pc' lsA' (st'.map (cv B sp)))) : W p l e R s mid args below meth c H locs cells slots Q (F0 mid pc lsA (st.map (cv B sp))) := by
  obtain ⟨hx, hb, hml, hown, hts, hnm⟩ := C0
  obtain ⟨rfl, rfl⟩ := hk
  simp only [xs] at h
  split at h
  · cases h
    simp only [Nat.sub_self, Nat.add_zero, List.map_cons, cv_int, cv_long, cv_null] at kk ⊢
    exact lv_i2l hx hb hd rfl (kk H locs lsA hH hL)
  · cases h
theorem sx_l2i {j pc len : Nat} {raw : Instr}  {ls st ls' st' : List Value} {m m' : xM} {pc' : Nat} {lsA : Array Slot} (hsp : xSp strs lens byt B sp adK adV b L sc sp0) (hcl : xCl gt cls fty) (C0 : xAct gt mx bt yn j p s mid args meth c) (hE : xE cls acl nst strs lens byt B sp D aC adK adV b L sc s s.heap) (hB : B ≤ s.heap.size) (hd : decode (bt j) pc = .ok (raw, len)) (hk : xlk gt nst cls acl nM yn strs j pc len raw (.l2i)) (h : xs fty acl (.l2i) (pc + len) ls st m = some (pc', ls', st', m')) (hH : xH cls B sp sp0 D aC s m H locs) (hL : xLs B sp lsA (mx j) ls) (hc : cells + (m'.1 - m.1) ≤ R.cells) (hs : slots + (m'.2.1 - m.2.1) ≤ R.slots)
    (kk : ∀ (H' : Heap) (locs' : List Loc) (lsA' : Array Slot), xH cls B sp sp0 D aC s m' H' locs' → xLs B sp lsA' (mx j) ls' → W p l e R s mid args below meth c H' locs' (cells + (m'.1 - m.1)) (slots + (m'.2.1 - m.2.1)) Q (F0 mid pc' lsA' (st'.map (cv B sp)))) : W p l e R s mid args below meth c H locs cells slots Q (F0 mid pc lsA (st.map (cv B sp))) := by
  obtain ⟨hx, hb, hml, hown, hts, hnm⟩ := C0
  obtain ⟨rfl, rfl⟩ := hk
  simp only [xs] at h
  split at h
  · cases h
    simp only [Nat.sub_self, Nat.add_zero, List.map_cons, cv_int, cv_long, cv_null] at kk ⊢
    exact lv_l2i hx hb hd rfl (kk H locs lsA hH hL)
  · cases h
theorem sx_i2b {j pc len : Nat} {raw : Instr}  {ls st ls' st' : List Value} {m m' : xM} {pc' : Nat} {lsA : Array Slot} (hsp : xSp strs lens byt B sp adK adV b L sc sp0) (hcl : xCl gt cls fty) (C0 : xAct gt mx bt yn j p s mid args meth c) (hE : xE cls acl nst strs lens byt B sp D aC adK adV b L sc s s.heap) (hB : B ≤ s.heap.size) (hd : decode (bt j) pc = .ok (raw, len)) (hk : xlk gt nst cls acl nM yn strs j pc len raw (.i2b)) (h : xs fty acl (.i2b) (pc + len) ls st m = some (pc', ls', st', m')) (hH : xH cls B sp sp0 D aC s m H locs) (hL : xLs B sp lsA (mx j) ls) (hc : cells + (m'.1 - m.1) ≤ R.cells) (hs : slots + (m'.2.1 - m.2.1) ≤ R.slots)
    (kk : ∀ (H' : Heap) (locs' : List Loc) (lsA' : Array Slot), xH cls B sp sp0 D aC s m' H' locs' → xLs B sp lsA' (mx j) ls' → W p l e R s mid args below meth c H' locs' (cells + (m'.1 - m.1)) (slots + (m'.2.1 - m.2.1)) Q (F0 mid pc' lsA' (st'.map (cv B sp)))) : W p l e R s mid args below meth c H locs cells slots Q (F0 mid pc lsA (st.map (cv B sp))) := by
  obtain ⟨hx, hb, hml, hown, hts, hnm⟩ := C0
  obtain ⟨rfl, rfl⟩ := hk
  simp only [xs] at h
  split at h
  · cases h
    simp only [Nat.sub_self, Nat.add_zero, List.map_cons, cv_int, cv_long, cv_null] at kk ⊢
    exact lv_i2b hx hb hd rfl (kk H locs lsA hH hL)
  · cases h
theorem sx_i2c {j pc len : Nat} {raw : Instr}  {ls st ls' st' : List Value} {m m' : xM} {pc' : Nat} {lsA : Array Slot} (hsp : xSp strs lens byt B sp adK adV b L sc sp0) (hcl : xCl gt cls fty) (C0 : xAct gt mx bt yn j p s mid args meth c) (hE : xE cls acl nst strs lens byt B sp D aC adK adV b L sc s s.heap) (hB : B ≤ s.heap.size) (hd : decode (bt j) pc = .ok (raw, len)) (hk : xlk gt nst cls acl nM yn strs j pc len raw (.i2c)) (h : xs fty acl (.i2c) (pc + len) ls st m = some (pc', ls', st', m')) (hH : xH cls B sp sp0 D aC s m H locs) (hL : xLs B sp lsA (mx j) ls) (hc : cells + (m'.1 - m.1) ≤ R.cells) (hs : slots + (m'.2.1 - m.2.1) ≤ R.slots)
    (kk : ∀ (H' : Heap) (locs' : List Loc) (lsA' : Array Slot), xH cls B sp sp0 D aC s m' H' locs' → xLs B sp lsA' (mx j) ls' → W p l e R s mid args below meth c H' locs' (cells + (m'.1 - m.1)) (slots + (m'.2.1 - m.2.1)) Q (F0 mid pc' lsA' (st'.map (cv B sp)))) : W p l e R s mid args below meth c H locs cells slots Q (F0 mid pc lsA (st.map (cv B sp))) := by
  obtain ⟨hx, hb, hml, hown, hts, hnm⟩ := C0
  obtain ⟨rfl, rfl⟩ := hk
  simp only [xs] at h
  split at h
  · cases h
    simp only [Nat.sub_self, Nat.add_zero, List.map_cons, cv_int, cv_long, cv_null] at kk ⊢
    exact lv_i2c hx hb hd rfl (kk H locs lsA hH hL)
  · cases h
theorem sx_idiv {j pc len : Nat} {raw : Instr}  {ls st ls' st' : List Value} {m m' : xM} {pc' : Nat} {lsA : Array Slot} (hsp : xSp strs lens byt B sp adK adV b L sc sp0) (hcl : xCl gt cls fty) (C0 : xAct gt mx bt yn j p s mid args meth c) (hE : xE cls acl nst strs lens byt B sp D aC adK adV b L sc s s.heap) (hB : B ≤ s.heap.size) (hd : decode (bt j) pc = .ok (raw, len)) (hk : xlk gt nst cls acl nM yn strs j pc len raw (.idiv)) (h : xs fty acl (.idiv) (pc + len) ls st m = some (pc', ls', st', m')) (hH : xH cls B sp sp0 D aC s m H locs) (hL : xLs B sp lsA (mx j) ls) (hc : cells + (m'.1 - m.1) ≤ R.cells) (hs : slots + (m'.2.1 - m.2.1) ≤ R.slots)
    (kk : ∀ (H' : Heap) (locs' : List Loc) (lsA' : Array Slot), xH cls B sp sp0 D aC s m' H' locs' → xLs B sp lsA' (mx j) ls' → W p l e R s mid args below meth c H' locs' (cells + (m'.1 - m.1)) (slots + (m'.2.1 - m.2.1)) Q (F0 mid pc' lsA' (st'.map (cv B sp)))) : W p l e R s mid args below meth c H locs cells slots Q (F0 mid pc lsA (st.map (cv B sp))) := by
  obtain ⟨hx, hb, hml, hown, hts, hnm⟩ := C0
  obtain ⟨rfl, rfl⟩ := hk
  simp only [xs] at h
  split at h
  · split at h
    · cases h
    · rename_i hne
      cases h
      simp only [Nat.sub_self, Nat.add_zero, List.map_cons, cv_int, cv_long, cv_null] at kk ⊢
      exact lv_idiv hx hb hd hne (kk H locs lsA hH hL)
  · cases h
theorem sx_irem {j pc len : Nat} {raw : Instr}  {ls st ls' st' : List Value} {m m' : xM} {pc' : Nat} {lsA : Array Slot} (hsp : xSp strs lens byt B sp adK adV b L sc sp0) (hcl : xCl gt cls fty) (C0 : xAct gt mx bt yn j p s mid args meth c) (hE : xE cls acl nst strs lens byt B sp D aC adK adV b L sc s s.heap) (hB : B ≤ s.heap.size) (hd : decode (bt j) pc = .ok (raw, len)) (hk : xlk gt nst cls acl nM yn strs j pc len raw (.irem)) (h : xs fty acl (.irem) (pc + len) ls st m = some (pc', ls', st', m')) (hH : xH cls B sp sp0 D aC s m H locs) (hL : xLs B sp lsA (mx j) ls) (hc : cells + (m'.1 - m.1) ≤ R.cells) (hs : slots + (m'.2.1 - m.2.1) ≤ R.slots)
    (kk : ∀ (H' : Heap) (locs' : List Loc) (lsA' : Array Slot), xH cls B sp sp0 D aC s m' H' locs' → xLs B sp lsA' (mx j) ls' → W p l e R s mid args below meth c H' locs' (cells + (m'.1 - m.1)) (slots + (m'.2.1 - m.2.1)) Q (F0 mid pc' lsA' (st'.map (cv B sp)))) : W p l e R s mid args below meth c H locs cells slots Q (F0 mid pc lsA (st.map (cv B sp))) := by
  obtain ⟨hx, hb, hml, hown, hts, hnm⟩ := C0
  obtain ⟨rfl, rfl⟩ := hk
  simp only [xs] at h
  split at h
  · split at h
    · cases h
    · rename_i hne
      cases h
      simp only [Nat.sub_self, Nat.add_zero, List.map_cons, cv_int, cv_long, cv_null] at kk ⊢
      exact lv_irem hx hb hd hne (kk H locs lsA hH hL)
  · cases h
theorem sx_ldiv {j pc len : Nat} {raw : Instr}  {ls st ls' st' : List Value} {m m' : xM} {pc' : Nat} {lsA : Array Slot} (hsp : xSp strs lens byt B sp adK adV b L sc sp0) (hcl : xCl gt cls fty) (C0 : xAct gt mx bt yn j p s mid args meth c) (hE : xE cls acl nst strs lens byt B sp D aC adK adV b L sc s s.heap) (hB : B ≤ s.heap.size) (hd : decode (bt j) pc = .ok (raw, len)) (hk : xlk gt nst cls acl nM yn strs j pc len raw (.ldiv)) (h : xs fty acl (.ldiv) (pc + len) ls st m = some (pc', ls', st', m')) (hH : xH cls B sp sp0 D aC s m H locs) (hL : xLs B sp lsA (mx j) ls) (hc : cells + (m'.1 - m.1) ≤ R.cells) (hs : slots + (m'.2.1 - m.2.1) ≤ R.slots)
    (kk : ∀ (H' : Heap) (locs' : List Loc) (lsA' : Array Slot), xH cls B sp sp0 D aC s m' H' locs' → xLs B sp lsA' (mx j) ls' → W p l e R s mid args below meth c H' locs' (cells + (m'.1 - m.1)) (slots + (m'.2.1 - m.2.1)) Q (F0 mid pc' lsA' (st'.map (cv B sp)))) : W p l e R s mid args below meth c H locs cells slots Q (F0 mid pc lsA (st.map (cv B sp))) := by
  obtain ⟨hx, hb, hml, hown, hts, hnm⟩ := C0
  obtain ⟨rfl, rfl⟩ := hk
  simp only [xs] at h
  split at h
  · split at h
    · cases h
    · rename_i hne
      cases h
      simp only [Nat.sub_self, Nat.add_zero, List.map_cons, cv_int, cv_long, cv_null] at kk ⊢
      exact lv_ldiv hx hb hd hne (kk H locs lsA hH hL)
  · cases h
theorem sx_lrem {j pc len : Nat} {raw : Instr}  {ls st ls' st' : List Value} {m m' : xM} {pc' : Nat} {lsA : Array Slot} (hsp : xSp strs lens byt B sp adK adV b L sc sp0) (hcl : xCl gt cls fty) (C0 : xAct gt mx bt yn j p s mid args meth c) (hE : xE cls acl nst strs lens byt B sp D aC adK adV b L sc s s.heap) (hB : B ≤ s.heap.size) (hd : decode (bt j) pc = .ok (raw, len)) (hk : xlk gt nst cls acl nM yn strs j pc len raw (.lrem)) (h : xs fty acl (.lrem) (pc + len) ls st m = some (pc', ls', st', m')) (hH : xH cls B sp sp0 D aC s m H locs) (hL : xLs B sp lsA (mx j) ls) (hc : cells + (m'.1 - m.1) ≤ R.cells) (hs : slots + (m'.2.1 - m.2.1) ≤ R.slots)
    (kk : ∀ (H' : Heap) (locs' : List Loc) (lsA' : Array Slot), xH cls B sp sp0 D aC s m' H' locs' → xLs B sp lsA' (mx j) ls' → W p l e R s mid args below meth c H' locs' (cells + (m'.1 - m.1)) (slots + (m'.2.1 - m.2.1)) Q (F0 mid pc' lsA' (st'.map (cv B sp)))) : W p l e R s mid args below meth c H locs cells slots Q (F0 mid pc lsA (st.map (cv B sp))) := by
  obtain ⟨hx, hb, hml, hown, hts, hnm⟩ := C0
  obtain ⟨rfl, rfl⟩ := hk
  simp only [xs] at h
  split at h
  · split at h
    · cases h
    · rename_i hne
      cases h
      simp only [Nat.sub_self, Nat.add_zero, List.map_cons, cv_int, cv_long, cv_null] at kk ⊢
      exact lv_lrem hx hb hd hne (kk H locs lsA hH hL)
  · cases h
theorem sx_dup {j pc len : Nat} {raw : Instr}  {ls st ls' st' : List Value} {m m' : xM} {pc' : Nat} {lsA : Array Slot} (hsp : xSp strs lens byt B sp adK adV b L sc sp0) (hcl : xCl gt cls fty) (C0 : xAct gt mx bt yn j p s mid args meth c) (hE : xE cls acl nst strs lens byt B sp D aC adK adV b L sc s s.heap) (hB : B ≤ s.heap.size) (hd : decode (bt j) pc = .ok (raw, len)) (hk : xlk gt nst cls acl nM yn strs j pc len raw (.dup)) (h : xs fty acl (.dup) (pc + len) ls st m = some (pc', ls', st', m')) (hH : xH cls B sp sp0 D aC s m H locs) (hL : xLs B sp lsA (mx j) ls) (hc : cells + (m'.1 - m.1) ≤ R.cells) (hs : slots + (m'.2.1 - m.2.1) ≤ R.slots)
    (kk : ∀ (H' : Heap) (locs' : List Loc) (lsA' : Array Slot), xH cls B sp sp0 D aC s m' H' locs' → xLs B sp lsA' (mx j) ls' → W p l e R s mid args below meth c H' locs' (cells + (m'.1 - m.1)) (slots + (m'.2.1 - m.2.1)) Q (F0 mid pc' lsA' (st'.map (cv B sp)))) : W p l e R s mid args below meth c H locs cells slots Q (F0 mid pc lsA (st.map (cv B sp))) := by
  obtain ⟨hx, hb, hml, hown, hts, hnm⟩ := C0
  obtain ⟨rfl, rfl⟩ := hk
  simp only [xs] at h
  split at h
  · split at h
    · rename_i hne
      cases h
      simp only [Nat.sub_self, Nat.add_zero, List.map_cons, cv_int, cv_long, cv_null] at kk ⊢
      exact lv_dup hx hb hd (by rw [cv_cat hsp.1]; exact hne) (kk H locs lsA hH hL)
    · cases h
  · cases h
theorem sx_pop {j pc len : Nat} {raw : Instr}  {ls st ls' st' : List Value} {m m' : xM} {pc' : Nat} {lsA : Array Slot} (hsp : xSp strs lens byt B sp adK adV b L sc sp0) (hcl : xCl gt cls fty) (C0 : xAct gt mx bt yn j p s mid args meth c) (hE : xE cls acl nst strs lens byt B sp D aC adK adV b L sc s s.heap) (hB : B ≤ s.heap.size) (hd : decode (bt j) pc = .ok (raw, len)) (hk : xlk gt nst cls acl nM yn strs j pc len raw (.pop)) (h : xs fty acl (.pop) (pc + len) ls st m = some (pc', ls', st', m')) (hH : xH cls B sp sp0 D aC s m H locs) (hL : xLs B sp lsA (mx j) ls) (hc : cells + (m'.1 - m.1) ≤ R.cells) (hs : slots + (m'.2.1 - m.2.1) ≤ R.slots)
    (kk : ∀ (H' : Heap) (locs' : List Loc) (lsA' : Array Slot), xH cls B sp sp0 D aC s m' H' locs' → xLs B sp lsA' (mx j) ls' → W p l e R s mid args below meth c H' locs' (cells + (m'.1 - m.1)) (slots + (m'.2.1 - m.2.1)) Q (F0 mid pc' lsA' (st'.map (cv B sp)))) : W p l e R s mid args below meth c H locs cells slots Q (F0 mid pc lsA (st.map (cv B sp))) := by
  obtain ⟨hx, hb, hml, hown, hts, hnm⟩ := C0
  obtain ⟨rfl, rfl⟩ := hk
  simp only [xs] at h
  split at h
  · split at h
    · rename_i hne
      cases h
      simp only [Nat.sub_self, Nat.add_zero, List.map_cons, cv_int, cv_long, cv_null] at kk ⊢
      exact lv_pop hx hb hd (by rw [cv_cat hsp.1]; exact hne) (kk H locs lsA hH hL)
    · cases h
  · cases h
theorem sx_dup2 {j pc len : Nat} {raw : Instr}  {ls st ls' st' : List Value} {m m' : xM} {pc' : Nat} {lsA : Array Slot} (hsp : xSp strs lens byt B sp adK adV b L sc sp0) (hcl : xCl gt cls fty) (C0 : xAct gt mx bt yn j p s mid args meth c) (hE : xE cls acl nst strs lens byt B sp D aC adK adV b L sc s s.heap) (hB : B ≤ s.heap.size) (hd : decode (bt j) pc = .ok (raw, len)) (hk : xlk gt nst cls acl nM yn strs j pc len raw (.dup2)) (h : xs fty acl (.dup2) (pc + len) ls st m = some (pc', ls', st', m')) (hH : xH cls B sp sp0 D aC s m H locs) (hL : xLs B sp lsA (mx j) ls) (hc : cells + (m'.1 - m.1) ≤ R.cells) (hs : slots + (m'.2.1 - m.2.1) ≤ R.slots)
    (kk : ∀ (H' : Heap) (locs' : List Loc) (lsA' : Array Slot), xH cls B sp sp0 D aC s m' H' locs' → xLs B sp lsA' (mx j) ls' → W p l e R s mid args below meth c H' locs' (cells + (m'.1 - m.1)) (slots + (m'.2.1 - m.2.1)) Q (F0 mid pc' lsA' (st'.map (cv B sp)))) : W p l e R s mid args below meth c H locs cells slots Q (F0 mid pc lsA (st.map (cv B sp))) := by
  obtain ⟨hx, hb, hml, hown, hts, hnm⟩ := C0
  obtain ⟨rfl, rfl⟩ := hk
  simp only [xs] at h
  split at h
  · split at h
    · rename_i hne
      cases h
      simp only [Nat.sub_self, Nat.add_zero, List.map_cons, cv_int, cv_long, cv_null] at kk ⊢
      exact lv_dup2_11 hx hb hd (by rw [cv_cat hsp.1]; exact hne.1) (by rw [cv_cat hsp.1]; exact hne.2) (kk H locs lsA hH hL)
    · cases h
  · cases h
theorem sx_aconst_null {j pc len : Nat} {raw : Instr}  {ls st ls' st' : List Value} {m m' : xM} {pc' : Nat} {lsA : Array Slot} (hsp : xSp strs lens byt B sp adK adV b L sc sp0) (hcl : xCl gt cls fty) (C0 : xAct gt mx bt yn j p s mid args meth c) (hE : xE cls acl nst strs lens byt B sp D aC adK adV b L sc s s.heap) (hB : B ≤ s.heap.size) (hd : decode (bt j) pc = .ok (raw, len)) (hk : xlk gt nst cls acl nM yn strs j pc len raw (.aconst_null)) (h : xs fty acl (.aconst_null) (pc + len) ls st m = some (pc', ls', st', m')) (hH : xH cls B sp sp0 D aC s m H locs) (hL : xLs B sp lsA (mx j) ls) (hc : cells + (m'.1 - m.1) ≤ R.cells) (hs : slots + (m'.2.1 - m.2.1) ≤ R.slots)
    (kk : ∀ (H' : Heap) (locs' : List Loc) (lsA' : Array Slot), xH cls B sp sp0 D aC s m' H' locs' → xLs B sp lsA' (mx j) ls' → W p l e R s mid args below meth c H' locs' (cells + (m'.1 - m.1)) (slots + (m'.2.1 - m.2.1)) Q (F0 mid pc' lsA' (st'.map (cv B sp)))) : W p l e R s mid args below meth c H locs cells slots Q (F0 mid pc lsA (st.map (cv B sp))) := by
  obtain ⟨hx, hb, hml, hown, hts, hnm⟩ := C0
  obtain ⟨rfl, rfl⟩ := hk
  simp only [xs] at h
  cases h
  simp only [Nat.sub_self, Nat.add_zero, List.map_cons, cv_int, cv_long, cv_null] at kk ⊢
  exact lv_null hx hb hd (kk H locs lsA hH hL)
theorem sx_iconst {j pc len : Nat} {raw : Instr} {v : Int} {ls st ls' st' : List Value} {m m' : xM} {pc' : Nat} {lsA : Array Slot} (hsp : xSp strs lens byt B sp adK adV b L sc sp0) (hcl : xCl gt cls fty) (C0 : xAct gt mx bt yn j p s mid args meth c) (hE : xE cls acl nst strs lens byt B sp D aC adK adV b L sc s s.heap) (hB : B ≤ s.heap.size) (hd : decode (bt j) pc = .ok (raw, len)) (hk : xlk gt nst cls acl nM yn strs j pc len raw (.iconst v)) (h : xs fty acl (.iconst v) (pc + len) ls st m = some (pc', ls', st', m')) (hH : xH cls B sp sp0 D aC s m H locs) (hL : xLs B sp lsA (mx j) ls) (hc : cells + (m'.1 - m.1) ≤ R.cells) (hs : slots + (m'.2.1 - m.2.1) ≤ R.slots)
    (kk : ∀ (H' : Heap) (locs' : List Loc) (lsA' : Array Slot), xH cls B sp sp0 D aC s m' H' locs' → xLs B sp lsA' (mx j) ls' → W p l e R s mid args below meth c H' locs' (cells + (m'.1 - m.1)) (slots + (m'.2.1 - m.2.1)) Q (F0 mid pc' lsA' (st'.map (cv B sp)))) : W p l e R s mid args below meth c H locs cells slots Q (F0 mid pc lsA (st.map (cv B sp))) := by
  obtain ⟨hx, hb, hml, hown, hts, hnm⟩ := C0
  simp only [xs] at h
  cases h
  simp only [Nat.sub_self, Nat.add_zero, List.map_cons, cv_int, cv_long, cv_null] at kk ⊢
  rcases hk with ⟨n, rfl, rfl, hv⟩ | ⟨n, rfl, rfl, hv⟩ | ⟨n, rfl, rfl, hv⟩ | ⟨q, rfl, rfl, hv⟩ | ⟨q, rfl, rfl, hv⟩
  · exact lv_iconst hx hb hd hv (kk H locs lsA hH hL)
  · exact lv_bipush hx hb hd hv (kk H locs lsA hH hL)
  · exact lv_sipush hx hb hd hv (kk H locs lsA hH hL)
  · exact lv_ldc hx hb hown (hts _ hv) hd (kk H locs lsA hH hL)
  · exact lv_ldcw hx hb hown (hts _ hv) hd (kk H locs lsA hH hL)
theorem sx_ldc2_w {j pc len : Nat} {raw : Instr} {z : Nat} {ls st ls' st' : List Value} {m m' : xM} {pc' : Nat} {lsA : Array Slot} (hsp : xSp strs lens byt B sp adK adV b L sc sp0) (hcl : xCl gt cls fty) (C0 : xAct gt mx bt yn j p s mid args meth c) (hE : xE cls acl nst strs lens byt B sp D aC adK adV b L sc s s.heap) (hB : B ≤ s.heap.size) (hd : decode (bt j) pc = .ok (raw, len)) (hk : xlk gt nst cls acl nM yn strs j pc len raw (.ldc2_w z)) (h : xs fty acl (.ldc2_w z) (pc + len) ls st m = some (pc', ls', st', m')) (hH : xH cls B sp sp0 D aC s m H locs) (hL : xLs B sp lsA (mx j) ls) (hc : cells + (m'.1 - m.1) ≤ R.cells) (hs : slots + (m'.2.1 - m.2.1) ≤ R.slots)
    (kk : ∀ (H' : Heap) (locs' : List Loc) (lsA' : Array Slot), xH cls B sp sp0 D aC s m' H' locs' → xLs B sp lsA' (mx j) ls' → W p l e R s mid args below meth c H' locs' (cells + (m'.1 - m.1)) (slots + (m'.2.1 - m.2.1)) Q (F0 mid pc' lsA' (st'.map (cv B sp)))) : W p l e R s mid args below meth c H locs cells slots Q (F0 mid pc lsA (st.map (cv B sp))) := by
  obtain ⟨hx, hb, hml, hown, hts, hnm⟩ := C0
  simp only [xs] at h
  cases h
  simp only [Nat.sub_self, Nat.add_zero, List.map_cons, cv_int, cv_long, cv_null] at kk ⊢
  rcases hk with ⟨n, rfl, rfl, rfl⟩ | ⟨q, rfl, rfl, hv⟩
  · exact lv_lconst hx hb hd rfl (kk H locs lsA hH hL)
  · exact lv_ldc2 hx hb hown (hts _ hv) hd (kk H locs lsA hH hL)
theorem sx_iload {j pc len : Nat} {raw : Instr} {k : Nat} {ls st ls' st' : List Value} {m m' : xM} {pc' : Nat} {lsA : Array Slot} (hsp : xSp strs lens byt B sp adK adV b L sc sp0) (hcl : xCl gt cls fty) (C0 : xAct gt mx bt yn j p s mid args meth c) (hE : xE cls acl nst strs lens byt B sp D aC adK adV b L sc s s.heap) (hB : B ≤ s.heap.size) (hd : decode (bt j) pc = .ok (raw, len)) (hk : xlk gt nst cls acl nM yn strs j pc len raw (.iload k)) (h : xs fty acl (.iload k) (pc + len) ls st m = some (pc', ls', st', m')) (hH : xH cls B sp sp0 D aC s m H locs) (hL : xLs B sp lsA (mx j) ls) (hc : cells + (m'.1 - m.1) ≤ R.cells) (hs : slots + (m'.2.1 - m.2.1) ≤ R.slots)
    (kk : ∀ (H' : Heap) (locs' : List Loc) (lsA' : Array Slot), xH cls B sp sp0 D aC s m' H' locs' → xLs B sp lsA' (mx j) ls' → W p l e R s mid args below meth c H' locs' (cells + (m'.1 - m.1)) (slots + (m'.2.1 - m.2.1)) Q (F0 mid pc' lsA' (st'.map (cv B sp)))) : W p l e R s mid args below meth c H locs cells slots Q (F0 mid pc lsA (st.map (cv B sp))) := by
  obtain ⟨hx, hb, hml, hown, hts, hnm⟩ := C0
  simp only [xs] at h
  split at h
  · rename_i x hx1
    cases h
    simp only [Nat.sub_self, Nat.add_zero, List.map_cons, cv_int, cv_long, cv_null] at kk ⊢
    have h1 := hL.at hx1 (by simp)
    rcases hk with ⟨rfl, rfl⟩ | ⟨f, rfl, rfl, hf⟩
    · exact lv_iload hx hb hd h1 (kk H locs lsA hH hL)
    · exact lv_iload_n hx hb hd hf h1 (kk H locs lsA hH hL)
  · cases h
theorem sx_lload {j pc len : Nat} {raw : Instr} {k : Nat} {ls st ls' st' : List Value} {m m' : xM} {pc' : Nat} {lsA : Array Slot} (hsp : xSp strs lens byt B sp adK adV b L sc sp0) (hcl : xCl gt cls fty) (C0 : xAct gt mx bt yn j p s mid args meth c) (hE : xE cls acl nst strs lens byt B sp D aC adK adV b L sc s s.heap) (hB : B ≤ s.heap.size) (hd : decode (bt j) pc = .ok (raw, len)) (hk : xlk gt nst cls acl nM yn strs j pc len raw (.lload k)) (h : xs fty acl (.lload k) (pc + len) ls st m = some (pc', ls', st', m')) (hH : xH cls B sp sp0 D aC s m H locs) (hL : xLs B sp lsA (mx j) ls) (hc : cells + (m'.1 - m.1) ≤ R.cells) (hs : slots + (m'.2.1 - m.2.1) ≤ R.slots)
    (kk : ∀ (H' : Heap) (locs' : List Loc) (lsA' : Array Slot), xH cls B sp sp0 D aC s m' H' locs' → xLs B sp lsA' (mx j) ls' → W p l e R s mid args below meth c H' locs' (cells + (m'.1 - m.1)) (slots + (m'.2.1 - m.2.1)) Q (F0 mid pc' lsA' (st'.map (cv B sp)))) : W p l e R s mid args below meth c H locs cells slots Q (F0 mid pc lsA (st.map (cv B sp))) := by
  obtain ⟨hx, hb, hml, hown, hts, hnm⟩ := C0
  simp only [xs] at h
  split at h
  · rename_i x hx1
    cases h
    simp only [Nat.sub_self, Nat.add_zero, List.map_cons, cv_int, cv_long, cv_null] at kk ⊢
    have h1 := hL.at hx1 (by simp)
    rcases hk with ⟨rfl, rfl⟩ | ⟨f, rfl, rfl, hf⟩
    · exact lv_lload hx hb hd h1 (kk H locs lsA hH hL)
    · exact lv_lload_n hx hb hd hf h1 (kk H locs lsA hH hL)
  · cases h
theorem x_any {v : Value} (hv : v.category = 1) (hv2 : (∃ a, v = .ref a) ∨ v = .null) {lsA : Array Slot} {k : Nat} {cc : ByteArray} {pc : Nat} {rest : List Value} (hx : p.tables.exec = Jvm.exec) (hb : c.code = cc) (hd : decode cc pc = .ok (.aload k, 2)) (h1 : lsA[k]? = some (.val v)) (kk : W p l e R s mid args below meth c H locs cells slots Q (F0 mid (pc + 2) lsA (v :: rest))) : W p l e R s mid args below meth c H locs cells slots Q (F0 mid pc lsA rest) := by
  rcases hv2 with ⟨a, rfl⟩ | rfl
  · exact lv_aload hx hb hd h1 kk
  · exact lv_aloadN hx hb hd h1 kk
theorem x_anyn {v : Value} (hv2 : (∃ a, v = .ref a) ∨ v = .null) {lsA : Array Slot} {f : Fin 4} {k : Nat} {cc : ByteArray} {pc : Nat} {rest : List Value} (hx : p.tables.exec = Jvm.exec) (hb : c.code = cc) (hd : decode cc pc = .ok (.aload_n f, 1)) (hf : (f : Nat) = k) (h1 : lsA[k]? = some (.val v)) (kk : W p l e R s mid args below meth c H locs cells slots Q (F0 mid (pc + 1) lsA (v :: rest))) : W p l e R s mid args below meth c H locs cells slots Q (F0 mid pc lsA rest) := by
  rcases hv2 with ⟨a, rfl⟩ | rfl
  · exact lv_aload_n hx hb hd hf h1 kk
  · exact lv_aload_nN hx hb hd hf h1 kk

theorem cv_rn (hsp : ∀ i, (∃ a, sp i = .ref a) ∨ sp i = .null) (k : Nat) : (∃ a, cv B sp (.ref k) = .ref a) ∨ cv B sp (.ref k) = .null := by
  by_cases h : k < xS
  · exact Or.inl ⟨_, cv_ref h⟩
  · rw [show cv B sp (.ref k) = sp (k - xS) from if_neg h]
    exact hsp _
theorem cv_sp {k : Nat} : cv B sp (.ref (xS + k)) = sp k := by
  rw [show cv B sp (.ref (xS + k)) = sp (xS + k - xS) from if_neg (Nat.not_lt.mpr (Nat.le_add_right _ _)), Nat.add_sub_cancel_left]
theorem cv_nf (hsp : ∀ i, (∃ a, sp i = .ref a) ∨ sp i = .null) {ty : FieldType} {v : Value} (h : narrow ty v = v ∧ fits ty v = true) : narrow ty (cv B sp v) = cv B sp v ∧ fits ty (cv B sp v) = true := by
  cases v <;> try exact h
  case ref k =>
    have h2 := h.2
    rcases cv_rn (B := B) hsp k with ⟨a, e⟩ | e <;> rw [e] <;> (cases ty <;> first | (simp [fits] at h2; done) | exact ⟨rfl, rfl⟩)
theorem xty_at (t : Nat) (h : t < 7) : (xty cls acl aC)[t]? = some (aC t, xat cls acl t) := by simp [xty, h]
/-- a cell of the memory is written -/
theorem xH.set {m : xM} {a k : Nat} {c0 c1 : xC} {H1 : Heap} (hH : xH cls B sp sp0 D aC s m H locs) (ha : a < xS) (hc0 : m.2.2 a = some c0) (z : H1.size = H.size) (oq : ∀ q : Nat, q ≠ B + a → H1[q]? = H[q]?) (hat : va_at D cls (B + a, cC B sp aC c1) H1) : xH cls B sp sp0 D aC s (xset m a c1) H1 (locs ++ [⟨B + a, k⟩]) := by
  obtain ⟨hP, hz, hS, hO⟩ := hH
  have hD : va_D (fun q => B ≤ q) (pw B sp aC m) := pw_D (fun _ h => h)
  refine ⟨?_, by rw [z, hz]; rfl, hS.put z oq (by show B ≤ B + a; omega), hO.set ha hc0⟩
  rw [← pw_set hO ha hc0]
  exact hP.set hD (pw_get hO ha hc0) hat oq
theorem x_not {i : Int32} {n : Nat} (h : ¬ xout i n = true) : vp_in i n := by
  intro q
  exact h (by simpa [xout] using q)
theorem xOk.spec {m : xM} (hO : xOk sp0 m) {a : Nat} {c0 : xC} (ha : ¬ a < xS) (hc : m.2.2 a = some c0) : sp0 a = some c0 := by
  rw [← hO.2.2 a (by omega)]
  exact hc

theorem sx_aload {j pc len : Nat} {raw : Instr} {k : Nat} {ls st ls' st' : List Value} {m m' : xM} {pc' : Nat} {lsA : Array Slot} (hsp : xSp strs lens byt B sp adK adV b L sc sp0) (hcl : xCl gt cls fty) (C0 : xAct gt mx bt yn j p s mid args meth c) (hE : xE cls acl nst strs lens byt B sp D aC adK adV b L sc s s.heap) (hB : B ≤ s.heap.size) (hd : decode (bt j) pc = .ok (raw, len)) (hk : xlk gt nst cls acl nM yn strs j pc len raw (.aload k)) (h : xs fty acl (.aload k) (pc + len) ls st m = some (pc', ls', st', m')) (hH : xH cls B sp sp0 D aC s m H locs) (hL : xLs B sp lsA (mx j) ls) (hc : cells + (m'.1 - m.1) ≤ R.cells) (hs : slots + (m'.2.1 - m.2.1) ≤ R.slots)
    (kk : ∀ (H' : Heap) (locs' : List Loc) (lsA' : Array Slot), xH cls B sp sp0 D aC s m' H' locs' → xLs B sp lsA' (mx j) ls' → W p l e R s mid args below meth c H' locs' (cells + (m'.1 - m.1)) (slots + (m'.2.1 - m.2.1)) Q (F0 mid pc' lsA' (st'.map (cv B sp)))) : W p l e R s mid args below meth c H locs cells slots Q (F0 mid pc lsA (st.map (cv B sp))) := by
  obtain ⟨hx, hb, hml, hown, hts, hnm⟩ := C0
  simp only [xs] at h
  split at h
  · rename_i x hx1
    cases h
    simp only [Nat.sub_self, Nat.add_zero, List.map_cons, cv_int, cv_long, cv_null] at kk ⊢
    have h1 := hL.at hx1 (by simp)
    have h2 := cv_rn (B := B) hsp.2.1 x
    rcases hk with ⟨rfl, rfl⟩ | ⟨f, rfl, rfl, hf⟩
    · rcases h2 with ⟨a, e2⟩ | e2 <;> rw [e2] at h1 kk
      · exact lv_aload hx hb hd h1 (kk H locs lsA hH hL)
      · exact lv_aloadN hx hb hd h1 (kk H locs lsA hH hL)
    · rcases h2 with ⟨a, e2⟩ | e2 <;> rw [e2] at h1 kk
      · exact lv_aload_n hx hb hd hf h1 (kk H locs lsA hH hL)
      · exact lv_aload_nN hx hb hd hf h1 (kk H locs lsA hH hL)
  · rename_i hx1
    cases h
    simp only [Nat.sub_self, Nat.add_zero, List.map_cons, cv_int, cv_long, cv_null] at kk ⊢
    have h1 := hL.at hx1 (by simp)
    rcases hk with ⟨rfl, rfl⟩ | ⟨f, rfl, rfl, hf⟩
    · exact lv_aloadN hx hb hd h1 (kk H locs lsA hH hL)
    · exact lv_aload_nN hx hb hd hf h1 (kk H locs lsA hH hL)
  · cases h
theorem sx_istore {j pc len : Nat} {raw : Instr} {k : Nat} {ls st ls' st' : List Value} {m m' : xM} {pc' : Nat} {lsA : Array Slot} (hsp : xSp strs lens byt B sp adK adV b L sc sp0) (hcl : xCl gt cls fty) (C0 : xAct gt mx bt yn j p s mid args meth c) (hE : xE cls acl nst strs lens byt B sp D aC adK adV b L sc s s.heap) (hB : B ≤ s.heap.size) (hd : decode (bt j) pc = .ok (raw, len)) (hk : xlk gt nst cls acl nM yn strs j pc len raw (.istore k)) (h : xs fty acl (.istore k) (pc + len) ls st m = some (pc', ls', st', m')) (hH : xH cls B sp sp0 D aC s m H locs) (hL : xLs B sp lsA (mx j) ls) (hc : cells + (m'.1 - m.1) ≤ R.cells) (hs : slots + (m'.2.1 - m.2.1) ≤ R.slots)
    (kk : ∀ (H' : Heap) (locs' : List Loc) (lsA' : Array Slot), xH cls B sp sp0 D aC s m' H' locs' → xLs B sp lsA' (mx j) ls' → W p l e R s mid args below meth c H' locs' (cells + (m'.1 - m.1)) (slots + (m'.2.1 - m.2.1)) Q (F0 mid pc' lsA' (st'.map (cv B sp)))) : W p l e R s mid args below meth c H locs cells slots Q (F0 mid pc lsA (st.map (cv B sp))) := by
  obtain ⟨hx, hb, hml, hown, hts, hnm⟩ := C0
  simp only [xs] at h
  split at h
  · split at h
    · rename_i x r hlt
      cases h
      simp only [Nat.sub_self, Nat.add_zero, List.map_cons, cv_int, cv_long, cv_null] at kk ⊢
      rw [hL.1] at hlt
      rcases hk with ⟨rfl, rfl⟩ | ⟨f, rfl, rfl, hf⟩
      · exact lv_istore hx hb hd hL.2 hlt rfl (fun ls' hl' => kk H locs ls' hH (xLs.st1 hsp.1 hL.1 rfl hl'))
      · exact lv_istore_n hx hb hd hf hL.2 hlt rfl (fun ls' hl' => kk H locs ls' hH (xLs.st1 hsp.1 hL.1 rfl hl'))
    · cases h
  · cases h
theorem sx_lstore {j pc len : Nat} {raw : Instr} {k : Nat} {ls st ls' st' : List Value} {m m' : xM} {pc' : Nat} {lsA : Array Slot} (hsp : xSp strs lens byt B sp adK adV b L sc sp0) (hcl : xCl gt cls fty) (C0 : xAct gt mx bt yn j p s mid args meth c) (hE : xE cls acl nst strs lens byt B sp D aC adK adV b L sc s s.heap) (hB : B ≤ s.heap.size) (hd : decode (bt j) pc = .ok (raw, len)) (hk : xlk gt nst cls acl nM yn strs j pc len raw (.lstore k)) (h : xs fty acl (.lstore k) (pc + len) ls st m = some (pc', ls', st', m')) (hH : xH cls B sp sp0 D aC s m H locs) (hL : xLs B sp lsA (mx j) ls) (hc : cells + (m'.1 - m.1) ≤ R.cells) (hs : slots + (m'.2.1 - m.2.1) ≤ R.slots)
    (kk : ∀ (H' : Heap) (locs' : List Loc) (lsA' : Array Slot), xH cls B sp sp0 D aC s m' H' locs' → xLs B sp lsA' (mx j) ls' → W p l e R s mid args below meth c H' locs' (cells + (m'.1 - m.1)) (slots + (m'.2.1 - m.2.1)) Q (F0 mid pc' lsA' (st'.map (cv B sp)))) : W p l e R s mid args below meth c H locs cells slots Q (F0 mid pc lsA (st.map (cv B sp))) := by
  obtain ⟨hx, hb, hml, hown, hts, hnm⟩ := C0
  simp only [xs] at h
  split at h
  · split at h
    · rename_i x r hlt
      cases h
      simp only [Nat.sub_self, Nat.add_zero, List.map_cons, cv_int, cv_long, cv_null] at kk ⊢
      rw [hL.1] at hlt
      rcases hk with ⟨rfl, rfl⟩ | ⟨f, rfl, rfl, hf⟩
      · exact lv_lstore hx hb hd hL.2 hlt rfl (fun ls' hl' => kk H locs ls' hH (xLs.st2 hsp.1 hL.1 hl'))
      · exact lv_lstore_n hx hb hd hf hL.2 hlt rfl (fun ls' hl' => kk H locs ls' hH (xLs.st2 hsp.1 hL.1 hl'))
    · cases h
  · cases h
theorem sx_astore {j pc len : Nat} {raw : Instr} {k : Nat} {ls st ls' st' : List Value} {m m' : xM} {pc' : Nat} {lsA : Array Slot} (hsp : xSp strs lens byt B sp adK adV b L sc sp0) (hcl : xCl gt cls fty) (C0 : xAct gt mx bt yn j p s mid args meth c) (hE : xE cls acl nst strs lens byt B sp D aC adK adV b L sc s s.heap) (hB : B ≤ s.heap.size) (hd : decode (bt j) pc = .ok (raw, len)) (hk : xlk gt nst cls acl nM yn strs j pc len raw (.astore k)) (h : xs fty acl (.astore k) (pc + len) ls st m = some (pc', ls', st', m')) (hH : xH cls B sp sp0 D aC s m H locs) (hL : xLs B sp lsA (mx j) ls) (hc : cells + (m'.1 - m.1) ≤ R.cells) (hs : slots + (m'.2.1 - m.2.1) ≤ R.slots)
    (kk : ∀ (H' : Heap) (locs' : List Loc) (lsA' : Array Slot), xH cls B sp sp0 D aC s m' H' locs' → xLs B sp lsA' (mx j) ls' → W p l e R s mid args below meth c H' locs' (cells + (m'.1 - m.1)) (slots + (m'.2.1 - m.2.1)) Q (F0 mid pc' lsA' (st'.map (cv B sp)))) : W p l e R s mid args below meth c H locs cells slots Q (F0 mid pc lsA (st.map (cv B sp))) := by
  obtain ⟨hx, hb, hml, hown, hts, hnm⟩ := C0
  simp only [xs] at h
  split at h
  · split at h
    · rename_i x r hlt
      cases h
      simp only [Nat.sub_self, Nat.add_zero, List.map_cons, cv_int, cv_long, cv_null] at kk ⊢
      rw [hL.1] at hlt
      have h2 := cv_rn (B := B) hsp.2.1 x
      have h3 : ∀ ls' : Array Slot, lv_has ls' (mx j) ((k, cv B sp (.ref x)) :: (xla B sp ls).filter (fun q => !(q.1 == k) && !(q.1 + 1 == k && q.2.category == 2))) → xLs B sp ls' (mx j) (xst ls k (.ref x)) := fun ls' hl' => xLs.st1 hsp.1 hL.1 rfl hl'
      rcases hk with ⟨rfl, rfl⟩ | ⟨f, rfl, rfl, hf⟩
      · rcases h2 with ⟨a, e2⟩ | e2 <;> rw [e2] at h3 ⊢
        · exact lv_astore hx hb hd hL.2 hlt rfl (fun ls' hl' => kk H locs ls' hH (h3 ls' hl'))
        · exact lv_astoreN hx hb hd hL.2 hlt rfl (fun ls' hl' => kk H locs ls' hH (h3 ls' hl'))
      · rcases h2 with ⟨a, e2⟩ | e2 <;> rw [e2] at h3 ⊢
        · exact lv_astore_n hx hb hd hf hL.2 hlt rfl (fun ls' hl' => kk H locs ls' hH (h3 ls' hl'))
        · exact lv_astore_nN hx hb hd hf hL.2 hlt rfl (fun ls' hl' => kk H locs ls' hH (h3 ls' hl'))
    · cases h
  · split at h
    · rename_i r hlt
      cases h
      simp only [Nat.sub_self, Nat.add_zero, List.map_cons, cv_int, cv_long, cv_null] at kk ⊢
      rw [hL.1] at hlt
      rcases hk with ⟨rfl, rfl⟩ | ⟨f, rfl, rfl, hf⟩
      · exact lv_astoreN hx hb hd hL.2 hlt rfl (fun ls' hl' => kk H locs ls' hH (xLs.st1 hsp.1 hL.1 rfl hl'))
      · exact lv_astore_nN hx hb hd hf hL.2 hlt rfl (fun ls' hl' => kk H locs ls' hH (xLs.st1 hsp.1 hL.1 rfl hl'))
    · cases h
  · cases h
theorem sx_iinc {j pc len : Nat} {raw : Instr} {k : Nat} {n : Int} {ls st ls' st' : List Value} {m m' : xM} {pc' : Nat} {lsA : Array Slot} (hsp : xSp strs lens byt B sp adK adV b L sc sp0) (hcl : xCl gt cls fty) (C0 : xAct gt mx bt yn j p s mid args meth c) (hE : xE cls acl nst strs lens byt B sp D aC adK adV b L sc s s.heap) (hB : B ≤ s.heap.size) (hd : decode (bt j) pc = .ok (raw, len)) (hk : xlk gt nst cls acl nM yn strs j pc len raw (.iinc k n)) (h : xs fty acl (.iinc k n) (pc + len) ls st m = some (pc', ls', st', m')) (hH : xH cls B sp sp0 D aC s m H locs) (hL : xLs B sp lsA (mx j) ls) (hc : cells + (m'.1 - m.1) ≤ R.cells) (hs : slots + (m'.2.1 - m.2.1) ≤ R.slots)
    (kk : ∀ (H' : Heap) (locs' : List Loc) (lsA' : Array Slot), xH cls B sp sp0 D aC s m' H' locs' → xLs B sp lsA' (mx j) ls' → W p l e R s mid args below meth c H' locs' (cells + (m'.1 - m.1)) (slots + (m'.2.1 - m.2.1)) Q (F0 mid pc' lsA' (st'.map (cv B sp)))) : W p l e R s mid args below meth c H locs cells slots Q (F0 mid pc lsA (st.map (cv B sp))) := by
  obtain ⟨hx, hb, hml, hown, hts, hnm⟩ := C0
  obtain ⟨rfl, rfl⟩ := hk
  simp only [xs] at h
  split at h
  · rename_i x hx1
    cases h
    simp only [Nat.sub_self, Nat.add_zero, List.map_cons, cv_int, cv_long, cv_null] at kk ⊢
    have hlt : k < mx j := by rw [← hL.1]; exact (List.getElem?_eq_some_iff.mp hx1).1
    obtain ⟨q, hq⟩ := List.getElem?_of_mem (xla_mem.mpr ⟨.int x, hx1, by simp, rfl⟩ : (k, cv B sp (.int x)) ∈ xla B sp ls)
    exact lv_iinc hx hb hd hL.2 hq rfl hlt rfl (fun ls' hl' => kk H locs ls' hH (xLs.st1 hsp.1 hL.1 rfl hl'))
  · cases h
theorem x_tgt {pc : Nat} {off t : Int} (h : (pc : Int) + off = t) (h0 : 0 ≤ t) : (pc : Int) + off = ((t.toNat : Nat) : Int) := by omega
theorem sx_goto {j pc len : Nat} {raw : Instr} {t : Int} {ls st ls' st' : List Value} {m m' : xM} {pc' : Nat} {lsA : Array Slot} (hsp : xSp strs lens byt B sp adK adV b L sc sp0) (hcl : xCl gt cls fty) (C0 : xAct gt mx bt yn j p s mid args meth c) (hE : xE cls acl nst strs lens byt B sp D aC adK adV b L sc s s.heap) (hB : B ≤ s.heap.size) (hd : decode (bt j) pc = .ok (raw, len)) (hk : xlk gt nst cls acl nM yn strs j pc len raw (.goto t)) (h : xs fty acl (.goto t) (pc + len) ls st m = some (pc', ls', st', m')) (hH : xH cls B sp sp0 D aC s m H locs) (hL : xLs B sp lsA (mx j) ls) (hc : cells + (m'.1 - m.1) ≤ R.cells) (hs : slots + (m'.2.1 - m.2.1) ≤ R.slots)
    (kk : ∀ (H' : Heap) (locs' : List Loc) (lsA' : Array Slot), xH cls B sp sp0 D aC s m' H' locs' → xLs B sp lsA' (mx j) ls' → W p l e R s mid args below meth c H' locs' (cells + (m'.1 - m.1)) (slots + (m'.2.1 - m.2.1)) Q (F0 mid pc' lsA' (st'.map (cv B sp)))) : W p l e R s mid args below meth c H locs cells slots Q (F0 mid pc lsA (st.map (cv B sp))) := by
  obtain ⟨hx, hb, hml, hown, hts, hnm⟩ := C0
  obtain ⟨off, rfl, rfl, ht, ht0⟩ := hk
  simp only [xs] at h
  cases h
  simp only [Nat.sub_self, Nat.add_zero, List.map_cons, cv_int, cv_long, cv_null] at kk ⊢
  exact lv_goto hx hb hd (x_tgt ht ht0) (kk H locs lsA hH hL)
theorem sx_ifCond {j pc len : Nat} {raw : Instr} {cn : Jvm.ClassFile.Cond} {t : Int} {ls st ls' st' : List Value} {m m' : xM} {pc' : Nat} {lsA : Array Slot} (hsp : xSp strs lens byt B sp adK adV b L sc sp0) (hcl : xCl gt cls fty) (C0 : xAct gt mx bt yn j p s mid args meth c) (hE : xE cls acl nst strs lens byt B sp D aC adK adV b L sc s s.heap) (hB : B ≤ s.heap.size) (hd : decode (bt j) pc = .ok (raw, len)) (hk : xlk gt nst cls acl nM yn strs j pc len raw (.ifCond cn t)) (h : xs fty acl (.ifCond cn t) (pc + len) ls st m = some (pc', ls', st', m')) (hH : xH cls B sp sp0 D aC s m H locs) (hL : xLs B sp lsA (mx j) ls) (hc : cells + (m'.1 - m.1) ≤ R.cells) (hs : slots + (m'.2.1 - m.2.1) ≤ R.slots)
    (kk : ∀ (H' : Heap) (locs' : List Loc) (lsA' : Array Slot), xH cls B sp sp0 D aC s m' H' locs' → xLs B sp lsA' (mx j) ls' → W p l e R s mid args below meth c H' locs' (cells + (m'.1 - m.1)) (slots + (m'.2.1 - m.2.1)) Q (F0 mid pc' lsA' (st'.map (cv B sp)))) : W p l e R s mid args below meth c H locs cells slots Q (F0 mid pc lsA (st.map (cv B sp))) := by
  obtain ⟨hx, hb, hml, hown, hts, hnm⟩ := C0
  obtain ⟨off, rfl, rfl, ht, ht0⟩ := hk
  simp only [xs] at h
  split at h
  · rename_i x r
    cases cn with
      | eq =>
        by_cases hq : xcndB .eq x 0 = true
        · rw [if_pos hq] at h
          cases h
          simp only [Nat.sub_self, Nat.add_zero, List.map_cons, cv_int, cv_long, cv_null] at kk ⊢
          simp only [xcndB, decide_eq_true_eq, decide_not, Bool.not_eq_true', decide_eq_false_iff_not] at hq
          refine lv_if_eq hx hb hd (x_tgt ht ht0) (fun _ => kk H locs lsA hH hL) (fun hn => ?_)
          first | exact absurd hq hn | exact absurd hn hq
        · rw [if_neg hq] at h
          cases h
          simp only [Nat.sub_self, Nat.add_zero, List.map_cons, cv_int, cv_long, cv_null] at kk ⊢
          simp only [xcndB, decide_eq_true_eq, decide_not, Bool.not_eq_true', decide_eq_false_iff_not, Decidable.not_not] at hq
          refine lv_if_eq hx hb hd (x_tgt ht ht0) (fun hn => ?_) (fun _ => kk H locs lsA hH hL)
          first | exact absurd hn hq | exact absurd hq hn
      | ne =>
        by_cases hq : xcndB .ne x 0 = true
        · rw [if_pos hq] at h
          cases h
          simp only [Nat.sub_self, Nat.add_zero, List.map_cons, cv_int, cv_long, cv_null] at kk ⊢
          simp only [xcndB, decide_eq_true_eq, decide_not, Bool.not_eq_true', decide_eq_false_iff_not] at hq
          refine lv_if_ne hx hb hd (x_tgt ht ht0) (fun _ => kk H locs lsA hH hL) (fun hn => ?_)
          first | exact absurd hq hn | exact absurd hn hq
        · rw [if_neg hq] at h
          cases h
          simp only [Nat.sub_self, Nat.add_zero, List.map_cons, cv_int, cv_long, cv_null] at kk ⊢
          simp only [xcndB, decide_eq_true_eq, decide_not, Bool.not_eq_true', decide_eq_false_iff_not, Decidable.not_not] at hq
          refine lv_if_ne hx hb hd (x_tgt ht ht0) (fun hn => ?_) (fun _ => kk H locs lsA hH hL)
          first | exact absurd hn hq | exact absurd hq hn
      | lt =>
        by_cases hq : xcndB .lt x 0 = true
        · rw [if_pos hq] at h
          cases h
          simp only [Nat.sub_self, Nat.add_zero, List.map_cons, cv_int, cv_long, cv_null] at kk ⊢
          simp only [xcndB, decide_eq_true_eq, decide_not, Bool.not_eq_true', decide_eq_false_iff_not] at hq
          refine lv_if_lt hx hb hd (x_tgt ht ht0) (fun _ => kk H locs lsA hH hL) (fun hn => ?_)
          first | exact absurd hq hn | exact absurd hn hq
        · rw [if_neg hq] at h
          cases h
          simp only [Nat.sub_self, Nat.add_zero, List.map_cons, cv_int, cv_long, cv_null] at kk ⊢
          simp only [xcndB, decide_eq_true_eq, decide_not, Bool.not_eq_true', decide_eq_false_iff_not, Decidable.not_not] at hq
          refine lv_if_lt hx hb hd (x_tgt ht ht0) (fun hn => ?_) (fun _ => kk H locs lsA hH hL)
          first | exact absurd hn hq | exact absurd hq hn
      | ge =>
        by_cases hq : xcndB .ge x 0 = true
        · rw [if_pos hq] at h
          cases h
          simp only [Nat.sub_self, Nat.add_zero, List.map_cons, cv_int, cv_long, cv_null] at kk ⊢
          simp only [xcndB, decide_eq_true_eq, decide_not, Bool.not_eq_true', decide_eq_false_iff_not] at hq
          refine lv_if_ge hx hb hd (x_tgt ht ht0) (fun _ => kk H locs lsA hH hL) (fun hn => ?_)
          first | exact absurd hq hn | exact absurd hn hq
        · rw [if_neg hq] at h
          cases h
          simp only [Nat.sub_self, Nat.add_zero, List.map_cons, cv_int, cv_long, cv_null] at kk ⊢
          simp only [xcndB, decide_eq_true_eq, decide_not, Bool.not_eq_true', decide_eq_false_iff_not, Decidable.not_not] at hq
          refine lv_if_ge hx hb hd (x_tgt ht ht0) (fun hn => ?_) (fun _ => kk H locs lsA hH hL)
          first | exact absurd hn hq | exact absurd hq hn
      | gt =>
        by_cases hq : xcndB .gt x 0 = true
        · rw [if_pos hq] at h
          cases h
          simp only [Nat.sub_self, Nat.add_zero, List.map_cons, cv_int, cv_long, cv_null] at kk ⊢
          simp only [xcndB, decide_eq_true_eq, decide_not, Bool.not_eq_true', decide_eq_false_iff_not] at hq
          refine lv_if_gt hx hb hd (x_tgt ht ht0) (fun _ => kk H locs lsA hH hL) (fun hn => ?_)
          first | exact absurd hq hn | exact absurd hn hq
        · rw [if_neg hq] at h
          cases h
          simp only [Nat.sub_self, Nat.add_zero, List.map_cons, cv_int, cv_long, cv_null] at kk ⊢
          simp only [xcndB, decide_eq_true_eq, decide_not, Bool.not_eq_true', decide_eq_false_iff_not, Decidable.not_not] at hq
          refine lv_if_gt hx hb hd (x_tgt ht ht0) (fun hn => ?_) (fun _ => kk H locs lsA hH hL)
          first | exact absurd hn hq | exact absurd hq hn
      | le =>
        by_cases hq : xcndB .le x 0 = true
        · rw [if_pos hq] at h
          cases h
          simp only [Nat.sub_self, Nat.add_zero, List.map_cons, cv_int, cv_long, cv_null] at kk ⊢
          simp only [xcndB, decide_eq_true_eq, decide_not, Bool.not_eq_true', decide_eq_false_iff_not] at hq
          refine lv_if_le hx hb hd (x_tgt ht ht0) (fun _ => kk H locs lsA hH hL) (fun hn => ?_)
          first | exact absurd hq hn | exact absurd hn hq
        · rw [if_neg hq] at h
          cases h
          simp only [Nat.sub_self, Nat.add_zero, List.map_cons, cv_int, cv_long, cv_null] at kk ⊢
          simp only [xcndB, decide_eq_true_eq, decide_not, Bool.not_eq_true', decide_eq_false_iff_not, Decidable.not_not] at hq
          refine lv_if_le hx hb hd (x_tgt ht ht0) (fun hn => ?_) (fun _ => kk H locs lsA hH hL)
          first | exact absurd hn hq | exact absurd hq hn
  · cases h
theorem sx_if_icmp {j pc len : Nat} {raw : Instr} {cn : Jvm.ClassFile.Cond} {t : Int} {ls st ls' st' : List Value} {m m' : xM} {pc' : Nat} {lsA : Array Slot} (hsp : xSp strs lens byt B sp adK adV b L sc sp0) (hcl : xCl gt cls fty) (C0 : xAct gt mx bt yn j p s mid args meth c) (hE : xE cls acl nst strs lens byt B sp D aC adK adV b L sc s s.heap) (hB : B ≤ s.heap.size) (hd : decode (bt j) pc = .ok (raw, len)) (hk : xlk gt nst cls acl nM yn strs j pc len raw (.if_icmp cn t)) (h : xs fty acl (.if_icmp cn t) (pc + len) ls st m = some (pc', ls', st', m')) (hH : xH cls B sp sp0 D aC s m H locs) (hL : xLs B sp lsA (mx j) ls) (hc : cells + (m'.1 - m.1) ≤ R.cells) (hs : slots + (m'.2.1 - m.2.1) ≤ R.slots)
    (kk : ∀ (H' : Heap) (locs' : List Loc) (lsA' : Array Slot), xH cls B sp sp0 D aC s m' H' locs' → xLs B sp lsA' (mx j) ls' → W p l e R s mid args below meth c H' locs' (cells + (m'.1 - m.1)) (slots + (m'.2.1 - m.2.1)) Q (F0 mid pc' lsA' (st'.map (cv B sp)))) : W p l e R s mid args below meth c H locs cells slots Q (F0 mid pc lsA (st.map (cv B sp))) := by
  obtain ⟨hx, hb, hml, hown, hts, hnm⟩ := C0
  obtain ⟨off, rfl, rfl, ht, ht0⟩ := hk
  simp only [xs] at h
  split at h
  · rename_i y x r
    cases cn with
      | eq =>
        by_cases hq : xcndB .eq x y = true
        · rw [if_pos hq] at h
          cases h
          simp only [Nat.sub_self, Nat.add_zero, List.map_cons, cv_int, cv_long, cv_null] at kk ⊢
          simp only [xcndB, decide_eq_true_eq, decide_not, Bool.not_eq_true', decide_eq_false_iff_not] at hq
          refine lv_icmp_eq hx hb hd (x_tgt ht ht0) (fun _ => kk H locs lsA hH hL) (fun hn => ?_)
          first | exact absurd hq hn | exact absurd hn hq
        · rw [if_neg hq] at h
          cases h
          simp only [Nat.sub_self, Nat.add_zero, List.map_cons, cv_int, cv_long, cv_null] at kk ⊢
          simp only [xcndB, decide_eq_true_eq, decide_not, Bool.not_eq_true', decide_eq_false_iff_not, Decidable.not_not] at hq
          refine lv_icmp_eq hx hb hd (x_tgt ht ht0) (fun hn => ?_) (fun _ => kk H locs lsA hH hL)
          first | exact absurd hn hq | exact absurd hq hn
      | ne =>
        by_cases hq : xcndB .ne x y = true
        · rw [if_pos hq] at h
          cases h
          simp only [Nat.sub_self, Nat.add_zero, List.map_cons, cv_int, cv_long, cv_null] at kk ⊢
          simp only [xcndB, decide_eq_true_eq, decide_not, Bool.not_eq_true', decide_eq_false_iff_not] at hq
          refine lv_icmp_ne hx hb hd (x_tgt ht ht0) (fun _ => kk H locs lsA hH hL) (fun hn => ?_)
          first | exact absurd hq hn | exact absurd hn hq
        · rw [if_neg hq] at h
          cases h
          simp only [Nat.sub_self, Nat.add_zero, List.map_cons, cv_int, cv_long, cv_null] at kk ⊢
          simp only [xcndB, decide_eq_true_eq, decide_not, Bool.not_eq_true', decide_eq_false_iff_not, Decidable.not_not] at hq
          refine lv_icmp_ne hx hb hd (x_tgt ht ht0) (fun hn => ?_) (fun _ => kk H locs lsA hH hL)
          first | exact absurd hn hq | exact absurd hq hn
      | lt =>
        by_cases hq : xcndB .lt x y = true
        · rw [if_pos hq] at h
          cases h
          simp only [Nat.sub_self, Nat.add_zero, List.map_cons, cv_int, cv_long, cv_null] at kk ⊢
          simp only [xcndB, decide_eq_true_eq, decide_not, Bool.not_eq_true', decide_eq_false_iff_not] at hq
          refine lv_icmp_lt hx hb hd (x_tgt ht ht0) (fun _ => kk H locs lsA hH hL) (fun hn => ?_)
          first | exact absurd hq hn | exact absurd hn hq
        · rw [if_neg hq] at h
          cases h
          simp only [Nat.sub_self, Nat.add_zero, List.map_cons, cv_int, cv_long, cv_null] at kk ⊢
          simp only [xcndB, decide_eq_true_eq, decide_not, Bool.not_eq_true', decide_eq_false_iff_not, Decidable.not_not] at hq
          refine lv_icmp_lt hx hb hd (x_tgt ht ht0) (fun hn => ?_) (fun _ => kk H locs lsA hH hL)
          first | exact absurd hn hq | exact absurd hq hn
      | ge =>
        by_cases hq : xcndB .ge x y = true
        · rw [if_pos hq] at h
          cases h
          simp only [Nat.sub_self, Nat.add_zero, List.map_cons, cv_int, cv_long, cv_null] at kk ⊢
          simp only [xcndB, decide_eq_true_eq, decide_not, Bool.not_eq_true', decide_eq_false_iff_not] at hq
          refine lv_icmp_ge hx hb hd (x_tgt ht ht0) (fun _ => kk H locs lsA hH hL) (fun hn => ?_)
          first | exact absurd hq hn | exact absurd hn hq
        · rw [if_neg hq] at h
          cases h
          simp only [Nat.sub_self, Nat.add_zero, List.map_cons, cv_int, cv_long, cv_null] at kk ⊢
          simp only [xcndB, decide_eq_true_eq, decide_not, Bool.not_eq_true', decide_eq_false_iff_not, Decidable.not_not] at hq
          refine lv_icmp_ge hx hb hd (x_tgt ht ht0) (fun hn => ?_) (fun _ => kk H locs lsA hH hL)
          first | exact absurd hn hq | exact absurd hq hn
      | gt =>
        by_cases hq : xcndB .gt x y = true
        · rw [if_pos hq] at h
          cases h
          simp only [Nat.sub_self, Nat.add_zero, List.map_cons, cv_int, cv_long, cv_null] at kk ⊢
          simp only [xcndB, decide_eq_true_eq, decide_not, Bool.not_eq_true', decide_eq_false_iff_not] at hq
          refine lv_icmp_gt hx hb hd (x_tgt ht ht0) (fun _ => kk H locs lsA hH hL) (fun hn => ?_)
          first | exact absurd hq hn | exact absurd hn hq
        · rw [if_neg hq] at h
          cases h
          simp only [Nat.sub_self, Nat.add_zero, List.map_cons, cv_int, cv_long, cv_null] at kk ⊢
          simp only [xcndB, decide_eq_true_eq, decide_not, Bool.not_eq_true', decide_eq_false_iff_not, Decidable.not_not] at hq
          refine lv_icmp_gt hx hb hd (x_tgt ht ht0) (fun hn => ?_) (fun _ => kk H locs lsA hH hL)
          first | exact absurd hn hq | exact absurd hq hn
      | le =>
        by_cases hq : xcndB .le x y = true
        · rw [if_pos hq] at h
          cases h
          simp only [Nat.sub_self, Nat.add_zero, List.map_cons, cv_int, cv_long, cv_null] at kk ⊢
          simp only [xcndB, decide_eq_true_eq, decide_not, Bool.not_eq_true', decide_eq_false_iff_not] at hq
          refine lv_icmp_le hx hb hd (x_tgt ht ht0) (fun _ => kk H locs lsA hH hL) (fun hn => ?_)
          first | exact absurd hq hn | exact absurd hn hq
        · rw [if_neg hq] at h
          cases h
          simp only [Nat.sub_self, Nat.add_zero, List.map_cons, cv_int, cv_long, cv_null] at kk ⊢
          simp only [xcndB, decide_eq_true_eq, decide_not, Bool.not_eq_true', decide_eq_false_iff_not, Decidable.not_not] at hq
          refine lv_icmp_le hx hb hd (x_tgt ht ht0) (fun hn => ?_) (fun _ => kk H locs lsA hH hL)
          first | exact absurd hn hq | exact absurd hq hn
  · cases h
theorem sx_ifnonnull {j pc len : Nat} {raw : Instr} {t : Int} {ls st ls' st' : List Value} {m m' : xM} {pc' : Nat} {lsA : Array Slot} (hsp : xSp strs lens byt B sp adK adV b L sc sp0) (hcl : xCl gt cls fty) (C0 : xAct gt mx bt yn j p s mid args meth c) (hE : xE cls acl nst strs lens byt B sp D aC adK adV b L sc s s.heap) (hB : B ≤ s.heap.size) (hd : decode (bt j) pc = .ok (raw, len)) (hk : xlk gt nst cls acl nM yn strs j pc len raw (.ifnonnull t)) (h : xs fty acl (.ifnonnull t) (pc + len) ls st m = some (pc', ls', st', m')) (hH : xH cls B sp sp0 D aC s m H locs) (hL : xLs B sp lsA (mx j) ls) (hc : cells + (m'.1 - m.1) ≤ R.cells) (hs : slots + (m'.2.1 - m.2.1) ≤ R.slots)
    (kk : ∀ (H' : Heap) (locs' : List Loc) (lsA' : Array Slot), xH cls B sp sp0 D aC s m' H' locs' → xLs B sp lsA' (mx j) ls' → W p l e R s mid args below meth c H' locs' (cells + (m'.1 - m.1)) (slots + (m'.2.1 - m.2.1)) Q (F0 mid pc' lsA' (st'.map (cv B sp)))) : W p l e R s mid args below meth c H locs cells slots Q (F0 mid pc lsA (st.map (cv B sp))) := by
  obtain ⟨hx, hb, hml, hown, hts, hnm⟩ := C0
  obtain ⟨off, rfl, rfl, ht, ht0⟩ := hk
  simp only [xs] at h
  split at h
  · split at h
    · rename_i a r ha
      cases h
      simp only [Nat.sub_self, Nat.add_zero, List.map_cons, cv_int, cv_long, cv_null] at kk ⊢
      rw [cv_ref ha]
      exact lv_ifnonnull hx hb hd (x_tgt ht ht0) (kk H locs lsA hH hL)
    · cases h
  · cases h
    simp only [Nat.sub_self, Nat.add_zero, List.map_cons, cv_int, cv_long, cv_null] at kk ⊢
    exact lv_ifnonnullN hx hb hd (kk H locs lsA hH hL)
  · cases h
theorem sx_ifnull {j pc len : Nat} {raw : Instr} {t : Int} {ls st ls' st' : List Value} {m m' : xM} {pc' : Nat} {lsA : Array Slot} (hsp : xSp strs lens byt B sp adK adV b L sc sp0) (hcl : xCl gt cls fty) (C0 : xAct gt mx bt yn j p s mid args meth c) (hE : xE cls acl nst strs lens byt B sp D aC adK adV b L sc s s.heap) (hB : B ≤ s.heap.size) (hd : decode (bt j) pc = .ok (raw, len)) (hk : xlk gt nst cls acl nM yn strs j pc len raw (.ifnull t)) (h : xs fty acl (.ifnull t) (pc + len) ls st m = some (pc', ls', st', m')) (hH : xH cls B sp sp0 D aC s m H locs) (hL : xLs B sp lsA (mx j) ls) (hc : cells + (m'.1 - m.1) ≤ R.cells) (hs : slots + (m'.2.1 - m.2.1) ≤ R.slots)
    (kk : ∀ (H' : Heap) (locs' : List Loc) (lsA' : Array Slot), xH cls B sp sp0 D aC s m' H' locs' → xLs B sp lsA' (mx j) ls' → W p l e R s mid args below meth c H' locs' (cells + (m'.1 - m.1)) (slots + (m'.2.1 - m.2.1)) Q (F0 mid pc' lsA' (st'.map (cv B sp)))) : W p l e R s mid args below meth c H locs cells slots Q (F0 mid pc lsA (st.map (cv B sp))) := by
  obtain ⟨hx, hb, hml, hown, hts, hnm⟩ := C0
  obtain ⟨off, rfl, rfl, ht, ht0⟩ := hk
  simp only [xs] at h
  split at h
  · split at h
    · rename_i a r ha
      cases h
      simp only [Nat.sub_self, Nat.add_zero, List.map_cons, cv_int, cv_long, cv_null] at kk ⊢
      rw [cv_ref ha]
      exact lv_ifnull hx hb hd (kk H locs lsA hH hL)
    · cases h
  · cases h
    simp only [Nat.sub_self, Nat.add_zero, List.map_cons, cv_int, cv_long, cv_null] at kk ⊢
    exact lv_ifnullN hx hb hd (x_tgt ht ht0) (kk H locs lsA hH hL)
  · cases h
theorem sx_tableswitch {j pc len : Nat} {raw : Instr} {dd lo hi : Int} {offs : Array Int} {ls st ls' st' : List Value} {m m' : xM} {pc' : Nat} {lsA : Array Slot} (hsp : xSp strs lens byt B sp adK adV b L sc sp0) (hcl : xCl gt cls fty) (C0 : xAct gt mx bt yn j p s mid args meth c) (hE : xE cls acl nst strs lens byt B sp D aC adK adV b L sc s s.heap) (hB : B ≤ s.heap.size) (hd : decode (bt j) pc = .ok (raw, len)) (hk : xlk gt nst cls acl nM yn strs j pc len raw (.tableswitch dd lo hi offs)) (h : xs fty acl (.tableswitch dd lo hi offs) (pc + len) ls st m = some (pc', ls', st', m')) (hH : xH cls B sp sp0 D aC s m H locs) (hL : xLs B sp lsA (mx j) ls) (hc : cells + (m'.1 - m.1) ≤ R.cells) (hs : slots + (m'.2.1 - m.2.1) ≤ R.slots)
    (kk : ∀ (H' : Heap) (locs' : List Loc) (lsA' : Array Slot), xH cls B sp sp0 D aC s m' H' locs' → xLs B sp lsA' (mx j) ls' → W p l e R s mid args below meth c H' locs' (cells + (m'.1 - m.1)) (slots + (m'.2.1 - m.2.1)) Q (F0 mid pc' lsA' (st'.map (cv B sp)))) : W p l e R s mid args below meth c H locs cells slots Q (F0 mid pc lsA (st.map (cv B sp))) := by
  obtain ⟨hx, hb, hml, hown, hts, hnm⟩ := C0
  obtain ⟨d', offs', rfl, hd', hd0, rfl, hoffs⟩ := hk
  simp only [xs] at h
  split at h
  · rename_i x r
    split at h
    · rename_i hq
      cases h
      simp only [Nat.sub_self, Nat.add_zero, List.map_cons, cv_int, cv_long, cv_null] at kk ⊢
      exact lv_tableOut hx hb hd hq (x_tgt hd' hd0) (kk H locs lsA hH hL)
    · rename_i hq
      split at h
      · rename_i t ht
        cases h
        simp only [Nat.sub_self, Nat.add_zero, List.map_cons, cv_int, cv_long, cv_null] at kk ⊢
        have h0 : 0 ≤ t := hoffs t (by rw [← Array.getElem?_toList] at ht; exact List.mem_of_getElem? ht)
        rw [Array.getElem?_map] at ht
        obtain ⟨o, ho1, ho2⟩ := Option.map_eq_some_iff.mp ht
        exact lv_tableIn hx hb hd (fun q => hq (Or.inl q)) (fun q => hq (Or.inr q)) ho1 (x_tgt ho2 h0) (kk H locs lsA hH hL)
      · cases h
  · cases h
theorem x_look (pc d x : Int) : ∀ (ps : List (Int × Int)), Op.lookupswitch.offset (ps.map (fun q => (q.1, pc + q.2))) (pc + d) x = pc + Op.lookupswitch.offset ps d x
  | [] => by simp [Op.lookupswitch.offset]
  | a :: r => by
    rw [List.map_cons, Op.lookupswitch.offset_cons, show a = (a.1, a.2) from rfl, Op.lookupswitch.offset_cons]
    split
    · rfl
    · exact x_look pc d x r
theorem x_look0 (d x : Int) (h0 : 0 ≤ d) : ∀ (ps : List (Int × Int)), (∀ q ∈ ps, 0 ≤ q.2) → 0 ≤ Op.lookupswitch.offset ps d x
  | [], _ => by simpa [Op.lookupswitch.offset] using h0
  | a :: r, h => by
    rw [show a = (a.1, a.2) from rfl, Op.lookupswitch.offset_cons]
    split
    · exact h a List.mem_cons_self
    · exact x_look0 d x h0 r (fun q hq => h q (List.mem_cons_of_mem _ hq))
theorem sx_lookupswitch {j pc len : Nat} {raw : Instr} {dd : Int} {ps : Array (Int × Int)} {ls st ls' st' : List Value} {m m' : xM} {pc' : Nat} {lsA : Array Slot} (hsp : xSp strs lens byt B sp adK adV b L sc sp0) (hcl : xCl gt cls fty) (C0 : xAct gt mx bt yn j p s mid args meth c) (hE : xE cls acl nst strs lens byt B sp D aC adK adV b L sc s s.heap) (hB : B ≤ s.heap.size) (hd : decode (bt j) pc = .ok (raw, len)) (hk : xlk gt nst cls acl nM yn strs j pc len raw (.lookupswitch dd ps)) (h : xs fty acl (.lookupswitch dd ps) (pc + len) ls st m = some (pc', ls', st', m')) (hH : xH cls B sp sp0 D aC s m H locs) (hL : xLs B sp lsA (mx j) ls) (hc : cells + (m'.1 - m.1) ≤ R.cells) (hs : slots + (m'.2.1 - m.2.1) ≤ R.slots)
    (kk : ∀ (H' : Heap) (locs' : List Loc) (lsA' : Array Slot), xH cls B sp sp0 D aC s m' H' locs' → xLs B sp lsA' (mx j) ls' → W p l e R s mid args below meth c H' locs' (cells + (m'.1 - m.1)) (slots + (m'.2.1 - m.2.1)) Q (F0 mid pc' lsA' (st'.map (cv B sp)))) : W p l e R s mid args below meth c H locs cells slots Q (F0 mid pc lsA (st.map (cv B sp))) := by
  obtain ⟨hx, hb, hml, hown, hts, hnm⟩ := C0
  obtain ⟨d', ps', rfl, hsrt, rfl, hd0, rfl, hoffs⟩ := hk
  simp only [xs] at h
  split at h
  · rename_i x r
    cases h
    simp only [Nat.sub_self, Nat.add_zero, List.map_cons, cv_int, cv_long, cv_null] at kk ⊢
    have h0 := x_look0 _ x.toInt hd0 _ hoffs
    rw [Array.toList_map] at h0
    rw [Array.toList_map] at kk
    exact lv_lookup hx hb hd hsrt rfl (x_tgt (x_look pc d' x.toInt ps'.toList).symm h0) (kk H locs lsA hH hL)
  · cases h
theorem sx_ldc {j pc len : Nat} {raw : Instr} {q : Nat} {ls st ls' st' : List Value} {m m' : xM} {pc' : Nat} {lsA : Array Slot} (hsp : xSp strs lens byt B sp adK adV b L sc sp0) (hcl : xCl gt cls fty) (C0 : xAct gt mx bt yn j p s mid args meth c) (hE : xE cls acl nst strs lens byt B sp D aC adK adV b L sc s s.heap) (hB : B ≤ s.heap.size) (hd : decode (bt j) pc = .ok (raw, len)) (hk : xlk gt nst cls acl nM yn strs j pc len raw (.ldc q)) (h : xs fty acl (.ldc q) (pc + len) ls st m = some (pc', ls', st', m')) (hH : xH cls B sp sp0 D aC s m H locs) (hL : xLs B sp lsA (mx j) ls) (hc : cells + (m'.1 - m.1) ≤ R.cells) (hs : slots + (m'.2.1 - m.2.1) ≤ R.slots)
    (kk : ∀ (H' : Heap) (locs' : List Loc) (lsA' : Array Slot), xH cls B sp sp0 D aC s m' H' locs' → xLs B sp lsA' (mx j) ls' → W p l e R s mid args below meth c H' locs' (cells + (m'.1 - m.1)) (slots + (m'.2.1 - m.2.1)) Q (F0 mid pc' lsA' (st'.map (cv B sp)))) : W p l e R s mid args below meth c H locs cells slots Q (F0 mid pc lsA (st.map (cv B sp))) := by
  obtain ⟨hx, hb, hml, hown, hts, hnm⟩ := C0
  obtain ⟨q1, tx, rfl, rfl, hq⟩ := hk
  simp only [xs] at h
  cases h
  simp only [Nat.sub_self, Nat.add_zero, List.map_cons] at kk
  rw [cv_sp] at kk
  obtain ⟨h0, h1⟩ := hsp.2.2.2.1 _ hq
  have h2 := (hsp.2.2.2.2.1 (q / 2) h1).1
  dsimp only at h0 h1
  rw [show 2 * (q / 2) = q by omega] at h2
  rw [h2] at kk
  exact va_ldcS hx hb hown (hE.2.2.2.2.1 _ hq) hd (kk H locs lsA hH hL)
theorem sx_getstatic {j pc len : Nat} {raw : Instr} {q : Nat} {ls st ls' st' : List Value} {m m' : xM} {pc' : Nat} {lsA : Array Slot} (hsp : xSp strs lens byt B sp adK adV b L sc sp0) (hcl : xCl gt cls fty) (C0 : xAct gt mx bt yn j p s mid args meth c) (hE : xE cls acl nst strs lens byt B sp D aC adK adV b L sc s s.heap) (hB : B ≤ s.heap.size) (hd : decode (bt j) pc = .ok (raw, len)) (hk : xlk gt nst cls acl nM yn strs j pc len raw (.getstatic q)) (h : xs fty acl (.getstatic q) (pc + len) ls st m = some (pc', ls', st', m')) (hH : xH cls B sp sp0 D aC s m H locs) (hL : xLs B sp lsA (mx j) ls) (hc : cells + (m'.1 - m.1) ≤ R.cells) (hs : slots + (m'.2.1 - m.2.1) ≤ R.slots)
    (kk : ∀ (H' : Heap) (locs' : List Loc) (lsA' : Array Slot), xH cls B sp sp0 D aC s m' H' locs' → xLs B sp lsA' (mx j) ls' → W p l e R s mid args below meth c H' locs' (cells + (m'.1 - m.1)) (slots + (m'.2.1 - m.2.1)) Q (F0 mid pc' lsA' (st'.map (cv B sp)))) : W p l e R s mid args below meth c H locs cells slots Q (F0 mid pc lsA (st.map (cv B sp))) := by
  obtain ⟨hx, hb, hml, hown, hts, hnm⟩ := C0
  obtain ⟨q1, rfl, rfl, hq⟩ := hk
  simp only [xs] at h
  cases h
  simp only [Nat.sub_self, Nat.add_zero, List.map_cons] at kk
  rcases hq with ⟨rfl, hq⟩ | ⟨rfl, hq⟩
  · rw [if_pos rfl] at kk
    exact va_gets hx hb hE.2.2.2.2.2.1 hH.2.2.1 hown (hts _ hq) (fun _ h9 => h9) hd (kk H locs lsA hH hL)
  · rw [if_neg (by decide), cv_sp] at kk
    exact va_gets hx hb hE.2.2.2.2.2.2.1 hH.2.2.1 hown (hts _ hq) (fun _ h9 => h9) hd (kk H locs lsA hH hL)
end XO
end
section
/-! EACH INSTRUCTION OF THE INTERPRETER IS ONE OF THE MACHINE: the heap. -/
section XO
variable {gt nst : List Cond} {cls : List vw_C} {acl : Nat → Nat} {fty : Nat → List FieldType} {nM : Nat} {yn : Nat → MethodName} {strs : List (Nat × String × Nat × String)} {lens : List Nat} {byt : List (List Int32)}
variable {mx : Nat → Nat} {bt : Nat → ByteArray}
variable {B : Nat} {sp : Nat → Value} {sp0 : Nat → Option xC} {D : va_G} {aC : Nat → ClassId} {adK adV : Nat → Nat} {b L : Nat} {sc : Nat → Int32}
variable {p : Program} {l : Launch} {e : Env} {R : Room} {s : State} {mid : MethodId} {args : Array Value} {below : List Frame} {meth : Method} {c : Code} {H : Heap} {locs : List Loc} {cells slots : Nat} {Q : State → Prop}
theorem xE.arr (hE : xE cls acl nst strs lens byt B sp D aC adK adV b L sc s s.heap) (t : Nat) (h : t < 7) : ArrOfT s (aC t) (xat cls acl t) ∧ va_RA s (aC t) (xat cls acl t) := hE.1.2 t _ (xty_at t h)
theorem x_cat_ne {q : vw_C} (hz : cls.length ≤ 80) (h : cls[90]? = some q) : False := by
  have := (List.getElem?_eq_some_iff.mp h).1
  omega
theorem sx_getfield {j pc len : Nat} {raw : Instr} {q : Nat} {ls st ls' st' : List Value} {m m' : xM} {pc' : Nat} {lsA : Array Slot} (hsp : xSp strs lens byt B sp adK adV b L sc sp0) (hcl : xCl gt cls fty) (C0 : xAct gt mx bt yn j p s mid args meth c) (hE : xE cls acl nst strs lens byt B sp D aC adK adV b L sc s s.heap) (hB : B ≤ s.heap.size) (hd : decode (bt j) pc = .ok (raw, len)) (hk : xlk gt nst cls acl nM yn strs j pc len raw (.getfield q)) (h : xs fty acl (.getfield q) (pc + len) ls st m = some (pc', ls', st', m')) (hH : xH cls B sp sp0 D aC s m H locs) (hL : xLs B sp lsA (mx j) ls) (hc : cells + (m'.1 - m.1) ≤ R.cells) (hs : slots + (m'.2.1 - m.2.1) ≤ R.slots)
    (kk : ∀ (H' : Heap) (locs' : List Loc) (lsA' : Array Slot), xH cls B sp sp0 D aC s m' H' locs' → xLs B sp lsA' (mx j) ls' → W p l e R s mid args below meth c H' locs' (cells + (m'.1 - m.1)) (slots + (m'.2.1 - m.2.1)) Q (F0 mid pc' lsA' (st'.map (cv B sp)))) : W p l e R s mid args below meth c H locs cells slots Q (F0 mid pc lsA (st.map (cv B sp))) := by
  obtain ⟨hx, hb, hml, hown, hts, hnm⟩ := C0
  obtain ⟨q1, rfl, rfl, hq⟩ := hk
  simp only [xs, x_getf] at h
  split at h
  · rename_i a r
    split at h
    · rename_i ci fs hca
      split at h
      · rename_i hci
        split at h
        · rename_i v hv
          cases h
          simp only [Nat.sub_self, Nat.add_zero, List.map_cons] at kk ⊢
          subst hci
          by_cases ha : a < xS
          · rw [cv_ref ha]
            have hw := pw_get (B := B) (sp := sp) (aC := aC) hH.2.2.2 ha hca
            have hv2 : (fs.map (cv B sp))[q % 64]? = some (cv B sp v) := by rw [List.getElem?_map, hv]; rfl
            rcases hq with ⟨C, T, N, h1, h2, h3, h4⟩ | ⟨rfl, h4⟩ | ⟨rfl, h4⟩
            · exact va_get hx hb hts (hcl.2 _ _ _ _ h1).2.1 hown hE.1 hH.1 a hw h1 (q % 64) h2 (hts _ h4) (by rw [h3]; exact fun _ h9 => h9) hv2 hd (kk H locs lsA hH hL)
            · obtain ⟨r', hr', -⟩ := hH.1 a _ hw
              exact (x_cat_ne hcl.1 hr').elim
            · obtain ⟨r', hr', -⟩ := hH.1 a _ hw
              exact (x_cat_ne hcl.1 hr').elim
          · have hs0 := hH.2.2.2.spec ha hca
            obtain ⟨ha2, h5⟩ := hsp.2.2.2.2.2.2 a _ hs0
            rcases h5 with ⟨i, hi, rfl, h6⟩ | ⟨i, hi, rfl, h6⟩ | ⟨rfl, h6⟩
            · simp only [Sum.inr.injEq, Prod.mk.injEq] at h6
              obtain ⟨h7, rfl⟩ := h6
              have hst := hE.2.2.2.1.1 i hi
              have h8 := hsp.2.2.2.2.1 i hi
              rw [cv_sp, h8.1]
              rcases hq with ⟨C, T, N, h1, h2, h3, h4⟩ | ⟨rfl, h4⟩ | ⟨rfl, h4⟩
              · rw [h7] at h1
                exact (x_cat_ne hcl.1 h1).elim
              · simp only [show 90 * 64 % 64 = 0 from rfl] at hv
                cases hv
                rw [cv_sp, h8.2] at kk
                exact vk_getf hx hb hst.2.2.1 hH.2.2.1 hown (hts _ h4) (fun _ h9 => h9) hd (kk H locs lsA hH hL)
              · simp only [show (90 * 64 + 1) % 64 = 1 from rfl] at hv
                cases hv
                exact vk_getf hx hb hst.2.1 hH.2.2.1 hown (hts _ h4) (fun _ h9 => h9) hd (kk H locs lsA hH hL)
            · cases h6
            · cases h6
        · cases h
      · cases h
    · cases h
  · cases h
theorem sx_putfield {j pc len : Nat} {raw : Instr} {q : Nat} {ls st ls' st' : List Value} {m m' : xM} {pc' : Nat} {lsA : Array Slot} (hsp : xSp strs lens byt B sp adK adV b L sc sp0) (hcl : xCl gt cls fty) (C0 : xAct gt mx bt yn j p s mid args meth c) (hE : xE cls acl nst strs lens byt B sp D aC adK adV b L sc s s.heap) (hB : B ≤ s.heap.size) (hd : decode (bt j) pc = .ok (raw, len)) (hk : xlk gt nst cls acl nM yn strs j pc len raw (.putfield q)) (h : xs fty acl (.putfield q) (pc + len) ls st m = some (pc', ls', st', m')) (hH : xH cls B sp sp0 D aC s m H locs) (hL : xLs B sp lsA (mx j) ls) (hc : cells + (m'.1 - m.1) ≤ R.cells) (hs : slots + (m'.2.1 - m.2.1) ≤ R.slots)
    (kk : ∀ (H' : Heap) (locs' : List Loc) (lsA' : Array Slot), xH cls B sp sp0 D aC s m' H' locs' → xLs B sp lsA' (mx j) ls' → W p l e R s mid args below meth c H' locs' (cells + (m'.1 - m.1)) (slots + (m'.2.1 - m.2.1)) Q (F0 mid pc' lsA' (st'.map (cv B sp)))) : W p l e R s mid args below meth c H locs cells slots Q (F0 mid pc lsA (st.map (cv B sp))) := by
  obtain ⟨hx, hb, hml, hown, hts, hnm⟩ := C0
  obtain ⟨q1, rfl, rfl, C, T, N, h1, h2, h3, h4, h5⟩ := hk
  simp only [xs, x_putf] at h
  split at h
  · rename_i v a r
    split at h
    · rename_i ha
      split at h
      · rename_i ci fs hca
        split at h
        · rename_i hci
          obtain ⟨rfl, hlen⟩ := hci
          split at h
          · rename_i ty hty
            split at h
            · rename_i hnf
              cases h
              simp only [xset, Nat.sub_self, Nat.add_zero, List.map_cons] at kk ⊢
              rw [cv_ref ha]
              obtain ⟨hn, hfit⟩ := cv_nf (B := B) hsp.2.1 hnf
              have hw := pw_get (B := B) (sp := sp) (aC := aC) hH.2.2.2 ha hca
              obtain ⟨k1, k2, k3, k4, k5, k6⟩ := hcl.2 _ _ _ _ h1
              have hpd : parseFieldDescriptor (T (q % 64)).2.2.1 = some ty := (k3 _ h2).trans hty
              have hall : ∀ k, k < N → parseFieldDescriptor (T k).2.2.1 = some ((fun k => (fty (q / 64)).getD k .int) k) := fun k hk9 => by
                rw [k3 k hk9, List.getElem?_eq_getElem (by omega)]
                simp [List.getD, List.getElem?_eq_getElem (show k < (fty (q / 64)).length by omega)]
              have hap := va_apart (own := (yn j).cls) hts k2 (fun k => (fty (q / 64)).getD k .int) hall k4 hE.1 h1
              obtain ⟨r', g1, cell, q1', q2, q3, q4⟩ := hH.1 a _ hw
              have hr : r' = (C, T, N) := Option.some.inj (g1.symm.trans h1)
              subst hr
              obtain ⟨hSl, hfc, kC, hkC, hkind⟩ := hE.1.1 _ _ h1
              obtain ⟨cf, kf, fi, f, hi, hsl⟩ := hSl _ h2
              have hst := (u_facts hfc hkC (u_lays hts k2 h2) hi).1
              have hi' : s.fieldFound? C (T (q % 64)).2.1 (T (q % 64)).2.2.1 = some (cf, kf, fi, f) := by rw [← h3]; exact hi
              have hlay := hts _ (k2 _ (u_in_lay h2))
              unfold u_lay at hlay
              have fin : ∀ (H' : Heap) (k : Nat), H'[B + a]? = some (cell.setSlot f.slot (cv B sp v)) → H'.size = H.size → (∀ z, z ≠ B + a → H'[z]? = H[z]?) → xH cls B sp sp0 D aC s (m.1, m.2.1, va_up m.2.2 a (some (.inr (q / 64, fs.set (q % 64) v)))) H' (locs ++ [⟨B + a, k⟩]) := by
                intro H' k e1 e2 e3
                refine hH.set (c1 := .inr (q / 64, fs.set (q % 64) v)) ha hca e2 e3 ?_
                rw [hsl] at e1
                have hlen2 : q % 64 < (fs.map (cv B sp)).length := by rw [List.length_map]; exact hlen
                refine ⟨_, h1, ?_⟩
                dsimp only [cC]
                rw [List.map_set]
                exact t_OB.to (V := updV (vp_V (fs.map (cv B sp))) (q % 64) (cv B sp v)) ⟨_, e1, q2, q3, t_set q4 hap h2 _⟩ (fun j _ => vp_updV_set hlen2 _ j)
              rcases h5 with hfin | ⟨hfin, hin2, hdecl⟩
              · rw [if_neg (by rw [hfin]; decide)] at hlay
                have h6 := u_store hfc hkC hkind hlay hi hpd hn hfit
                refine W.putK hx hb (f := f) ⟨hown, hts _ h4, ⟨_, _, _, hi'⟩, hst⟩ (by rw [q2]; exact h6) q1' q3 (by rw [hsl]; exact k2_hasslot (q4 _ h2)) rfl rfl hd fun H' e1 e2 e3 => ?_
                exact kk H' _ lsA (fin H' _ e1 e2 e3) hL
              · rw [if_pos hfin] at hlay
                have hcf : mid.cls = cf := by
                  obtain ⟨_, _, c', _, _, _, -, -, hf', -, -, -, hown2, -⟩ := Cond.laysFinal_spec hlay
                  have e1 : c' = cf := by have := hi.symm.trans hf'; simp at this; exact this.1.symm
                  rw [h3, hdecl] at hown2
                  rw [← e1]; exact Option.some.inj (hown.symm.trans hown2)
                have h6 := u_fits hfc hkC hkind (Or.inr hlay) hi hpd hn hfit
                refine W.putFinK hx hb hown (hts _ h4) hi' hst hcf (hnm hin2) (by rw [q2]; exact h6) q1' q3 (by rw [hsl]; exact k2_hasslot (q4 _ h2)) rfl rfl hd fun H' e1 e2 e3 => ?_
                exact kk H' _ lsA (fin H' _ e1 e2 e3) hL
            · cases h
          · cases h
        · cases h
      · cases h
    · cases h
  · cases h
theorem sx_iaload {j pc len : Nat} {raw : Instr}  {ls st ls' st' : List Value} {m m' : xM} {pc' : Nat} {lsA : Array Slot} (hsp : xSp strs lens byt B sp adK adV b L sc sp0) (hcl : xCl gt cls fty) (C0 : xAct gt mx bt yn j p s mid args meth c) (hE : xE cls acl nst strs lens byt B sp D aC adK adV b L sc s s.heap) (hB : B ≤ s.heap.size) (hd : decode (bt j) pc = .ok (raw, len)) (hk : xlk gt nst cls acl nM yn strs j pc len raw (.iaload)) (h : xs fty acl (.iaload) (pc + len) ls st m = some (pc', ls', st', m')) (hH : xH cls B sp sp0 D aC s m H locs) (hL : xLs B sp lsA (mx j) ls) (hc : cells + (m'.1 - m.1) ≤ R.cells) (hs : slots + (m'.2.1 - m.2.1) ≤ R.slots)
    (kk : ∀ (H' : Heap) (locs' : List Loc) (lsA' : Array Slot), xH cls B sp sp0 D aC s m' H' locs' → xLs B sp lsA' (mx j) ls' → W p l e R s mid args below meth c H' locs' (cells + (m'.1 - m.1)) (slots + (m'.2.1 - m.2.1)) Q (F0 mid pc' lsA' (st'.map (cv B sp)))) : W p l e R s mid args below meth c H locs cells slots Q (F0 mid pc lsA (st.map (cv B sp))) := by
  obtain ⟨hx, hb, hml, hown, hts, hnm⟩ := C0
  obtain ⟨rfl, rfl⟩ := hk
  simp only [xs, x_iald] at h
  split at h
  · rename_i i a r
    split at h
    · rename_i n f hca
      split at h
      · cases h
      · rename_i hin
        cases h
        simp only [Nat.sub_self, Nat.add_zero, List.map_cons, cv_int, cv_long, cv_null] at kk ⊢
        by_cases ha : a < xS
        · rw [cv_ref ha]
          exact va_iald hx hb hE.1 hH.1 a 0 (pw_get hH.2.2.2 ha hca) (xty_at 0 (by decide)) (x_not hin) hd (kk H locs lsA hH hL)
        · obtain ⟨ha2, h5⟩ := hsp.2.2.2.2.2.2 a _ (hH.2.2.2.spec ha hca)
          rcases h5 with ⟨i', hi, rfl, h6⟩ | ⟨i', hi, rfl, h6⟩ | ⟨rfl, h6⟩
          · cases h6
          · simp only [Sum.inl.injEq, Prod.mk.injEq] at h6
            exact absurd h6.1 (by decide)
          · simp only [Sum.inl.injEq, Prod.mk.injEq] at h6
            obtain ⟨-, rfl, rfl⟩ := h6
            rw [cv_sp, hsp.2.2.2.2.2.1]
            have hbl : b < s.heap.size := Nat.lt_of_lt_of_le hsp.2.2.1 hB
            exact va_sld hx hb hE.2.2.2.2.2.2.2 hbl (Nat.not_le.mpr hsp.2.2.1) hH.2.2.1 (x_not hin) hd (kk H locs lsA hH hL)
    · cases h
  · cases h
theorem sx_baload {j pc len : Nat} {raw : Instr}  {ls st ls' st' : List Value} {m m' : xM} {pc' : Nat} {lsA : Array Slot} (hsp : xSp strs lens byt B sp adK adV b L sc sp0) (hcl : xCl gt cls fty) (C0 : xAct gt mx bt yn j p s mid args meth c) (hE : xE cls acl nst strs lens byt B sp D aC adK adV b L sc s s.heap) (hB : B ≤ s.heap.size) (hd : decode (bt j) pc = .ok (raw, len)) (hk : xlk gt nst cls acl nM yn strs j pc len raw (.baload)) (h : xs fty acl (.baload) (pc + len) ls st m = some (pc', ls', st', m')) (hH : xH cls B sp sp0 D aC s m H locs) (hL : xLs B sp lsA (mx j) ls) (hc : cells + (m'.1 - m.1) ≤ R.cells) (hs : slots + (m'.2.1 - m.2.1) ≤ R.slots)
    (kk : ∀ (H' : Heap) (locs' : List Loc) (lsA' : Array Slot), xH cls B sp sp0 D aC s m' H' locs' → xLs B sp lsA' (mx j) ls' → W p l e R s mid args below meth c H' locs' (cells + (m'.1 - m.1)) (slots + (m'.2.1 - m.2.1)) Q (F0 mid pc' lsA' (st'.map (cv B sp)))) : W p l e R s mid args below meth c H locs cells slots Q (F0 mid pc lsA (st.map (cv B sp))) := by
  obtain ⟨hx, hb, hml, hown, hts, hnm⟩ := C0
  obtain ⟨rfl, rfl⟩ := hk
  simp only [xs, x_bald] at h
  split at h
  · rename_i i a r
    split at h
    · rename_i n f hca
      split at h
      · cases h
      · rename_i hin
        cases h
        simp only [Nat.sub_self, Nat.add_zero, List.map_cons, cv_int, cv_long, cv_null] at kk ⊢
        by_cases ha : a < xS
        · rw [cv_ref ha]
          exact va_bald hx hb hE.1 hH.1 a 1 (pw_get hH.2.2.2 ha hca) (xty_at 1 (by decide)) (x_not hin) hd (kk H locs lsA hH hL)
        · obtain ⟨ha2, h5⟩ := hsp.2.2.2.2.2.2 a _ (hH.2.2.2.spec ha hca)
          rcases h5 with ⟨i', hi, rfl, h6⟩ | ⟨i', hi, rfl, h6⟩ | ⟨rfl, h6⟩
          · cases h6
          · simp only [Sum.inl.injEq, Prod.mk.injEq] at h6
            obtain ⟨-, rfl, rfl⟩ := h6
            rw [cv_sp, (hsp.2.2.2.2.1 i' hi).2]
            exact va_tb hx hb (hE.2.2.2.1.1 i' hi).2.2.2 hH.2.2.1 (x_not hin) rfl hd (kk H locs lsA hH hL)
          · simp only [Sum.inl.injEq, Prod.mk.injEq] at h6
            exact absurd h6.1 (by decide)
    · rename_i n f hca
      split at h
      · cases h
      · rename_i hin
        cases h
        simp only [Nat.sub_self, Nat.add_zero, List.map_cons, cv_int, cv_long, cv_null] at kk ⊢
        by_cases ha : a < xS
        · rw [cv_ref ha]
          exact va_zald hx hb hE.1 hH.1 a 3 (pw_get hH.2.2.2 ha hca) (xty_at 3 (by decide)) (x_not hin) hd (kk H locs lsA hH hL)
        · obtain ⟨ha2, h5⟩ := hsp.2.2.2.2.2.2 a _ (hH.2.2.2.spec ha hca)
          rcases h5 with ⟨i', hi, rfl, h6⟩ | ⟨i', hi, rfl, h6⟩ | ⟨rfl, h6⟩
          · cases h6
          · simp only [Sum.inl.injEq, Prod.mk.injEq] at h6
            exact absurd h6.1 (by decide)
          · simp only [Sum.inl.injEq, Prod.mk.injEq] at h6
            exact absurd h6.1 (by decide)
    · cases h
  · cases h
theorem sx_laload {j pc len : Nat} {raw : Instr}  {ls st ls' st' : List Value} {m m' : xM} {pc' : Nat} {lsA : Array Slot} (hsp : xSp strs lens byt B sp adK adV b L sc sp0) (hcl : xCl gt cls fty) (C0 : xAct gt mx bt yn j p s mid args meth c) (hE : xE cls acl nst strs lens byt B sp D aC adK adV b L sc s s.heap) (hB : B ≤ s.heap.size) (hd : decode (bt j) pc = .ok (raw, len)) (hk : xlk gt nst cls acl nM yn strs j pc len raw (.laload)) (h : xs fty acl (.laload) (pc + len) ls st m = some (pc', ls', st', m')) (hH : xH cls B sp sp0 D aC s m H locs) (hL : xLs B sp lsA (mx j) ls) (hc : cells + (m'.1 - m.1) ≤ R.cells) (hs : slots + (m'.2.1 - m.2.1) ≤ R.slots)
    (kk : ∀ (H' : Heap) (locs' : List Loc) (lsA' : Array Slot), xH cls B sp sp0 D aC s m' H' locs' → xLs B sp lsA' (mx j) ls' → W p l e R s mid args below meth c H' locs' (cells + (m'.1 - m.1)) (slots + (m'.2.1 - m.2.1)) Q (F0 mid pc' lsA' (st'.map (cv B sp)))) : W p l e R s mid args below meth c H locs cells slots Q (F0 mid pc lsA (st.map (cv B sp))) := by
  obtain ⟨hx, hb, hml, hown, hts, hnm⟩ := C0
  obtain ⟨rfl, rfl⟩ := hk
  simp only [xs, x_lald] at h
  split at h
  · rename_i i a r
    split at h
    · rename_i n f hca
      split at h
      · cases h
      · rename_i hin
        cases h
        simp only [Nat.sub_self, Nat.add_zero, List.map_cons, cv_int, cv_long, cv_null] at kk ⊢
        by_cases ha : a < xS
        · rw [cv_ref ha]
          exact va_lald hx hb hE.1 hH.1 a 2 (pw_get hH.2.2.2 ha hca) (xty_at 2 (by decide)) (x_not hin) hd (kk H locs lsA hH hL)
        · obtain ⟨ha2, h5⟩ := hsp.2.2.2.2.2.2 a _ (hH.2.2.2.spec ha hca)
          rcases h5 with ⟨i', hi, rfl, h6⟩ | ⟨i', hi, rfl, h6⟩ | ⟨rfl, h6⟩
          · cases h6
          · simp only [Sum.inl.injEq, Prod.mk.injEq] at h6
            exact absurd h6.1 (by decide)
          · simp only [Sum.inl.injEq, Prod.mk.injEq] at h6
            exact absurd h6.1 (by decide)
    · cases h
  · cases h
theorem xat_ob {t : Nat} (h : 4 ≤ t) : xat cls acl t = .object ((cls[acl t]?).elim "" (fun r => r.1)) := by
  match t, h with
  | t + 4, _ => rfl
theorem sx_aaload {j pc len : Nat} {raw : Instr}  {ls st ls' st' : List Value} {m m' : xM} {pc' : Nat} {lsA : Array Slot} (hsp : xSp strs lens byt B sp adK adV b L sc sp0) (hcl : xCl gt cls fty) (C0 : xAct gt mx bt yn j p s mid args meth c) (hE : xE cls acl nst strs lens byt B sp D aC adK adV b L sc s s.heap) (hB : B ≤ s.heap.size) (hd : decode (bt j) pc = .ok (raw, len)) (hk : xlk gt nst cls acl nM yn strs j pc len raw (.aaload)) (h : xs fty acl (.aaload) (pc + len) ls st m = some (pc', ls', st', m')) (hH : xH cls B sp sp0 D aC s m H locs) (hL : xLs B sp lsA (mx j) ls) (hc : cells + (m'.1 - m.1) ≤ R.cells) (hs : slots + (m'.2.1 - m.2.1) ≤ R.slots)
    (kk : ∀ (H' : Heap) (locs' : List Loc) (lsA' : Array Slot), xH cls B sp sp0 D aC s m' H' locs' → xLs B sp lsA' (mx j) ls' → W p l e R s mid args below meth c H' locs' (cells + (m'.1 - m.1)) (slots + (m'.2.1 - m.2.1)) Q (F0 mid pc' lsA' (st'.map (cv B sp)))) : W p l e R s mid args below meth c H locs cells slots Q (F0 mid pc lsA (st.map (cv B sp))) := by
  obtain ⟨hx, hb, hml, hown, hts, hnm⟩ := C0
  obtain ⟨rfl, rfl⟩ := hk
  simp only [xs, x_aald] at h
  split at h
  · rename_i i a r
    split at h
    · rename_i t n f hca
      split at h
      · cases h
      · rename_i hin
        have ht4 : 4 ≤ t := Nat.not_lt.mp fun z => hin (Or.inl z)
        have ht7 : t < 7 := Nat.not_le.mp fun z => hin (Or.inr (Or.inl z))
        have ha : a < xS := Nat.not_le.mp fun z => hin (Or.inr (Or.inr (Or.inl z)))
        have hi0 : ¬ xout i n = true := fun z => hin (Or.inr (Or.inr (Or.inr z)))
        have hty := xty_at (cls := cls) (acl := acl) (aC := aC) t ht7
        rw [xat_ob ht4] at hty
        split at h
        · rename_i hf
          cases h
          simp only [Nat.sub_self, Nat.add_zero, List.map_cons, cv_int, cv_long, cv_null] at kk ⊢
          rw [cv_ref ha]
          refine va_aldq hx hb hE.1 hH.1 a t (f := fun j => (f j).map (B + ·)) (pw_get hH.2.2.2 ha hca) hty (x_not hi0) hd ?_
          rw [hf]
          exact kk H locs lsA hH hL
        · rename_i v hf
          split at h
          · rename_i hv
            cases h
            simp only [Nat.sub_self, Nat.add_zero, List.map_cons, cv_int, cv_long, cv_null] at kk ⊢
            rw [cv_ref ha]
            rw [cv_ref hv] at kk
            refine va_aldq hx hb hE.1 hH.1 a t (f := fun j => (f j).map (B + ·)) (pw_get hH.2.2.2 ha hca) hty (x_not hi0) hd ?_
            rw [hf]
            exact kk H locs lsA hH hL
          · cases h
    · cases h
  · cases h
theorem sx_arraylength {j pc len : Nat} {raw : Instr}  {ls st ls' st' : List Value} {m m' : xM} {pc' : Nat} {lsA : Array Slot} (hsp : xSp strs lens byt B sp adK adV b L sc sp0) (hcl : xCl gt cls fty) (C0 : xAct gt mx bt yn j p s mid args meth c) (hE : xE cls acl nst strs lens byt B sp D aC adK adV b L sc s s.heap) (hB : B ≤ s.heap.size) (hd : decode (bt j) pc = .ok (raw, len)) (hk : xlk gt nst cls acl nM yn strs j pc len raw (.arraylength)) (h : xs fty acl (.arraylength) (pc + len) ls st m = some (pc', ls', st', m')) (hH : xH cls B sp sp0 D aC s m H locs) (hL : xLs B sp lsA (mx j) ls) (hc : cells + (m'.1 - m.1) ≤ R.cells) (hs : slots + (m'.2.1 - m.2.1) ≤ R.slots)
    (kk : ∀ (H' : Heap) (locs' : List Loc) (lsA' : Array Slot), xH cls B sp sp0 D aC s m' H' locs' → xLs B sp lsA' (mx j) ls' → W p l e R s mid args below meth c H' locs' (cells + (m'.1 - m.1)) (slots + (m'.2.1 - m.2.1)) Q (F0 mid pc' lsA' (st'.map (cv B sp)))) : W p l e R s mid args below meth c H locs cells slots Q (F0 mid pc lsA (st.map (cv B sp))) := by
  obtain ⟨hx, hb, hml, hown, hts, hnm⟩ := C0
  obtain ⟨rfl, rfl⟩ := hk
  simp only [xs, x_alen] at h
  split at h
  · rename_i a r
    split at h
    · rename_i t x hca
      split at h
      · rename_i ht
        cases h
        simp only [Nat.sub_self, Nat.add_zero, List.map_cons, cv_int, cv_long, cv_null] at kk ⊢
        by_cases ha : a < xS
        · rw [cv_ref ha]
          exact va_alen hx hb hE.1 hH.1 a t (x := (x.1, cA B x.2)) (pw_get hH.2.2.2 ha hca) (xty_at t ht) rfl hd (kk H locs lsA hH hL)
        · obtain ⟨ha2, h5⟩ := hsp.2.2.2.2.2.2 a _ (hH.2.2.2.spec ha hca)
          rcases h5 with ⟨i', hi, rfl, h6⟩ | ⟨i', hi, rfl, h6⟩ | ⟨rfl, h6⟩
          · cases h6
          · simp only [Sum.inl.injEq, Prod.mk.injEq] at h6
            obtain ⟨-, rfl⟩ := h6
            rw [cv_sp, (hsp.2.2.2.2.1 i' hi).2]
            exact va_tlen hx hb (hE.2.2.2.1.1 i' hi).2.2.2 hH.2.2.1 rfl hd (kk H locs lsA hH hL)
          · simp only [Sum.inl.injEq, Prod.mk.injEq] at h6
            obtain ⟨-, rfl⟩ := h6
            rw [cv_sp, hsp.2.2.2.2.2.1]
            have hbl : b < s.heap.size := Nat.lt_of_lt_of_le hsp.2.2.1 hB
            exact va_slen hx hb hE.2.2.2.2.2.2.2 hbl (Nat.not_le.mpr hsp.2.2.1) hH.2.2.1 hd (kk H locs lsA hH hL)
      · cases h
    · cases h
  · cases h
theorem sx_iastore {j pc len : Nat} {raw : Instr}  {ls st ls' st' : List Value} {m m' : xM} {pc' : Nat} {lsA : Array Slot} (hsp : xSp strs lens byt B sp adK adV b L sc sp0) (hcl : xCl gt cls fty) (C0 : xAct gt mx bt yn j p s mid args meth c) (hE : xE cls acl nst strs lens byt B sp D aC adK adV b L sc s s.heap) (hB : B ≤ s.heap.size) (hd : decode (bt j) pc = .ok (raw, len)) (hk : xlk gt nst cls acl nM yn strs j pc len raw (.iastore)) (h : xs fty acl (.iastore) (pc + len) ls st m = some (pc', ls', st', m')) (hH : xH cls B sp sp0 D aC s m H locs) (hL : xLs B sp lsA (mx j) ls) (hc : cells + (m'.1 - m.1) ≤ R.cells) (hs : slots + (m'.2.1 - m.2.1) ≤ R.slots)
    (kk : ∀ (H' : Heap) (locs' : List Loc) (lsA' : Array Slot), xH cls B sp sp0 D aC s m' H' locs' → xLs B sp lsA' (mx j) ls' → W p l e R s mid args below meth c H' locs' (cells + (m'.1 - m.1)) (slots + (m'.2.1 - m.2.1)) Q (F0 mid pc' lsA' (st'.map (cv B sp)))) : W p l e R s mid args below meth c H locs cells slots Q (F0 mid pc lsA (st.map (cv B sp))) := by
  obtain ⟨hx, hb, hml, hown, hts, hnm⟩ := C0
  obtain ⟨rfl, rfl⟩ := hk
  simp only [xs, x_iast] at h
  split at h
  · rename_i x i a r
    split at h
    · rename_i ha
      split at h
      · rename_i n f hca
        split at h
        · cases h
        · rename_i hin
          cases h
          simp only [xset, Nat.sub_self, Nat.add_zero, List.map_cons, cv_int, cv_long, cv_null] at kk ⊢
          rw [cv_ref ha]
          have hi1 := x_not hin
          refine W.iast hx hb (hH.1 a _ (pw_get hH.2.2.2 ha hca)) ((xE.arr hE 0 (by decide)).1 n (fun j => .int (f j))) (fun q => by cases q) (by show ¬ (i < 0 ∨ (arrV _ _ _).slots.size ≤ _); rw [arrV_size]; exact hi1) rfl rfl hd fun H1 e z oq => ?_
          refine kk H1 _ lsA (hH.set ha hca z oq ?_) hL
          show H1[B + a]? = some (vp_cell (aC 0) (n, xints (upd f i.toNatClampNeg x)))
          rw [e, vp_cell_i]
          refine congrArg some ((arrV_store _ _ _ _ _).trans (congrArg (arrV (aC 0) n) ?_))
          funext q
          by_cases hq : q = i.toNatClampNeg
          · subst hq
            simp [updV, upd]
            skip
          · simp [updV, upd, hq]
      · cases h
    · cases h
  · cases h
theorem sx_bastore {j pc len : Nat} {raw : Instr}  {ls st ls' st' : List Value} {m m' : xM} {pc' : Nat} {lsA : Array Slot} (hsp : xSp strs lens byt B sp adK adV b L sc sp0) (hcl : xCl gt cls fty) (C0 : xAct gt mx bt yn j p s mid args meth c) (hE : xE cls acl nst strs lens byt B sp D aC adK adV b L sc s s.heap) (hB : B ≤ s.heap.size) (hd : decode (bt j) pc = .ok (raw, len)) (hk : xlk gt nst cls acl nM yn strs j pc len raw (.bastore)) (h : xs fty acl (.bastore) (pc + len) ls st m = some (pc', ls', st', m')) (hH : xH cls B sp sp0 D aC s m H locs) (hL : xLs B sp lsA (mx j) ls) (hc : cells + (m'.1 - m.1) ≤ R.cells) (hs : slots + (m'.2.1 - m.2.1) ≤ R.slots)
    (kk : ∀ (H' : Heap) (locs' : List Loc) (lsA' : Array Slot), xH cls B sp sp0 D aC s m' H' locs' → xLs B sp lsA' (mx j) ls' → W p l e R s mid args below meth c H' locs' (cells + (m'.1 - m.1)) (slots + (m'.2.1 - m.2.1)) Q (F0 mid pc' lsA' (st'.map (cv B sp)))) : W p l e R s mid args below meth c H locs cells slots Q (F0 mid pc lsA (st.map (cv B sp))) := by
  obtain ⟨hx, hb, hml, hown, hts, hnm⟩ := C0
  obtain ⟨rfl, rfl⟩ := hk
  simp only [xs, x_bast] at h
  split at h
  · rename_i x i a r
    split at h
    · rename_i ha
      split at h
      · rename_i n f hca
        split at h
        · cases h
        · rename_i hin
          cases h
          simp only [xset, Nat.sub_self, Nat.add_zero, List.map_cons, cv_int, cv_long, cv_null] at kk ⊢
          rw [cv_ref ha]
          have hi1 := x_not hin
          refine W.bast hx hb (hH.1 a _ (pw_get hH.2.2.2 ha hca)) ((xE.arr hE 1 (by decide)).1 n (fun j => .int (f j))) (fun q => by cases q) (by show ¬ (i < 0 ∨ (arrV _ _ _).slots.size ≤ _); rw [arrV_size]; exact hi1) rfl rfl hd fun H1 e z oq => ?_
          refine kk H1 _ lsA (hH.set ha hca z oq ?_) hL
          show H1[B + a]? = some (vp_cell (aC 1) (n, xints (upd f i.toNatClampNeg (vp_nar .byte x))))
          rw [e, vp_cell_i]
          refine congrArg some ((arrV_store _ _ _ _ _).trans (congrArg (arrV (aC 1) n) ?_))
          funext q
          by_cases hq : q = i.toNatClampNeg
          · subst hq
            simp [updV, upd, vp_nar]
            try rfl
          · simp [updV, upd, vp_nar, hq]
      · rename_i n f hca
        split at h
        · cases h
        · rename_i hin
          cases h
          simp only [xset, Nat.sub_self, Nat.add_zero, List.map_cons, cv_int, cv_long, cv_null] at kk ⊢
          rw [cv_ref ha]
          have hi1 := x_not hin
          refine W.zast hx hb (hH.1 a _ (pw_get hH.2.2.2 ha hca)) ((xE.arr hE 3 (by decide)).1 n (fun j => .int (f j))) (fun q => by cases q) (by show ¬ (i < 0 ∨ (arrV _ _ _).slots.size ≤ _); rw [arrV_size]; exact hi1) rfl rfl hd fun H1 e z oq => ?_
          refine kk H1 _ lsA (hH.set ha hca z oq ?_) hL
          show H1[B + a]? = some (vp_cell (aC 3) (n, xints (upd f i.toNatClampNeg (vp_nar .boolean x))))
          rw [e, vp_cell_i]
          refine congrArg some ((arrV_store _ _ _ _ _).trans (congrArg (arrV (aC 3) n) ?_))
          funext q
          by_cases hq : q = i.toNatClampNeg
          · subst hq
            simp [updV, upd, vp_nar]
            try rfl
          · simp [updV, upd, vp_nar, hq]
      · cases h
    · cases h
  · cases h
theorem sx_lastore {j pc len : Nat} {raw : Instr}  {ls st ls' st' : List Value} {m m' : xM} {pc' : Nat} {lsA : Array Slot} (hsp : xSp strs lens byt B sp adK adV b L sc sp0) (hcl : xCl gt cls fty) (C0 : xAct gt mx bt yn j p s mid args meth c) (hE : xE cls acl nst strs lens byt B sp D aC adK adV b L sc s s.heap) (hB : B ≤ s.heap.size) (hd : decode (bt j) pc = .ok (raw, len)) (hk : xlk gt nst cls acl nM yn strs j pc len raw (.lastore)) (h : xs fty acl (.lastore) (pc + len) ls st m = some (pc', ls', st', m')) (hH : xH cls B sp sp0 D aC s m H locs) (hL : xLs B sp lsA (mx j) ls) (hc : cells + (m'.1 - m.1) ≤ R.cells) (hs : slots + (m'.2.1 - m.2.1) ≤ R.slots)
    (kk : ∀ (H' : Heap) (locs' : List Loc) (lsA' : Array Slot), xH cls B sp sp0 D aC s m' H' locs' → xLs B sp lsA' (mx j) ls' → W p l e R s mid args below meth c H' locs' (cells + (m'.1 - m.1)) (slots + (m'.2.1 - m.2.1)) Q (F0 mid pc' lsA' (st'.map (cv B sp)))) : W p l e R s mid args below meth c H locs cells slots Q (F0 mid pc lsA (st.map (cv B sp))) := by
  obtain ⟨hx, hb, hml, hown, hts, hnm⟩ := C0
  obtain ⟨rfl, rfl⟩ := hk
  simp only [xs, x_last] at h
  split at h
  · rename_i x i a r
    split at h
    · rename_i ha
      split at h
      · rename_i n f hca
        split at h
        · cases h
        · rename_i hin
          cases h
          simp only [xset, Nat.sub_self, Nat.add_zero, List.map_cons, cv_int, cv_long, cv_null] at kk ⊢
          rw [cv_ref ha]
          have hi1 := x_not hin
          refine W.last hx hb (hH.1 a _ (pw_get hH.2.2.2 ha hca)) ((xE.arr hE 2 (by decide)).1 n (fun j => .long (f j))) (fun q => by cases q) (by show ¬ (i < 0 ∨ (arrV _ _ _).slots.size ≤ _); rw [arrV_size]; exact hi1) rfl rfl hd fun H1 e z oq => ?_
          refine kk H1 _ lsA (hH.set ha hca z oq ?_) hL
          show H1[B + a]? = some (vp_cell (aC 2) (n, xlongs (vp_updL f i.toNatClampNeg x)))
          rw [e, vp_cell_l]
          refine congrArg some ((arrV_store _ _ _ _ _).trans (congrArg (arrV (aC 2) n) ?_))
          funext q
          by_cases hq : q = i.toNatClampNeg
          · subst hq
            simp [updV, vp_updL]
            skip
          · simp [updV, vp_updL, hq]
      · cases h
    · cases h
  · cases h
theorem sx_aastore {j pc len : Nat} {raw : Instr}  {ls st ls' st' : List Value} {m m' : xM} {pc' : Nat} {lsA : Array Slot} (hsp : xSp strs lens byt B sp adK adV b L sc sp0) (hcl : xCl gt cls fty) (C0 : xAct gt mx bt yn j p s mid args meth c) (hE : xE cls acl nst strs lens byt B sp D aC adK adV b L sc s s.heap) (hB : B ≤ s.heap.size) (hd : decode (bt j) pc = .ok (raw, len)) (hk : xlk gt nst cls acl nM yn strs j pc len raw (.aastore)) (h : xs fty acl (.aastore) (pc + len) ls st m = some (pc', ls', st', m')) (hH : xH cls B sp sp0 D aC s m H locs) (hL : xLs B sp lsA (mx j) ls) (hc : cells + (m'.1 - m.1) ≤ R.cells) (hs : slots + (m'.2.1 - m.2.1) ≤ R.slots)
    (kk : ∀ (H' : Heap) (locs' : List Loc) (lsA' : Array Slot), xH cls B sp sp0 D aC s m' H' locs' → xLs B sp lsA' (mx j) ls' → W p l e R s mid args below meth c H' locs' (cells + (m'.1 - m.1)) (slots + (m'.2.1 - m.2.1)) Q (F0 mid pc' lsA' (st'.map (cv B sp)))) : W p l e R s mid args below meth c H locs cells slots Q (F0 mid pc lsA (st.map (cv B sp))) := by
  obtain ⟨hx, hb, hml, hown, hts, hnm⟩ := C0
  obtain ⟨rfl, rfl⟩ := hk
  simp only [xs, x_aast] at h
  split at h
  · rename_i v i a r
    split at h
    · rename_i ha'
      obtain ⟨ha, hv⟩ := ha'
      split at h
      · rename_i t n f hca
        split at h
        · cases h
        · rename_i hin
          have ht4 : 4 ≤ t := Nat.not_lt.mp fun z => hin (Or.inl z)
          have ht7 : t < 7 := Nat.not_le.mp fun z => hin (Or.inr (Or.inl z))
          have hi1 := x_not fun z => hin (Or.inr (Or.inr z))
          have hlt : i.toNatClampNeg < n := Nat.not_le.mp fun q => hi1 (Or.inr q)
          have h0 : ¬ i < 0 := fun q => hi1 (Or.inl q)
          split at h
          · rename_i ci vs hcv
            split at h
            · rename_i hci
              cases h
              subst hci
              simp only [xset, Nat.sub_self, Nat.add_zero, List.map_cons, cv_int, cv_long, cv_null] at kk ⊢
              rw [cv_ref ha, cv_ref hv]
              obtain ⟨r', hr', cellV, g1, g2, g3, -⟩ := hH.1 v _ (pw_get hH.2.2.2 hv hcv)
              have hcls := (hE.1.1 _ r' hr').2
              have hRA := (xE.arr hE t ht7).2
              rw [xat_ob ht4, show cls[acl t]? = some r' from hr'] at hRA
              obtain ⟨kA, comp, k1, k2, k3, -⟩ := hRA
              have hcomp : comp = D.1 (acl t) := Option.some.inj (k3.symm.trans hcls.1)
              subst hcomp
              obtain ⟨kC, hkC, -⟩ := hcls.2
              refine W.aast hx hb (hH.1 a _ (pw_get hH.2.2.2 ha hca)) (fun q h => by cases h) (fun h => by cases h) k1 k2 rfl hkC ⟨h0, by show _ < (arrV _ _ _).slots.size; rw [arrV_size]; exact hlt⟩ g1 (fun q h => by rw [g3] at h; cases h) (by rw [g2]; exact hkC) (by rw [g2]; exact va_assign hcls) rfl rfl hd fun H1 e z oq => ?_
              refine kk H1 _ lsA (hH.set ha hca z oq ?_) hL
              show H1[B + a]? = some (vp_cell (aC t) (n, xrefs (fun j => (va_up f i.toNatClampNeg (some v) j).map (B + ·))))
              rw [e, vp_cell_q]
              refine congrArg some ((arrV_store _ _ _ _ _).trans (congrArg (arrV (aC t) n) ?_))
              funext q
              by_cases hq : q = i.toNatClampNeg
              · subst hq
                simp [updV, va_up, va_rf]
              · simp [updV, va_up, hq]
            · cases h
          · cases h
      · cases h
    · cases h
  · cases h
/-- a cell is made -/
theorem xH.new {m : xM} {sl : Nat} {c1 : xC} {H1 : Heap} (hB : B ≤ s.heap.size) (hH : xH cls B sp sp0 D aC s m H locs) (hm : m.1 < xS) (z : H1.size = H.size + 1) (oq : ∀ q : Nat, q < H.size → H1[q]? = H[q]?) (hat : va_at D cls (B + m.1, cC B sp aC c1) H1) : xH cls B sp sp0 D aC s (xnew m sl c1) H1 locs := by
  obtain ⟨hP, hz, hS, hO⟩ := hH
  refine ⟨?_, by rw [z, hz]; simp only [xnew]; omega, ⟨Nat.le_trans hS.1 (by omega), fun x h1 h2 => (oq x (Nat.lt_of_lt_of_le h1 hS.1)).trans (hS.2.1 x h1 h2), hS.2.2⟩, hO.new hm⟩
  rw [pw_new]
  refine (hP.kept fun k q hk => oq q.1 ((hP k q hk).lt)).app (fun k q hk => ?_)
  match k, hk with
  | 0, hk => cases hk; exact hat
  | k + 1, hk => simp at hk
theorem sx_new {j pc len : Nat} {raw : Instr} {ci : Nat} {ls st ls' st' : List Value} {m m' : xM} {pc' : Nat} {lsA : Array Slot} (hsp : xSp strs lens byt B sp adK adV b L sc sp0) (hcl : xCl gt cls fty) (C0 : xAct gt mx bt yn j p s mid args meth c) (hE : xE cls acl nst strs lens byt B sp D aC adK adV b L sc s s.heap) (hB : B ≤ s.heap.size) (hd : decode (bt j) pc = .ok (raw, len)) (hk : xlk gt nst cls acl nM yn strs j pc len raw (.new ci)) (h : xs fty acl (.new ci) (pc + len) ls st m = some (pc', ls', st', m')) (hH : xH cls B sp sp0 D aC s m H locs) (hL : xLs B sp lsA (mx j) ls) (hc : cells + (m'.1 - m.1) ≤ R.cells) (hs : slots + (m'.2.1 - m.2.1) ≤ R.slots)
    (kk : ∀ (H' : Heap) (locs' : List Loc) (lsA' : Array Slot), xH cls B sp sp0 D aC s m' H' locs' → xLs B sp lsA' (mx j) ls' → W p l e R s mid args below meth c H' locs' (cells + (m'.1 - m.1)) (slots + (m'.2.1 - m.2.1)) Q (F0 mid pc' lsA' (st'.map (cv B sp)))) : W p l e R s mid args below meth c H locs cells slots Q (F0 mid pc lsA (st.map (cv B sp))) := by
  obtain ⟨hx, hb, hml, hown, hts, hnm⟩ := C0
  obtain ⟨q1, rfl, rfl, C, T, N, h1, h2⟩ := hk
  simp only [xs, x_new] at h
  split at h
  · rename_i hm
    cases h
    simp only [xnew, List.map_cons, Nat.add_sub_cancel_left] at kk hc hs ⊢
    rw [cv_ref hm] at kk
    obtain ⟨k1, k2, k3, k4, k5, k6⟩ := hcl.2 _ _ _ _ h1
    rw [k1] at kk hs
    have hKn := hE.1.1 ci _ h1
    have hall : ∀ k, k < N → parseFieldDescriptor (T k).2.2.1 = some ((fun k => (fty ci).getD k .int) k) := fun k hk9 => by
      rw [k3 k hk9, List.getElem?_eq_getElem (by omega)]
      simp [List.getD, List.getElem?_eq_getElem (show k < (fty ci).length by omega)]
    refine W.newcK hx hb hown (hts _ h2) (hts _ k5) (hts _ k6) rfl hd hc hs hKn.2.1 hH.2.1 fun H1 kC hkC e1 z1 o1 => ?_
    have hx0 := xH.new (c1 := .inr (ci, (fty ci).map defaultValue)) (sl := N) hB hH hm (by rw [z1, hH.2.1]) (fun q hq => o1 q (by rw [← hH.2.1]; exact hq)) ⟨_, h1, (u_born (fun k => (fty ci).getD k .int) hts k2 hKn hkC e1 hall).to (fun j hj => by
      show defaultValue ((fty ci).getD j .int) = vp_V (((fty ci).map defaultValue).map (cv B sp)) j
      have hj2 : j < (fty ci).length := by rw [k1]; exact hj
      simp only [vp_V, List.getD, List.getElem?_map, List.getElem?_eq_getElem hj2, Option.map_some, Option.getD_some]
      cases (fty ci)[j] <;> rfl)⟩
    exact kk H1 locs lsA hx0 hL
  · cases h
theorem sx_newarray {j pc len : Nat} {raw : Instr} {at_ : ArrayType} (haw : ∀ ty ∈ [FieldType.int, .byte, .long, .boolean], Cond.arrayClass ty ∈ gt) {ls st ls' st' : List Value} {m m' : xM} {pc' : Nat} {lsA : Array Slot} (hsp : xSp strs lens byt B sp adK adV b L sc sp0) (hcl : xCl gt cls fty) (C0 : xAct gt mx bt yn j p s mid args meth c) (hE : xE cls acl nst strs lens byt B sp D aC adK adV b L sc s s.heap) (hB : B ≤ s.heap.size) (hd : decode (bt j) pc = .ok (raw, len)) (hk : xlk gt nst cls acl nM yn strs j pc len raw (.newarray at_)) (h : xs fty acl (.newarray at_) (pc + len) ls st m = some (pc', ls', st', m')) (hH : xH cls B sp sp0 D aC s m H locs) (hL : xLs B sp lsA (mx j) ls) (hc : cells + (m'.1 - m.1) ≤ R.cells) (hs : slots + (m'.2.1 - m.2.1) ≤ R.slots)
    (kk : ∀ (H' : Heap) (locs' : List Loc) (lsA' : Array Slot), xH cls B sp sp0 D aC s m' H' locs' → xLs B sp lsA' (mx j) ls' → W p l e R s mid args below meth c H' locs' (cells + (m'.1 - m.1)) (slots + (m'.2.1 - m.2.1)) Q (F0 mid pc' lsA' (st'.map (cv B sp)))) : W p l e R s mid args below meth c H locs cells slots Q (F0 mid pc lsA (st.map (cv B sp))) := by
  obtain ⟨hx, hb, hml, hown, hts, hnm⟩ := C0
  obtain ⟨rfl, rfl⟩ := hk
  simp only [xs, x_newa] at h
  split at h
  · rename_i n r
    split at h
    · rename_i t f0 hak
      split at h
      · rename_i hm'
        obtain ⟨hm, hn, hle⟩ := hm'
        cases h
        simp only [xnew, List.map_cons, cv_int, Nat.add_sub_cancel_left] at kk hc hs ⊢
        rw [cv_ref hm] at kk
        have key : ∀ (ty : FieldType), newarray.typeOf at_ = ty → Cond.arrayClass ty ∈ gt → t < 7 → xat cls acl t = ty → s.vm.findClass ("[" ++ ty.toString) = some (aC t) → componentBytes ty ≤ 8 → (∀ cA' : ClassId, vp_cell cA' (n.toNatClampNeg, f0) = arrV cA' n.toNatClampNeg (fun _ => defaultValue ty)) → cA B f0 = f0 → W p l e R s mid args below meth c H locs cells slots Q (F0 mid pc lsA (.int n :: r.map (cv B sp))) := by
          intro ty hty hwd ht7 hxt hfc hcb hcell hcA
          subst hty
          refine va_newaK hx hb (hts _ hwd) rfl hd rfl hn rfl (Nat.le_trans (Nat.mul_le_mul hle hcb) (by decide)) hc hs hH.2.1 fun H1 cA' e1 z1 o1 hAr hNm => ?_
          have hcAe : cA' = aC t := Option.some.inj (hNm.symm.trans hfc)
          subst hcAe
          refine kk H1 locs lsA (xH.new (c1 := .inl (t, n.toNatClampNeg, f0)) hB hH hm (by rw [z1, hH.2.1]) (fun q hq => o1 q (by rw [← hH.2.1]; exact hq)) ?_) hL
          show H1[B + m.1]? = some (vp_cell (aC t) (n.toNatClampNeg, cA B f0))
          rw [hcA, hcell]
          exact e1
        cases at_ <;> simp only [xak, Option.some.injEq, Prod.mk.injEq, reduceCtorEq] at hak
        · obtain ⟨rfl, rfl⟩ := hak
          exact key .boolean rfl (haw _ (by simp)) (by decide) rfl (xE.arr hE 3 (by decide)).2 (by decide) (fun _ => rfl) rfl
        · obtain ⟨rfl, rfl⟩ := hak
          exact key .byte rfl (haw _ (by simp)) (by decide) rfl (xE.arr hE 1 (by decide)).2 (by decide) (fun _ => rfl) rfl
        · obtain ⟨rfl, rfl⟩ := hak
          exact key .int rfl (haw _ (by simp)) (by decide) rfl (xE.arr hE 0 (by decide)).2 (by decide) (fun _ => rfl) rfl
        · obtain ⟨rfl, rfl⟩ := hak
          exact key .long rfl (haw _ (by simp)) (by decide) rfl (xE.arr hE 2 (by decide)).2 (by decide) (fun _ => rfl) rfl
      · cases h
    · cases h
  · cases h
theorem sx_anewarray {j pc len : Nat} {raw : Instr} {t : Nat} {ls st ls' st' : List Value} {m m' : xM} {pc' : Nat} {lsA : Array Slot} (hsp : xSp strs lens byt B sp adK adV b L sc sp0) (hcl : xCl gt cls fty) (C0 : xAct gt mx bt yn j p s mid args meth c) (hE : xE cls acl nst strs lens byt B sp D aC adK adV b L sc s s.heap) (hB : B ≤ s.heap.size) (hd : decode (bt j) pc = .ok (raw, len)) (hk : xlk gt nst cls acl nM yn strs j pc len raw (.anewarray t)) (h : xs fty acl (.anewarray t) (pc + len) ls st m = some (pc', ls', st', m')) (hH : xH cls B sp sp0 D aC s m H locs) (hL : xLs B sp lsA (mx j) ls) (hc : cells + (m'.1 - m.1) ≤ R.cells) (hs : slots + (m'.2.1 - m.2.1) ≤ R.slots)
    (kk : ∀ (H' : Heap) (locs' : List Loc) (lsA' : Array Slot), xH cls B sp sp0 D aC s m' H' locs' → xLs B sp lsA' (mx j) ls' → W p l e R s mid args below meth c H' locs' (cells + (m'.1 - m.1)) (slots + (m'.2.1 - m.2.1)) Q (F0 mid pc' lsA' (st'.map (cv B sp)))) : W p l e R s mid args below meth c H locs cells slots Q (F0 mid pc lsA (st.map (cv B sp))) := by
  obtain ⟨hx, hb, hml, hown, hts, hnm⟩ := C0
  obtain ⟨q1, rfl, rfl, r0, hr0, h2⟩ := hk
  simp only [xs, x_anew] at h
  split at h
  · rename_i n r
    split at h
    · rename_i hm'
      obtain ⟨hm, ht4, ht7, hn, hle⟩ := hm'
      cases h
      simp only [xnew, List.map_cons, cv_int, Nat.add_sub_cancel_left] at kk hc hs ⊢
      rw [cv_ref hm] at kk
      have hover := hE.2.2.1 t ht4 ht7 r0 hr0
      have hRA := (xE.arr hE t ht7).2
      rw [xat_ob ht4, hr0] at hRA
      obtain ⟨kA0, comp0, k1, k2, k3, k4⟩ := hRA
      refine W.anew hx hb hown (hts _ h2) (va_AO.use hover) rfl hd rfl hn (Nat.le_trans (Nat.mul_le_mul_right 4 hle) (by decide)) hc hs fun cA' kA comp f1 f2 f3 f4 => ?_
      have hcAe : cA' = aC t := by
        first | exact Option.some.inj (f4.symm.trans k4) | exact Option.some.inj (f1.symm.trans k4) | exact Option.some.inj (f2.symm.trans k4) | exact Option.some.inj (f3.symm.trans k4)
      subst hcAe
      rw [hH.2.1]
      refine kk _ locs lsA (xH.new (c1 := .inl (t, n.toNatClampNeg, xrefs fun _ => none)) hB hH hm (by rw [Array.size_push]) (fun q hq => by rw [Array.getElem?_push, if_neg (Nat.ne_of_lt hq)]) ?_) hL
      show (H.push _)[B + m.1]? = some (vp_cell (aC t) (n.toNatClampNeg, xrefs (fun _ => none)))
      rw [← hH.2.1, Array.getElem?_push_size]
      show some _ = some (arrV (aC t) n.toNatClampNeg (fun _ => Value.null))
      rw [← arrV_new]
    · cases h
  · cases h
theorem sx_checkcast {j pc len : Nat} {raw : Instr} {q : Nat} {ls st ls' st' : List Value} {m m' : xM} {pc' : Nat} {lsA : Array Slot} (hsp : xSp strs lens byt B sp adK adV b L sc sp0) (hcl : xCl gt cls fty) (C0 : xAct gt mx bt yn j p s mid args meth c) (hE : xE cls acl nst strs lens byt B sp D aC adK adV b L sc s s.heap) (hB : B ≤ s.heap.size) (hd : decode (bt j) pc = .ok (raw, len)) (hk : xlk gt nst cls acl nM yn strs j pc len raw (.checkcast q)) (h : xs fty acl (.checkcast q) (pc + len) ls st m = some (pc', ls', st', m')) (hH : xH cls B sp sp0 D aC s m H locs) (hL : xLs B sp lsA (mx j) ls) (hc : cells + (m'.1 - m.1) ≤ R.cells) (hs : slots + (m'.2.1 - m.2.1) ≤ R.slots)
    (kk : ∀ (H' : Heap) (locs' : List Loc) (lsA' : Array Slot), xH cls B sp sp0 D aC s m' H' locs' → xLs B sp lsA' (mx j) ls' → W p l e R s mid args below meth c H' locs' (cells + (m'.1 - m.1)) (slots + (m'.2.1 - m.2.1)) Q (F0 mid pc' lsA' (st'.map (cv B sp)))) : W p l e R s mid args below meth c H locs cells slots Q (F0 mid pc lsA (st.map (cv B sp))) := by
  obtain ⟨hx, hb, hml, hown, hts, hnm⟩ := C0
  obtain ⟨q1, rfl, rfl, h2⟩ := hk
  simp only [xs, x_cast] at h
  split at h
  · rename_i a r
    split at h
    · rename_i ha
      split at h
      · rename_i x hca
        cases h
        simp only [Nat.sub_self, Nat.add_zero, List.map_cons, cv_int, cv_long, cv_null] at kk ⊢
        rw [cv_ref ha] at kk ⊢
        exact va_castA hx hb hown (hts _ h2) hH.1 a (x := (x.1, cA B x.2)) (pw_get hH.2.2.2 ha hca) (xE.arr hE 0 (by decide)).2 hd (kk H locs lsA hH hL)
      · cases h
    · cases h
  · cases h
end XO
end
section
/-! ONE STEP, AND THE WHOLE. -/
section XO
variable {gt nst : List Cond} {cls : List vw_C} {acl : Nat → Nat} {fty : Nat → List FieldType} {nM : Nat} {yn : Nat → MethodName} {strs : List (Nat × String × Nat × String)} {lens : List Nat} {byt : List (List Int32)}
variable {mx : Nat → Nat} {bt : Nat → ByteArray}
variable {B : Nat} {sp : Nat → Value} {sp0 : Nat → Option xC} {D : va_G} {aC : Nat → ClassId} {adK adV : Nat → Nat} {b L : Nat} {sc : Nat → Int32}
variable {p : Program} {l : Launch} {e : Env} {R : Room} {s : State} {mid : MethodId} {args : Array Value} {below : List Frame} {meth : Method} {c : Code} {H : Heap} {locs : List Loc} {cells slots : Nat} {Q : State → Prop}
theorem sx_step {j pc len : Nat} {raw : Instr} {i : Instr} (haw : ∀ ty ∈ [FieldType.int, .byte, .long, .boolean], Cond.arrayClass ty ∈ gt) {ls st ls' st' : List Value} {m m' : xM} {pc' : Nat} {lsA : Array Slot} (hsp : xSp strs lens byt B sp adK adV b L sc sp0) (hcl : xCl gt cls fty) (C0 : xAct gt mx bt yn j p s mid args meth c) (hE : xE cls acl nst strs lens byt B sp D aC adK adV b L sc s s.heap) (hB : B ≤ s.heap.size) (hd : decode (bt j) pc = .ok (raw, len)) (hk : xlk gt nst cls acl nM yn strs j pc len raw (i)) (h : xs fty acl (i) (pc + len) ls st m = some (pc', ls', st', m')) (hH : xH cls B sp sp0 D aC s m H locs) (hL : xLs B sp lsA (mx j) ls) (hc : cells + (m'.1 - m.1) ≤ R.cells) (hs : slots + (m'.2.1 - m.2.1) ≤ R.slots)
    (kk : ∀ (H' : Heap) (locs' : List Loc) (lsA' : Array Slot), xH cls B sp sp0 D aC s m' H' locs' → xLs B sp lsA' (mx j) ls' → W p l e R s mid args below meth c H' locs' (cells + (m'.1 - m.1)) (slots + (m'.2.1 - m.2.1)) Q (F0 mid pc' lsA' (st'.map (cv B sp)))) : W p l e R s mid args below meth c H locs cells slots Q (F0 mid pc lsA (st.map (cv B sp))) := by
  cases i
  case iadd => exact sx_iadd hsp hcl C0 hE hB hd hk h hH hL hc hs kk
  case isub => exact sx_isub hsp hcl C0 hE hB hd hk h hH hL hc hs kk
  case imul => exact sx_imul hsp hcl C0 hE hB hd hk h hH hL hc hs kk
  case iand => exact sx_iand hsp hcl C0 hE hB hd hk h hH hL hc hs kk
  case ior => exact sx_ior hsp hcl C0 hE hB hd hk h hH hL hc hs kk
  case ishl => exact sx_ishl hsp hcl C0 hE hB hd hk h hH hL hc hs kk
  case ishr => exact sx_ishr hsp hcl C0 hE hB hd hk h hH hL hc hs kk
  case iushr => exact sx_iushr hsp hcl C0 hE hB hd hk h hH hL hc hs kk
  case ladd => exact sx_ladd hsp hcl C0 hE hB hd hk h hH hL hc hs kk
  case lsub => exact sx_lsub hsp hcl C0 hE hB hd hk h hH hL hc hs kk
  case lmul => exact sx_lmul hsp hcl C0 hE hB hd hk h hH hL hc hs kk
  case land => exact sx_land hsp hcl C0 hE hB hd hk h hH hL hc hs kk
  case lor => exact sx_lor hsp hcl C0 hE hB hd hk h hH hL hc hs kk
  case lshl => exact sx_lshl hsp hcl C0 hE hB hd hk h hH hL hc hs kk
  case lcmp => exact sx_lcmp hsp hcl C0 hE hB hd hk h hH hL hc hs kk
  case i2l => exact sx_i2l hsp hcl C0 hE hB hd hk h hH hL hc hs kk
  case l2i => exact sx_l2i hsp hcl C0 hE hB hd hk h hH hL hc hs kk
  case i2b => exact sx_i2b hsp hcl C0 hE hB hd hk h hH hL hc hs kk
  case i2c => exact sx_i2c hsp hcl C0 hE hB hd hk h hH hL hc hs kk
  case idiv => exact sx_idiv hsp hcl C0 hE hB hd hk h hH hL hc hs kk
  case irem => exact sx_irem hsp hcl C0 hE hB hd hk h hH hL hc hs kk
  case ldiv => exact sx_ldiv hsp hcl C0 hE hB hd hk h hH hL hc hs kk
  case lrem => exact sx_lrem hsp hcl C0 hE hB hd hk h hH hL hc hs kk
  case dup => exact sx_dup hsp hcl C0 hE hB hd hk h hH hL hc hs kk
  case pop => exact sx_pop hsp hcl C0 hE hB hd hk h hH hL hc hs kk
  case dup2 => exact sx_dup2 hsp hcl C0 hE hB hd hk h hH hL hc hs kk
  case aconst_null => exact sx_aconst_null hsp hcl C0 hE hB hd hk h hH hL hc hs kk
  case iconst => exact sx_iconst hsp hcl C0 hE hB hd hk h hH hL hc hs kk
  case ldc2_w => exact sx_ldc2_w hsp hcl C0 hE hB hd hk h hH hL hc hs kk
  case iload => exact sx_iload hsp hcl C0 hE hB hd hk h hH hL hc hs kk
  case lload => exact sx_lload hsp hcl C0 hE hB hd hk h hH hL hc hs kk
  case aload => exact sx_aload hsp hcl C0 hE hB hd hk h hH hL hc hs kk
  case istore => exact sx_istore hsp hcl C0 hE hB hd hk h hH hL hc hs kk
  case lstore => exact sx_lstore hsp hcl C0 hE hB hd hk h hH hL hc hs kk
  case astore => exact sx_astore hsp hcl C0 hE hB hd hk h hH hL hc hs kk
  case iinc => exact sx_iinc hsp hcl C0 hE hB hd hk h hH hL hc hs kk
  case goto => exact sx_goto hsp hcl C0 hE hB hd hk h hH hL hc hs kk
  case ifCond => exact sx_ifCond hsp hcl C0 hE hB hd hk h hH hL hc hs kk
  case if_icmp => exact sx_if_icmp hsp hcl C0 hE hB hd hk h hH hL hc hs kk
  case ifnonnull => exact sx_ifnonnull hsp hcl C0 hE hB hd hk h hH hL hc hs kk
  case ifnull => exact sx_ifnull hsp hcl C0 hE hB hd hk h hH hL hc hs kk
  case tableswitch => exact sx_tableswitch hsp hcl C0 hE hB hd hk h hH hL hc hs kk
  case lookupswitch => exact sx_lookupswitch hsp hcl C0 hE hB hd hk h hH hL hc hs kk
  case ldc => exact sx_ldc hsp hcl C0 hE hB hd hk h hH hL hc hs kk
  case getstatic => exact sx_getstatic hsp hcl C0 hE hB hd hk h hH hL hc hs kk
  case getfield => exact sx_getfield hsp hcl C0 hE hB hd hk h hH hL hc hs kk
  case putfield => exact sx_putfield hsp hcl C0 hE hB hd hk h hH hL hc hs kk
  case iaload => exact sx_iaload hsp hcl C0 hE hB hd hk h hH hL hc hs kk
  case baload => exact sx_baload hsp hcl C0 hE hB hd hk h hH hL hc hs kk
  case laload => exact sx_laload hsp hcl C0 hE hB hd hk h hH hL hc hs kk
  case aaload => exact sx_aaload hsp hcl C0 hE hB hd hk h hH hL hc hs kk
  case arraylength => exact sx_arraylength hsp hcl C0 hE hB hd hk h hH hL hc hs kk
  case iastore => exact sx_iastore hsp hcl C0 hE hB hd hk h hH hL hc hs kk
  case bastore => exact sx_bastore hsp hcl C0 hE hB hd hk h hH hL hc hs kk
  case lastore => exact sx_lastore hsp hcl C0 hE hB hd hk h hH hL hc hs kk
  case aastore => exact sx_aastore hsp hcl C0 hE hB hd hk h hH hL hc hs kk
  case new => exact sx_new hsp hcl C0 hE hB hd hk h hH hL hc hs kk
  case newarray => exact sx_newarray haw hsp hcl C0 hE hB hd hk h hH hL hc hs kk
  case anewarray => exact sx_anewarray hsp hcl C0 hE hB hd hk h hH hL hc hs kk
  case checkcast => exact sx_checkcast hsp hcl C0 hE hB hd hk h hH hL hc hs kk
  all_goals (exact absurd h (by simp [xs]))
theorem xs_mono {i : Instr} {pc pc' : Nat} {ls st ls' st' : List Value} {m m' : xM} (h : xs fty acl i pc ls st m = some (pc', ls', st', m')) : m.1 ≤ m'.1 ∧ m.2.1 ≤ m'.2.1 := by
  cases i <;> simp only [xs, x_bin, x_binL, x_getf, x_putf, x_iald, x_bald, x_lald, x_aald, x_iast, x_bast, x_last, x_aast, x_alen, x_new, x_newa, x_anew, x_cast, reduceCtorEq] at h
  all_goals (repeat' (first | (cases h; done) | (split at h)))
  all_goals (first | (cases h; exact ⟨Nat.le_refl _, Nat.le_refl _⟩) | (cases h; simp only [xset, xnew]; omega))
theorem x_copy_mono {pc pc' : Nat} {ls st ls' st' : List Value} {m m' : xM} (h : x_copy pc ls st m = some (pc', ls', st', m')) : m.1 = m'.1 ∧ m.2.1 = m'.2.1 ∧ pc' = pc ∧ ls' = ls := by
  simp only [x_copy] at h
  repeat' (first | (cases h; done) | (split at h))
  all_goals (cases h; exact ⟨rfl, rfl, rfl, rfl⟩)
theorem x_clone_mono {pc pc' : Nat} {ls st ls' st' : List Value} {m m' : xM} (h : x_clone pc ls st m = some (pc', ls', st', m')) : m.1 ≤ m'.1 ∧ m.2.1 ≤ m'.2.1 := by
  simp only [x_clone] at h
  repeat' (first | (cases h; done) | (split at h))
  all_goals (cases h; simp only [xnew]; omega)
end XO
end
section
/-! THE INTERPRETER IS SOUND: what it comes to, the machine comes to. -/
section XO
variable {gt nst : List Cond} {cls : List vw_C} {acl : Nat → Nat} {fty : Nat → List FieldType} {nM : Nat} {yn : Nat → MethodName} {strs : List (Nat × String × Nat × String)} {lens : List Nat} {byt : List (List Int32)}
variable {mx : Nat → Nat} {bt : Nat → ByteArray}
variable {B : Nat} {sp : Nat → Value} {sp0 : Nat → Option xC} {D : va_G} {aC : Nat → ClassId} {adK adV : Nat → Nat} {b L : Nat} {sc : Nat → Int32}
variable {p : Program} {l : Launch} {e : Env} {R : Room} {s : State} {mid : MethodId} {args : Array Value} {below : List Frame} {meth : Method} {c : Code} {H : Heap} {locs : List Loc} {cells slots : Nat} {Q : State → Prop}
variable {G : Nat → Nat → Option (Instr × Nat)} {na np rc : Nat → Nat} {rk : Nat → FieldType} {rt : Nat → Option FieldType}
theorem xE.kept {U : State} {H H1 : Heap} (h : xE cls acl nst strs lens byt B sp D aC adK adV b L sc U H) (hbH : b < H.size) (hbB : b < B) (hq : ∀ a : Nat, a < H.size → ¬ (fun q => B ≤ q) a → H1[a]? = H[a]?) : xE cls acl nst strs lens byt B sp D aC adK adV b L sc U H1 := by
  obtain ⟨h1, h2, h3, h4, h5, h6, h7, h8⟩ := h
  exact ⟨h1, h2, h3, h4.kept hq, h5, h6.kept hq, h7.kept hq, h8.kept (hq b hbH (Nat.not_le.mpr hbB))⟩
theorem xE.warm {u U : State} {H : Heap} (hw : xWd gt nst) (h : xE cls acl nst strs lens byt B sp D aC adK adV b L sc u H) (hW : u.WarmedH U.vm) : xE cls acl nst strs lens byt B sp D aC adK adV b L sc U H := by
  obtain ⟨h1, h2, h3, h4, h5, h6, h7, h8⟩ := h
  have ha := hW.alike
  refine ⟨h1.moved ha, fun w hwn => ?_, fun t a1 a2 r a3 => (h3 t a1 a2 r a3).moved ha, h4.moved ha, fun q hq => (h5 q hq).warm hW, h6.moved ha, h7.moved ha, h8.moved ha⟩
  rcases hw.2.1 w hwn with ⟨a, i, y, hh, rfl⟩ | rfl
  · exact va_Nw.warmM hW (h2 _ hwn)
  · exact va_Nw.warmC hW (h2 _ hwn)
theorem xE.same {u U : State} {H : Heap} (hw : xWd gt nst) (h : xE cls acl nst strs lens byt B sp D aC adK adV b L sc u H) (hv : u.vm = U.vm) : xE cls acl nst strs lens byt B sp D aC adK adV b L sc U H := by
  obtain ⟨h1, h2, h3, h4, h5, h6, h7, h8⟩ := h
  have ha : u.vm.Alike U.vm := hv ▸ Vm.Alike.refl u.vm
  refine ⟨h1.moved ha, fun w hwn => ?_, fun t a1 a2 r a3 => (h3 t a1 a2 r a3).moved ha, h4.moved ha, fun q hq => (h5 q hq).same hv.symm, h6.moved ha, h7.moved ha, h8.moved ha⟩
  rcases hw.2.1 w hwn with ⟨a, i, y, hh, rfl⟩ | rfl
  · exact va_Nw.same rfl hv (h2 _ hwn)
  · exact va_Nw.same rfl hv (h2 _ hwn)
/-- a call's end -/
def xQ (cls : List vw_C) (B : Nat) (sp : Nat → Value) (D : va_G) (aC : Nat → ClassId) (r : Option Value) (m' : xM) : Array Value → State → Outcome → State → Prop := fun _ st oc t => (oc = .returned (r.map (cv B sp)) ∧ va_P D cls (pw B sp aC m') t.heap ∧ t.heap.size = B + m'.1) ∧ va_F (fun q => B ≤ q) st t
/-- a call's beginning -/
def xPc (cls : List vw_C) (acl : Nat → Nat) (nst : List Cond) (strs : List (Nat × String × Nat × String)) (lens : List Nat) (byt : List (List Int32)) (B : Nat) (sp : Nat → Value) (D : va_G) (aC : Nat → ClassId) (adK adV : Nat → Nat) (b L : Nat) (sc : Nat → Int32) (as : List Value) (m : xM) : Array Value → State → Prop := va_Pc (as.map (cv B sp)) (fun U => xE cls acl nst strs lens byt B sp D aC adK adV b L sc U U.heap ∧ B ≤ U.heap.size ∧ va_P D cls (pw B sp aC m) U.heap ∧ U.heap.size = B + m.1)
theorem xPc.blind (hw : xWd gt nst) {as : List Value} {m : xM} : FrameBlind (xPc cls acl nst strs lens byt B sp D aC adK adV b L sc as m) := fun a U g mk q => by
  obtain ⟨q0, q1, q2, q3, q4⟩ := q
  exact ⟨q0, xE.same hw (u := U) (U := U.calling g mk a) q1 rfl, q2, q3, q4⟩
theorem x_call {mc ms : Nat} {pc : Nat} {ls : Array Slot} {rest st0 : List Value} {a : Array Value} {m' : xM} {r : Option Value} {free : Addr → Prop} (hr : va_Run p l e R s mid args below meth c H locs cells slots mc ms (F0 mid pc ls st0) rest (xQ cls B sp D aC r m' a) free) (hS : va_S (fun q => B ≤ q) s.heap H locs) (hf : ∀ q, free q → B ≤ q) (hO : xOk sp0 m')
    (kk : ∀ (H1 : Heap) (locs1 : List Loc), xH cls B sp sp0 D aC s m' H1 locs1 → W p l e R s mid args below meth c H1 locs1 (cells + mc) (slots + ms) Q (F0 mid (pc + 3) ls ((r.map (cv B sp)).toList ++ rest))) : W p l e R s mid args below meth c H locs cells slots Q (F0 mid pc ls st0) := by
  intro T hT X
  obtain ⟨v, st₀, t, T', L, h0, X', hL, e1, e2, ⟨⟨hv, hP, hz0⟩, hz, hk⟩, st⟩ := hr T hT X
  cases hv
  rw [h0] at hz hk
  obtain ⟨t2, a1, b1⟩ := kk T'.heap (locs ++ L) ⟨by rw [e1]; exact hP, by rw [e1]; exact hz0, ⟨Nat.le_trans hS.1 (by rw [e1]; exact hz), fun q h1 h2 => by rw [e1, hk q (Nat.lt_of_lt_of_le h1 hS.1) h2]; exact hS.2.1 q h1 h2, fun q hq => by
      rcases List.mem_append.mp hq with h | h
      · exact hS.2.2 q h
      · exact hf _ (hL q h)⟩, hO⟩ T' rfl X'
  exact ⟨t2, st t2 a1, b1⟩
/-- arraycopy of ints -/
theorem sx_copy {j pc q1 : Nat} {ls st ls' st' : List Value} {m m' : xM} {pc' : Nat} {lsA : Array Slot} (hw : xWd gt nst) (hsp : xSp strs lens byt B sp adK adV b L sc sp0) (C0 : xAct gt mx bt yn j p s mid args meth c) (hE : xE cls acl nst strs lens byt B sp D aC adK adV b L sc s s.heap) (hd : decode (bt j) pc = .ok (.invokestatic q1, 3)) (hk : Cond.methodLink (yn j).cls q1 arraycopyName ∈ gt) (h : x_copy (pc + 3) ls st m = some (pc', ls', st', m')) (hH : xH cls B sp sp0 D aC s m H locs) (hL : xLs B sp lsA (mx j) ls) (hfr : 1 ≤ R.frames) (hlo : 64 ≤ R.locals)
    (kk : ∀ (H' : Heap) (locs' : List Loc), xH cls B sp sp0 D aC s m' H' locs' → W p l e R s mid args below meth c H' locs' cells slots Q (F0 mid pc' lsA (st'.map (cv B sp)))) : W p l e R s mid args below meth c H locs cells slots Q (F0 mid pc lsA (st.map (cv B sp))) := by
  obtain ⟨hx, hb, hml, hown, hts, hnm⟩ := C0
  simp only [x_copy] at h
  split at h
  · rename_i n dp a spx a0 r
    split at h
    · rename_i hh
      obtain ⟨ha, ha0, hcat, h1, h2, h3⟩ := hh
      split at h
      · rename_i n0 f hc0
        split at h
        · rename_i n1 g hc1
          split at h
          · rename_i hle
            obtain ⟨h4, h5⟩ := hle
            cases h
            simp only [List.map_cons, cv_int, cv_ref ha, cv_ref ha0] at kk ⊢
            have w0 := pw_get (B := B) (sp := sp) (aC := aC) hH.2.2.2 ha0 hc0
            have w1 := pw_get (B := B) (sp := sp) (aC := aC) hH.2.2.2 ha hc1
            have nn : ∀ z : Int32, ¬ z < 0 → z.toInt = (z.toNatClampNeg : Int) := by
              intro z hz
              have hz0 : (0 : Int) ≤ z.toInt := by
                have := Int32.not_lt.mp hz
                simpa using Int32.le_iff_toInt_le.mp this
              show z.toInt = ((z.toInt.toNat : Nat) : Int)
              omega
            intro T hT X
            have e0 : H[B + a0]? = some (vp_cell (aC 0) (n0, .inl f)) := hH.1 a0 _ w0
            have e1 : H[B + a]? = some (vp_cell (aC 0) (n1, .inl g)) := hH.1 a _ w1
            obtain ⟨-, k0, hk0, cm0, hkk0⟩ := (xE.arr hE 0 (by decide)).1 n0 (fun j => .int (f j))
            obtain ⟨-, k1, hk1, cm1, hkk1⟩ := (xE.arr hE 0 (by decide)).1 n1 (fun j => .int (g j))
            obtain ⟨vm', X', step⟩ := X.arraycopy hx hown (hts _ hk) (hts _ hw.2.2.2.2.2.1) (hts _ hw.2.2.2.2.2.2.1) (hts _ hw.2.2.2.2.2.2.2.1) (src := B + a0) (dst := B + a) (cs := vp_cell (aC 0) (n0, .inl f)) (cd := vp_cell (aC 0) (n1, .inl g)) (srcPos := spx) (destPos := dp) (n := n) (by rw [hT]; exact e0) (by rw [hT]; exact e1)
              (fun _ h => by cases h) (fun _ h => by cases h) (fun h => by cases h) (fun h => by cases h) hk0 hk1 hkk0 hkk1 (by simp [xat, refKind]) h1 h2 h3
              (by rw [nn spx h1, nn n h3]; show ¬ _ > ((arrV (aC 0) n0 (fun j => .int (f j))).slots.size : Int); rw [arrV_size]; omega)
              (by rw [nn dp h2, nn n h3]; show ¬ _ > ((arrV (aC 0) n1 (fun j => .int (g j))).slots.size : Int); rw [arrV_size]; omega)
              (fun vm₁ _ i hi => by
                have e : (vp_cell (aC 0) (n0, .inl f)).slots.getD (spx.toNatClampNeg + i) .null = .int (f (spx.toNatClampNeg + i)) := by
                  show (arrV (aC 0) n0 (fun j => .int (f j))).slots.getD _ _ = _
                  rw [Array.getD_eq_getD_getElem?, arrV_read _ _ (by omega)]
                  rfl
                refine ⟨?_, ?_⟩
                · rw [e]
                  rfl
                · rw [e]
                  exact trivial)
              (g := F0 mid pc lsA (.int n :: .int dp :: .ref (B + a) :: .int spx :: .ref (B + a0) :: List.map (cv B sp) st')) rfl (by rw [hml]; exact hL.2.1) (rest := List.map (cv B sp) st') rfl (by rw [hb]; exact hd) hfr (by
                rw [cv_cats hsp.1]
                show 2 * 0 + _ + (7 + 11) ≤ _
                omega)
            have e2 : copied (vp_cell (aC 0) (n0, .inl f)) (vp_cell (aC 0) (n1, .inl g)) spx dp n = vp_cell (aC 0) (n1, .inl (va_cpy f g spx.toNatClampNeg dp.toNatClampNeg n.toNatClampNeg)) := va_copied (fun z => .int z) (aC 0) (aC 0) f g h4
            rw [e2] at X' step
            have hl : B + a < H.size := (Array.getElem?_eq_some_iff.mp e1).1
            have hheap : ((T.setVm vm').setCell (B + a) (vp_cell (aC 0) (n1, .inl (va_cpy f g spx.toNatClampNeg dp.toNatClampNeg n.toNatClampNeg)))).heap = H.setIfInBounds (B + a) (vp_cell (aC 0) (n1, .inl (va_cpy f g spx.toNatClampNeg dp.toNatClampNeg n.toNatClampNeg))) := by rw [← hT]; rfl
            have oq : ∀ q : Nat, q ≠ B + a → (H.setIfInBounds (B + a) (vp_cell (aC 0) (n1, .inl (va_cpy f g spx.toNatClampNeg dp.toNatClampNeg n.toNatClampNeg))))[q]? = H[q]? := fun q hq => by simp [Array.getElem?_setIfInBounds, Ne.symm hq]
            have hx1 := hH.set (k := 0) (c1 := .inl (0, n1, xints (va_cpy f g spx.toNatClampNeg dp.toNatClampNeg n.toNatClampNeg))) ha hc1 (H1 := H.setIfInBounds (B + a) (vp_cell (aC 0) (n1, .inl (va_cpy f g spx.toNatClampNeg dp.toNatClampNeg n.toNatClampNeg)))) (by simp) oq (show (H.setIfInBounds (B + a) _)[B + a]? = some _ by simp [Array.getElem?_setIfInBounds, hl]; rfl)
            obtain ⟨t, a1, b1⟩ := kk _ _ ⟨hx1.1, hx1.2.1, ⟨hx1.2.2.1.1, hx1.2.2.1.2.1, fun q hq => by
                rcases List.mem_append.mp hq with h | h
                · exact hH.2.2.1.2.2 q h
                · obtain ⟨z, -, hz⟩ := List.mem_map.mp h
                  rw [← hz]
                  show B ≤ B + a
                  omega⟩, hx1.2.2.2⟩ _ hheap X'
            exact ⟨t, step t a1, b1⟩
          · cases h
        · cases h
      · cases h
    · cases h
  · cases h
/-- the clone of an array of ints -/
theorem sx_clone {j pc q1 : Nat} {ls st ls' st' : List Value} {m m' : xM} {pc' : Nat} {lsA : Array Slot} (hw : xWd gt nst) (hsp : xSp strs lens byt B sp adK adV b L sc sp0) (C0 : xAct gt mx bt yn j p s mid args meth c) (hE : xE cls acl nst strs lens byt B sp D aC adK adV b L sc s s.heap) (hB : B ≤ s.heap.size) (hd : decode (bt j) pc = .ok (.invokevirtual q1, 3)) (hk : Cond.methodLink (yn j).cls q1 ⟨"[I", "clone", "()Ljava/lang/Object;"⟩ ∈ gt) (h : x_clone (pc + 3) ls st m = some (pc', ls', st', m')) (hH : xH cls B sp sp0 D aC s m H locs) (hL : xLs B sp lsA (mx j) ls) (hfr : 1 ≤ R.frames) (hlo : 64 ≤ R.locals) (hc : cells + (m'.1 - m.1) ≤ R.cells) (hs : slots + (m'.2.1 - m.2.1) ≤ R.slots)
    (kk : ∀ (H' : Heap) (locs' : List Loc), xH cls B sp sp0 D aC s m' H' locs' → ls' = ls → W p l e R s mid args below meth c H' locs' (cells + (m'.1 - m.1)) (slots + (m'.2.1 - m.2.1)) Q (F0 mid pc' lsA (st'.map (cv B sp)))) : W p l e R s mid args below meth c H locs cells slots Q (F0 mid pc lsA (st.map (cv B sp))) := by
  obtain ⟨hx, hb, hml, hown, hts, hnm⟩ := C0
  obtain ⟨w1, w2, w3, w4, w5⟩ := hw.2.2.2.2.2.2.2.2
  simp only [x_clone] at h
  split at h
  · rename_i a r
    split at h
    · rename_i hh
      obtain ⟨ha, hm, hcat⟩ := hh
      split at h
      · rename_i n f hca
        cases h
        simp only [xnew, List.map_cons, cv_ref ha, cv_ref hm, Nat.add_sub_cancel_left] at kk hc hs ⊢
        have w0 := pw_get (B := B) (sp := sp) (aC := aC) hH.2.2.2 ha hca
        have hnm2 : s.vm.findClass "[I" = some (aC 0) := (xE.arr hE 0 (by decide)).2
        have hfit : ∀ (i : Nat) (v : Value), (vp_cell (aC 0) (n, .inl f)).slots[i]? = some v → fits .int v = true := by
          intro i v hv
          have hi : i < n := by
            have := (Array.getElem?_eq_some_iff.mp hv).1
            rw [vp_cell_i, arrV_size] at this
            exact this
          rw [vp_cell_i, arrV_read _ _ hi] at hv
          cases hv
          rfl
        obtain ⟨c0, t0', f1, f2, f3⟩ := Cond.castable_spec (va_Nw.use (A := args) rfl (hE.2.1 _ w5))
        cases hnm2.symm.trans f1
        intro T hT X
        have hcellT : T.heap[B + a]? = some (vp_cell (aC 0) (n, .inl f)) := by rw [hT]; exact hH.1 a _ w0
        obtain ⟨-, kA, hkA, comp, hkind⟩ := State.isArrayOf_alike X.warmed.alike ((xE.arr hE 0 (by decide)).1 0 (fun _ => .null))
        obtain ⟨-, kS, hkS, compS, hkindS⟩ := (xE.arr hE 0 (by decide)).1 0 (fun _ => .null)
        obtain ⟨vm', X', st⟩ := X.cloneArray hx hown (hts _ hk) (hts _ w1) (hts _ w2) (hts _ w3) (hts _ w4) (a := B + a) (cell := vp_cell (aC 0) (n, .inl f)) hcellT (fun k h => by cases h) (fun h => by cases h) hnm2 f2 f3
          (fun i v hv => by
            have hk' : T.vm.classes[aC 0]? = some kA := hkA
            have := hfit i v hv
            simpa [State.fitsSlot, State.slotType?, vp_cell, arrV, hk', hkind, xat] using this)
          (g := F0 mid pc lsA (.ref (B + a) :: List.map (cv B sp) r)) rfl (by rw [hml]; exact hL.2.1) rfl (by rw [hb]; exact hd) hfr (by
            rw [cv_cats hsp.1]
            show 2 * 0 + _ + 14 ≤ _
            omega) hc (by rw [show (vp_cell (aC 0) (n, .inl f)).slots.size = n from arrV_size _ _ _]; exact hs) (hloader := Vm.clonesLoader_of_array hkS hkindS)
        rw [show (vp_cell (aC 0) (n, .inl f)).slots.size = n from arrV_size _ _ _] at X'
        have hx1 := xH.new (c1 := .inl (0, n, xints f)) (sl := n) (H1 := H.push (vp_cell (aC 0) (n, .inl f))) hB hH hm (by rw [Array.size_push]) (fun q hq => by rw [Array.getElem?_push, if_neg (Nat.ne_of_lt hq)]) (show (H.push _)[B + m.1]? = some _ by rw [← hH.2.1, Array.getElem?_push_size]; rfl)
        obtain ⟨t, b1, b2⟩ := kk _ _ hx1 trivial ((T.setVm vm').pushCell (vp_cell (aC 0) (n, .inl f))) (by rw [← hT]; rfl) X'
        refine ⟨t, st t ?_, b2⟩
        rw [hT, hH.2.1]
        exact b1
      · cases h
    · cases h
  · cases h
end XO
end
section
/-! THE INTERPRETER IS SOUND: what it comes to, the machine comes to. -/
section XO
variable {gt nst : List Cond} {cls : List vw_C} {acl : Nat → Nat} {fty : Nat → List FieldType} {nM : Nat} {yn : Nat → MethodName} {strs : List (Nat × String × Nat × String)} {lens : List Nat} {byt : List (List Int32)}
variable {mx : Nat → Nat} {bt : Nat → ByteArray}
variable {B : Nat} {sp : Nat → Value} {sp0 : Nat → Option xC} {D : va_G} {aC : Nat → ClassId} {adK adV : Nat → Nat} {b L : Nat} {sc : Nat → Int32}
variable {p : Program} {l : Launch} {e : Env} {R : Room} {s : State} {mid : MethodId} {args : Array Value} {below : List Frame} {meth : Method} {c : Code} {H : Heap} {locs : List Loc} {cells slots : Nat} {Q : State → Prop}
variable {G : Nat → Nat → Option (Instr × Nat)} {na np rc : Nat → Nat} {rk : Nat → FieldType} {rt : Nat → Option FieldType}
theorem ix_mono : ∀ (n d j pc : Nat) (ls st : List Value) (m : xM) (r : Option Value) (m' : xM), ix G fty acl na mx rc rk n d j pc ls st m = some (r, m') → m.1 ≤ m'.1 ∧ m.2.1 ≤ m'.2.1 := by
  intro n
  induction n with
  | zero => intro d j pc ls st m r m' h; cases h
  | succ n ih =>
    intro d j pc ls st m r m' h
    have h : ixB G fty acl na mx rc rk (ix G fty acl na mx rc rk n) d j pc ls st m = some (r, m') := h
    unfold ixB at h
    split at h
    · cases h
    · split at h
      · split at h
        · split at h
          · cases h; exact ⟨Nat.le_refl _, Nat.le_refl _⟩
          · cases h
        · cases h
      · split at h
        · cases h; exact ⟨Nat.le_refl _, Nat.le_refl _⟩
        · cases h
      · split at h
        · split at h
          · cases h; exact ⟨Nat.le_refl _, Nat.le_refl _⟩
          · cases h
        · cases h
      · split at h
        · cases h; exact ⟨Nat.le_refl _, Nat.le_refl _⟩
        · cases h
      · split at h
        · cases h
        · split at h
          · split at h
            · cases h
            · rename_i h1
              have a := x_clone_mono h1
              have b := ih _ _ _ _ _ _ _ _ h
              omega
          · split at h
            · cases h
            · split at h
              · split at h
                · cases h
                · rename_i h1
                  have a := ih _ _ _ _ _ _ _ _ h1
                  have b := ih _ _ _ _ _ _ _ _ h
                  omega
              · cases h
      · split at h
        · cases h
        · split at h
          · split at h
            · cases h
            · rename_i h1
              have a := x_copy_mono h1
              have b := ih _ _ _ _ _ _ _ _ h
              omega
          · split at h
            · cases h
            · split at h
              · cases h
              · rename_i h1
                have a := ih _ _ _ _ _ _ _ _ h1
                have b := ih _ _ _ _ _ _ _ _ h
                omega
      · split at h
        · cases h
        · split at h
          · split at h
            · split at h
              · exact ih _ _ _ _ _ _ _ _ h
              · cases h
            · cases h
          · split at h
            · cases h
            · split at h
              · split at h
                · cases h
                · rename_i h1
                  have a := ih _ _ _ _ _ _ _ _ h1
                  have b := ih _ _ _ _ _ _ _ _ h
                  omega
              · cases h
      · split at h
        · cases h
        · rename_i h1
          have a := xs_mono h1
          have b := ih _ _ _ _ _ _ _ _ h
          omega
/-- a return at pc, with the answer r -/
def xRet (bt : Nat → ByteArray) (rk : Nat → FieldType) (rt : Nat → Option FieldType) (j : Nat) (r : Option Value) (pc : Nat) : Prop := match r with
  | none => decode (bt j) pc = .ok (.return_, 1) ∧ rt j = none
  | some (.int v) => decode (bt j) pc = .ok (.ireturn, 1) ∧ rt j = some (rk j) ∧ narrow (rk j) (.int v) = .int v
  | some (.long _) => decode (bt j) pc = .ok (.lreturn, 1) ∧ rt j = some .long
  | some (.ref v) => decode (bt j) pc = .ok (.areturn, 1) ∧ (∃ ty, rt j = some ty ∧ ((∃ n, ty = .object n) ∨ ∃ t, ty = .array t)) ∧ v < xS
  | _ => False
theorem x_arg_spec {k : Nat} {st as rest : List Value} (h : x_arg na mx k st = some (as, rest)) : st = as.reverse ++ rest ∧ as.length = na k ∧ xcat rest ≤ 8 ∧ (xlo as).length ≤ mx k := by
  unfold x_arg at h
  split at h
  · rename_i hh
    cases h
    refine ⟨by rw [List.reverse_reverse, List.take_append_drop], by simp; omega, hh.2.1, hh.2.2⟩
  · cases h
theorem xs_ok {i : Instr} {pc pc' : Nat} {ls st ls' st' : List Value} {m m' : xM} (h : xs fty acl i pc ls st m = some (pc', ls', st', m')) (hO : xOk sp0 m) : xOk sp0 m' := by
  cases i <;> simp only [xs, x_bin, x_binL, x_getf, x_putf, x_iald, x_bald, x_lald, x_aald, x_iast, x_bast, x_last, x_aast, x_alen, x_new, x_newa, x_anew, x_cast, reduceCtorEq] at h
  all_goals (repeat' (first | (cases h; done) | (split at h)))
  all_goals (first
    | (cases h; exact hO)
    | (cases h; exact hO.set (by assumption) (by assumption))
    | (cases h; exact hO.set (And.left (by assumption)) (by assumption))
    | (cases h; exact hO.new (by assumption))
    | (cases h; exact hO.new (And.left (by assumption))))
theorem x_copy_ok {pc pc' : Nat} {ls st ls' st' : List Value} {m m' : xM} (h : x_copy pc ls st m = some (pc', ls', st', m')) (hO : xOk sp0 m) : xOk sp0 m' := by
  simp only [x_copy] at h
  repeat' (first | (cases h; done) | (split at h))
  all_goals (cases h; exact hO.set (And.left (by assumption)) (by assumption))
theorem x_clone_ok {pc pc' : Nat} {ls st ls' st' : List Value} {m m' : xM} (h : x_clone pc ls st m = some (pc', ls', st', m')) (hO : xOk sp0 m) : xOk sp0 m' := by
  simp only [x_clone] at h
  repeat' (first | (cases h; done) | (split at h))
  all_goals (rename_i q _ _ _ _; cases h; exact hO.new q.2.1)
theorem ix_ok : ∀ (n d j pc : Nat) (ls st : List Value) (m : xM) (r : Option Value) (m' : xM), ix G fty acl na mx rc rk n d j pc ls st m = some (r, m') → xOk sp0 m → xOk sp0 m' := by
  intro n
  induction n with
  | zero => intro d j pc ls st m r m' h; cases h
  | succ n ih =>
    intro d j pc ls st m r m' h hO
    have h : ixB G fty acl na mx rc rk (ix G fty acl na mx rc rk n) d j pc ls st m = some (r, m') := h
    unfold ixB at h
    repeat' (first | (cases h; done) | (split at h))
    all_goals (first
      | (cases h; exact hO)
      | (rename_i h1; exact ih _ _ _ _ _ _ _ _ h (ih _ _ _ _ _ _ _ _ h1 hO))
      | (rename_i h1; exact ih _ _ _ _ _ _ _ _ h (xs_ok h1 hO))
      | (rename_i h1; exact ih _ _ _ _ _ _ _ _ h (x_copy_ok h1 hO))
      | (rename_i h1; exact ih _ _ _ _ _ _ _ _ h (x_clone_ok h1 hO))
      | (exact ih _ _ _ _ _ _ _ _ h hO))
end XO
end
section
/-! THE INTERPRETER IS SOUND: what it comes to, the machine comes to. -/
section XO
variable {gt nst : List Cond} {cls : List vw_C} {acl : Nat → Nat} {fty : Nat → List FieldType} {nM : Nat} {yn : Nat → MethodName} {strs : List (Nat × String × Nat × String)} {lens : List Nat} {byt : List (List Int32)}
variable {mx : Nat → Nat} {bt : Nat → ByteArray}
variable {B : Nat} {sp : Nat → Value} {sp0 : Nat → Option xC} {D : va_G} {aC : Nat → ClassId} {adK adV : Nat → Nat} {b L : Nat} {sc : Nat → Int32}
variable {p : Program} {l : Launch} {e : Env} {R : Room} {s : State} {mid : MethodId} {args : Array Value} {below : List Frame} {meth : Method} {c : Code} {H : Heap} {locs : List Loc} {cells slots : Nat} {Q : State → Prop}
variable {G : Nat → Nat → Option (Instr × Nat)} {na np rc : Nat → Nat} {rk : Nat → FieldType} {rt : Nat → Option FieldType}
def xrm (d mc ms : Nat) : Room := { frames := d, cells := mc, slots := ms, locals := 64 * d }
/-- what the interpreter comes to with fuel n, the machine comes to -/
def xSnd (gt nst : List Cond) (cls : List vw_C) (acl : Nat → Nat) (fty : Nat → List FieldType) (nM : Nat) (yn : Nat → MethodName) (strs : List (Nat × String × Nat × String)) (lens : List Nat) (byt : List (List Int32)) (mx : Nat → Nat) (bt : Nat → ByteArray) (G : Nat → Nat → Option (Instr × Nat)) (na rc : Nat → Nat) (rk : Nat → FieldType) (rt : Nat → Option FieldType) (l : Launch) (B : Nat) (sp : Nat → Value) (sp0 : Nat → Option xC) (D : va_G) (aC : Nat → ClassId) (adK adV : Nat → Nat) (b L : Nat) (sc : Nat → Int32) (n : Nat) : Prop :=
  ∀ (d j pc : Nat) (ls st : List Value) (m : xM) (r : Option Value) (m' : xM), ix G fty acl na mx rc rk n d j pc ls st m = some (r, m') → j < nM + 1 →
    ∀ (p : Program) (e : Env) (R : Room) (s : State) (mid : MethodId) (args : Array Value) (below : List Frame) (meth : Method) (c : Code) (H : Heap) (locs : List Loc) (cells slots : Nat) (Q : State → Prop) (lsA : Array Slot),
      xAct gt mx bt yn j p s mid args meth c → xE cls acl nst strs lens byt B sp D aC adK adV b L sc s s.heap → B ≤ s.heap.size → xH cls B sp sp0 D aC s m H locs → xLs B sp lsA (mx j) ls → d ≤ R.frames → 64 * d ≤ R.locals → cells + (m'.1 - m.1) ≤ R.cells → slots + (m'.2.1 - m.2.1) ≤ R.slots →
      (∀ (H' : Heap) (locs' : List Loc) (lsA' : Array Slot) (pc' : Nat), xH cls B sp sp0 D aC s m' H' locs' → xRet bt rk rt j r pc' → W p l e R s mid args below meth c H' locs' (cells + (m'.1 - m.1)) (slots + (m'.2.1 - m.2.1)) Q (F0 mid pc' lsA' (r.toList.map (cv B sp)))) →
      W p l e R s mid args below meth c H locs cells slots Q (F0 mid pc lsA (st.map (cv B sp)))
theorem x_met {n d k : Nat} {as : List Value} {m m' : xM} {r : Option Value} (hw : xWd gt nst) (hme : xMe gt mx bt yn nM np rt) (hsp : xSp strs lens byt B sp adK adV b L sc sp0) (ih : xSnd gt nst cls acl fty nM yn strs lens byt mx bt G na rc rk rt l B sp sp0 D aC adK adV b L sc n) (hk : k < nM) (hO : xOk sp0 m) (hlen : (xlo as).length ≤ mx k) (h : ix G fty acl na mx rc rk n d k 0 (xent (mx k) as) [] m = some (r, m')) :
    Met l (yn k) (Cond.code (yn k) (bt k) (mx k) (rt k) :: gt) (xrm d (m'.1 - m.1) (m'.2.1 - m.2.1)) (xPc cls acl nst strs lens byt B sp D aC adK adV b L sc as m) (xQ cls B sp D aC r m') (m'.1 - m.1) (m'.2.1 - m.2.1) (fun q => B ≤ q) := by
  obtain ⟨h1, h2, h3, h4, h5, h6, h7⟩ := hme.2 k hk
  refine va_MetF (cc := bt k) (maxL := mx k) (ret := rt k) h3 rfl ?_
  intro p e s m0 args below meth c s₁ Bd hml hv
  obtain ⟨rfl, hE, hB, hP, hz⟩ := hv
  have hx := Bd.exec
  have hb := Bd.bytes
  have hr := Bd.returns
  have hts := atoms_spec (ws := Cond.code (yn k) (bt k) (mx k) (rt k) :: gt) Bd.pre
  have hown : s.vm.findClass (yn k).cls = some m0.cls := findClass_of_methodNamed Bd.named
  have hlocks := Bd.notSynchronized
  have hin : (yn k).name = "<init>" → meth.name = "<init>" := fun h => (name_of_methodNamed Bd.named Bd.method).1.trans h
  rw [lg_entry_eq]
  have hL := xLs.entry (B := B) (sp := sp) hsp.1 hlen
  generalize ((lg_sl (as.map (cv B sp)) ++ List.replicate (mx k - (lg_sl (as.map (cv B sp))).length) Slot.unset).toArray) = lsA at hL ⊢
  refine ih d k 0 (xent (mx k) as) [] m r m' h (by omega) p e _ s m0 _ below meth c s.heap [] 0 0 _ lsA ⟨hx, hb, hml, hown, fun w hw' => hts w (List.mem_cons_of_mem _ hw'), hin⟩ hE hB ⟨hP, hz, va_S.rf, hO⟩ hL (Nat.le_refl _) (Nat.le_refl _) (by simp [headSpec, xrm]) (by simp [headSpec, xrm]) ?_
  intro H' locs' lsA' pc' hH' hret
  simp only [Nat.zero_add]
  have hq : ∀ t : State, t.heap = H' → s.WarmedH t.vm → xQ cls B sp D aC r m' (as.map (cv B sp)).toArray s (.returned (r.map (cv B sp))) t := fun t ht _ => ⟨⟨rfl, by rw [ht]; exact hH'.1, by rw [ht]; exact hH'.2.1⟩, hH'.2.2.1.F ht⟩
  match r, hret, hq with
  | none, hret, hq => exact W.vret hx hb (hr.trans hret.2) hq hH'.2.2.1.2.2 hret.1
  | some (.int v), hret, hq => exact W.zret hx hb (hr.trans hret.2.1) hret.2.2 hq hH'.2.2.1.2.2 hret.1
  | some (.long v), hret, hq => exact W.lret hx hb (hr.trans hret.2) hq hH'.2.2.1.2.2 hret.1
  | some (.ref v), hret, hq =>
    obtain ⟨g1, ⟨ty, g2, g3⟩, g4⟩ := hret
    exact W.aret hx hb (hr.trans g2) g3 (Or.inr ⟨_, cv_ref g4⟩) hq hH'.2.2.1.2.2 g1
  | some (.float _), hret, _ => exact hret.elim
  | some (.double _), hret, _ => exact hret.elim
  | some .null, hret, _ => exact hret.elim
  | some (.retAddr _), hret, _ => exact hret.elim
/-- what a call needs of the tables -/
theorem x_cb {j k q1 d mc ms : Nat} (hw : xWd gt nst) (hme : xMe gt mx bt yn nM np rt) (hk : k < nM) (hts : ∀ w ∈ gt, w.before args s = true) (hfr : d + 1 ≤ R.frames) (hlo : 64 * (d + 1) ≤ R.locals) (hl : Cond.methodLink (yn j).cls q1 (yn k) ∈ gt) : CallB R s args (yn j).cls q1 (yn k) (bt k) (mx k) (rt k) (Cond.code (yn k) (bt k) (mx k) (rt k) :: gt) (xrm d mc ms) mc ms (np k) := by
  obtain ⟨h1, h2, h3, h4, h5, h6, h7⟩ := hme.2 k hk
  have hG : GoodIn gt (Cond.code (yn k) (bt k) (mx k) (rt k) :: gt) := by
    intro w hw'
    have hm : w ∈ gt := by
      rcases List.mem_cons.mp hw' with rfl | h
      · exact h1
      · exact h
    exact ⟨hm, good_of_word (hw.1 w hm)⟩
  refine ⟨rfl, rfl, hfr, by simp only [xrm]; omega, pay_in hts hG, List.mem_cons_self, hts _ h1, hts _ h2, ⟨h4, h5⟩, fun sig h => ?_, hts _ hl⟩
  rw [h] at h7
  exact (Option.some.inj h7).symm
theorem x_pre {as : List Value} {m : xM} (hw : xWd gt nst) (hsp : xSp strs lens byt B sp adK adV b L sc sp0) (hE : xE cls acl nst strs lens byt B sp D aC adK adV b L sc s s.heap) (hB : B ≤ s.heap.size) (hH : xH cls B sp sp0 D aC s m H locs) : ∀ U : State, U.heap = H → s.WarmedH U.vm → xPc cls acl nst strs lens byt B sp D aC adK adV b L sc as m (as.map (cv B sp)).toArray U := by
  intro U hU hW
  refine ⟨rfl, ?_, by rw [hU]; exact Nat.le_trans hB hH.2.2.1.1, by rw [hU]; exact hH.1, by rw [hU]; exact hH.2.1⟩
  rw [hU]
  exact xE.warm hw (hE.kept (Nat.lt_of_lt_of_le hsp.2.2.1 hB) hsp.2.2.1 hH.2.2.1.2.1) hW
theorem x_map (as rest : List Value) : (as.reverse ++ rest).map (cv B sp) = (as.map (cv B sp)).reverse ++ rest.map (cv B sp) := by
  rw [List.map_append, List.map_reverse]
theorem x_rest (hsp : ∀ i, (sp i).category = 1) {pc : Nat} {lsA : Array Slot} {st rest : List Value} (h : xcat rest ≤ 8) : 2 * (F0 mid pc lsA st).monitorRoom + ((rest.map (cv B sp)).map fun v => v.category).sum ≤ 8 := lv_room (by rw [cv_cats hsp]; exact h)
theorem x_opt (r : Option Value) (rest : List Value) : (r.map (cv B sp)).toList ++ rest.map (cv B sp) = (r.toList ++ rest).map (cv B sp) := by
  cases r <;> simp
set_option maxHeartbeats 4000000 in
theorem ix_sound (hw : xWd gt nst) (hcl : xCl gt cls fty) (hme : xMe gt mx bt yn nM np rt) (hgo : xGo gt nst cls acl nM yn strs bt G na np rc rk rt) (hsp : xSp strs lens byt B sp adK adV b L sc sp0) : ∀ n, xSnd gt nst cls acl fty nM yn strs lens byt mx bt G na rc rk rt l B sp sp0 D aC adK adV b L sc n := by
  intro n
  induction n with
  | zero => intro d j pc ls st m r m' h; cases h
  | succ n ih =>
    intro d j pc ls st m r m' h hj p e R s mid args below meth c H locs cells slots Q lsA C0 hE hB hH hL hfr hlo hc hs hret
    have C1 := C0
    obtain ⟨hx, hb, hml, hown, hts, hnm⟩ := C1
    replace h : ixB G fty acl na mx rc rk (ix G fty acl na mx rc rk n) d j pc ls st m = some (r, m') := h
    unfold ixB at h
    split at h
    · cases h
    · rename_i i len hGi
      obtain ⟨raw, hd, hk, hk2⟩ := hgo j pc i len hj hGi
      split at h
      · -- ireturn
        split at h
        · split at h
          · rename_i hn
            cases h
            obtain ⟨rfl, rfl⟩ := hk
            simp only [Nat.sub_self, Nat.add_zero] at hret
            exact hret H locs lsA pc hH ⟨hd, hk2, hn⟩
          · cases h
        · cases h
      · split at h
        · cases h
          obtain ⟨rfl, rfl⟩ := hk
          simp only [Nat.sub_self, Nat.add_zero] at hret
          exact hret H locs lsA pc hH ⟨hd, hk2⟩
        · cases h
      · split at h
        · split at h
          · rename_i hv
            cases h
            obtain ⟨rfl, rfl⟩ := hk
            simp only [Nat.sub_self, Nat.add_zero] at hret
            exact hret H locs lsA pc hH ⟨hd, hk2, hv⟩
          · cases h
        · cases h
      · split at h
        · cases h
          obtain ⟨rfl, rfl⟩ := hk
          simp only [Nat.sub_self, Nat.add_zero] at hret
          exact hret H locs lsA pc hH ⟨hd, hk2⟩
        · cases h
      · -- invokevirtual
        rename_i k
        obtain ⟨q1, rfl, rfl, hkk⟩ := hk
        cases d with
        | zero => cases h
        | succ d' =>
          dsimp only at h
          split at h
          · rename_i hk9
            split at h
            · cases h
            · rename_i pc1 ls1 st1 m1 h1
              have hl1 : Cond.methodLink (yn j).cls q1 ⟨"[I", "clone", "()Ljava/lang/Object;"⟩ ∈ gt := by
                rcases hkk with ⟨-, h⟩ | ⟨h2, -⟩
                · exact h
                · exact absurd h2 (by have := hme.1; omega)
              have mo1 := x_clone_mono h1
              have mo2 := ix_mono _ _ _ _ _ _ _ _ _ h
              refine sx_clone hw hsp C0 hE hB hd hl1 h1 hH hL (by omega) (by omega) (by omega) (by omega) (fun H1 locs1 hH1 hls => ?_)
              subst hls
              have e1 : cells + (m1.1 - m.1) + (m'.1 - m1.1) = cells + (m'.1 - m.1) := by omega
              have e2 : slots + (m1.2.1 - m.2.1) + (m'.2.1 - m1.2.1) = slots + (m'.2.1 - m.2.1) := by omega
              refine ih (d' + 1) j _ _ _ m1 r m' h hj p e R s mid args below meth c H1 locs1 _ _ Q lsA C0 hE hB hH1 hL hfr hlo (by rw [e1]; exact hc) (by rw [e2]; exact hs) ?_
              rw [e1, e2]
              exact hret
          rename_i hk9
          obtain ⟨hkn, hl1, hl2, hl3⟩ : k < nM ∧ Cond.methodLink (yn j).cls q1 (yn k) ∈ gt ∧ Cond.instanceMethod (yn k) ∈ gt ∧ Cond.selects (yn k).cls (yn k) (yn k) ∈ gt := by
            rcases hkk with ⟨h, -⟩ | h
            · exact absurd h hk9
            · exact h
          replace hk2 : na k = np k + 1 ∧ ((∃ r, cls[rc k]? = some r ∧ r.1 = (yn k).cls) ∨ (rc k = 90 ∧ (yn k).cls = "java/lang/String")) := by
            rcases hk2 with h | h
            · exact absurd h hk9
            · exact h
          split at h
          · cases h
          · rename_i as rest harg
            split at h
            · rename_i hrcv
              split at h
              · cases h
              · rename_i r1 m1 h1
                obtain ⟨rfl, hlen, hcat, hlo2⟩ := x_arg_spec harg
                have mo1 := ix_mono _ _ _ _ _ _ _ _ _ h1
                have mo2 := ix_mono _ _ _ _ _ _ _ _ _ h
                have hO1 := ix_ok _ _ _ _ _ _ _ _ _ h1 hH.2.2.2
                have hM := x_met hw hme hsp ih hkn hH.2.2.2 hlo2 h1
                match as, hrcv, hlen, hlo2, harg, h1, hM with
                | [], hrcv, _, _, _, _, _ => simp [x_rcv] at hrcv
                | .ref a :: as, hrcv, hlen, hlo2, harg, h1, hM =>
                  have hn1 : (as.map (cv B sp)).length = np k := by
                    have := hk2.1
                    simp at hlen ⊢
                    omega
                  have hrc : ∃ aa cellB, cv B sp (.ref a) = .ref aa ∧ H[aa]? = some cellB ∧ cellB.vm.isStatics = false ∧ s.vm.findClass (yn k).cls = some cellB.cls := by
                    simp only [x_rcv] at hrcv
                    split at hrcv
                    · rename_i ci fs hca
                      have hci : ci = rc k := by simpa using hrcv
                      subst hci
                      by_cases ha : a < xS
                      · rcases hk2.2 with ⟨r0, hr0, hr1⟩ | ⟨h90, -⟩
                        · obtain ⟨cell, g1, g2, g3⟩ := va_recv hE.1 hH.1 hr0 (pw_get hH.2.2.2 ha hca)
                          exact ⟨_, cell, cv_ref ha, g1, g2, by rw [← hr1]; exact g3⟩
                        · obtain ⟨r', hr', -⟩ := hH.1 a _ (pw_get hH.2.2.2 ha hca)
                          dsimp only [cC] at hr'
                          rw [h90] at hr'
                          exact (x_cat_ne hcl.1 hr').elim
                      · obtain ⟨-, h5⟩ := hsp.2.2.2.2.2.2 a _ (hH.2.2.2.spec ha hca)
                        rcases h5 with ⟨i, hi, rfl, h6⟩ | ⟨i, hi, rfl, h6⟩ | ⟨rfl, h6⟩
                        · simp only [Sum.inr.injEq, Prod.mk.injEq] at h6
                          rcases hk2.2 with ⟨r0, hr0, hr1⟩ | ⟨h90, hstr⟩
                          · rw [h6.1] at hr0
                            exact (x_cat_ne hcl.1 hr0).elim
                          · obtain ⟨cell, g1, g2, g3⟩ := vk_recv hE.2.2.2.1 hi hH.2.2.1
                            exact ⟨_, cell, by rw [cv_sp]; exact (hsp.2.2.2.2.1 i hi).1, g1, g2, by rw [hstr]; exact g3⟩
                        · cases h6
                        · cases h6
                    · cases hrcv
                  obtain ⟨aa, cellB, ea, hcell⟩ := hrc
                  have hrun := va_runV (g := F0 mid pc lsA (((Value.ref a :: as).reverse ++ rest).map (cv B sp))) (As := as.map (cv B sp)) (rest := rest.map (cv B sp)) (H := H) (locs := locs) (cells := cells) (slots := slots) (e := e) (below := below) (meth := meth) (b := aa) ⟨hx, hb, hml, hown, hts⟩ hM ⟨x_cb (j := j) (q1 := q1) hw hme hkn hts hfr hlo hl1, hts _ hl2, hts _ hl3⟩ ⟨xPc.blind hw, ⟨cellB, hcell⟩, fun U hU hW => by
                    have := x_pre (as := .ref a :: as) hw hsp hE hB hH U hU hW
                    rw [List.map_cons, ea] at this
                    exact this⟩ rfl hn1 hL.2.1 (by rw [x_map, List.map_cons, ea]; simp) (x_rest hsp.1 hcat) hd ⟨by omega, by omega⟩
                  refine x_call hrun hH.2.2.1 (fun _ h => h) hO1 (fun H1 locs1 hH1 => ?_)
                  rw [x_opt]
                  have e1 : cells + (m1.1 - m.1) + (m'.1 - m1.1) = cells + (m'.1 - m.1) := by omega
                  have e2 : slots + (m1.2.1 - m.2.1) + (m'.2.1 - m1.2.1) = slots + (m'.2.1 - m.2.1) := by omega
                  refine ih (d' + 1) j (pc + 3) ls _ m1 r m' h hj p e R s mid args below meth c H1 locs1 _ _ Q lsA C0 hE hB hH1 hL hfr hlo (by rw [e1]; exact hc) (by rw [e2]; exact hs) ?_
                  rw [e1, e2]
                  exact hret
                | .int _ :: _, hrcv, _, _, _, _, _ => simp [x_rcv] at hrcv
                | .long _ :: _, hrcv, _, _, _, _, _ => simp [x_rcv] at hrcv
                | .float _ :: _, hrcv, _, _, _, _, _ => simp [x_rcv] at hrcv
                | .double _ :: _, hrcv, _, _, _, _, _ => simp [x_rcv] at hrcv
                | .null :: _, hrcv, _, _, _, _, _ => simp [x_rcv] at hrcv
                | .retAddr _ :: _, hrcv, _, _, _, _, _ => simp [x_rcv] at hrcv
            · cases h
      · -- invokestatic
        rename_i k
        obtain ⟨q1, rfl, rfl, hkk⟩ := hk
        cases d with
        | zero => cases h
        | succ d' =>
          dsimp only at h
          split at h
          · rename_i hk9
            split at h
            · cases h
            · rename_i pc1 ls1 st1 m1 h1
              have hl1 : Cond.methodLink (yn j).cls q1 arraycopyName ∈ gt := by
                rcases hkk with ⟨-, h⟩ | ⟨h2, -⟩
                · exact h
                · exact absurd h2 (by have := hme.1; omega)
              have mo1 := x_copy_mono h1
              obtain ⟨mo1, mo1', rfl, rfl⟩ := mo1
              refine sx_copy hw hsp C0 hE hd hl1 h1 hH hL (by omega) (by omega) (fun H1 locs1 hH1 => ?_)
              refine ih (d' + 1) j (pc + 3) _ _ m1 r m' h hj p e R s mid args below meth c H1 locs1 _ _ Q lsA C0 hE hB hH1 hL hfr hlo (by rw [← mo1]; exact hc) (by rw [← mo1']; exact hs) ?_
              rw [← mo1, ← mo1']
              exact hret
          · rename_i hk9
            split at h
            · cases h
            · rename_i as rest harg
              split at h
              · cases h
              · rename_i r1 m1 h1
                obtain ⟨hkn, hl1, hl2⟩ : k < nM ∧ Cond.methodLink (yn j).cls q1 (yn k) ∈ gt ∧ Cond.static (yn k) ∈ gt := by
                  rcases hkk with ⟨h, -⟩ | h
                  · exact absurd h hk9
                  · exact h
                have hnk : na k = np k := by
                  rcases hk2 with h | h
                  · exact absurd h hk9
                  · exact h
                obtain ⟨rfl, hlen, hcat, hlo2⟩ := x_arg_spec harg
                have mo1 := ix_mono _ _ _ _ _ _ _ _ _ h1
                have mo2 := ix_mono _ _ _ _ _ _ _ _ _ h
                have hO1 := ix_ok _ _ _ _ _ _ _ _ _ h1 hH.2.2.2
                have hM := x_met hw hme hsp ih hkn hH.2.2.2 hlo2 h1
                have hrun := va_runS (g := F0 mid pc lsA ((as.reverse ++ rest).map (cv B sp))) (As := as.map (cv B sp)) (rest := rest.map (cv B sp)) (H := H) (locs := locs) (cells := cells) (slots := slots) (e := e) (below := below) (meth := meth) ⟨hx, hb, hml, hown, hts⟩ hM ⟨x_cb (j := j) (q1 := q1) hw hme hkn hts hfr hlo hl1, hts _ hl2⟩ ⟨xPc.blind hw, x_pre hw hsp hE hB hH⟩ rfl (by simp; omega) hL.2.1 (x_map as rest) (x_rest hsp.1 hcat) hd ⟨by omega, by omega⟩
                refine x_call hrun hH.2.2.1 (fun _ h => h) hO1 (fun H1 locs1 hH1 => ?_)
                rw [x_opt]
                have e1 : cells + (m1.1 - m.1) + (m'.1 - m1.1) = cells + (m'.1 - m.1) := by omega
                have e2 : slots + (m1.2.1 - m.2.1) + (m'.2.1 - m1.2.1) = slots + (m'.2.1 - m.2.1) := by omega
                refine ih (d' + 1) j (pc + 3) ls _ m1 r m' h hj p e R s mid args below meth c H1 locs1 _ _ Q lsA C0 hE hB hH1 hL hfr hlo (by rw [e1]; exact hc) (by rw [e2]; exact hs) ?_
                rw [e1, e2]
                exact hret
      · -- invokespecial
        rename_i k
        obtain ⟨q1, rfl, rfl, hkk⟩ := hk
        cases d with
        | zero => cases h
        | succ d' =>
          dsimp only at h
          split at h
          · rename_i hk9
            split at h
            · rename_i a rr
              split at h
              · rename_i hcat
                have hl1 : Cond.methodLink (yn j).cls q1 objectInit ∈ gt := by
                  rcases hkk with ⟨-, h⟩ | ⟨h2, -⟩
                  · exact h
                  · exact absurd h2 (by have := hme.1; omega)
                rw [List.map_cons, cv_ref hcat.2]
                refine W.objInit hx hb hown (hts _ hl1) (hts _ hw.2.2.2.1) (hts _ hw.2.2.2.2.1) rfl (by rw [hml]; exact hL.2.1) rfl hd (by omega) (by
                  rw [cv_cats hsp.1]
                  show 2 * 0 + _ + 12 ≤ _
                  omega) ?_
                exact ih (d' + 1) j (pc + 3) ls rr m r m' h hj p e R s mid args below meth c H locs _ _ Q lsA C0 hE hB hH hL hfr hlo hc hs hret
              · cases h
            · cases h
          · rename_i hk9
            split at h
            · cases h
            · rename_i as rest harg
              split at h
              · rename_i hrcs
                split at h
                · cases h
                · rename_i r1 m1 h1
                  obtain ⟨hkn, hnme, hl2, hl1⟩ : k < nM ∧ (yn k).name = "<init>" ∧ Cond.instanceMethod (yn k) ∈ gt ∧ (Cond.methodLink (yn j).cls q1 (yn k) ∈ gt ∨ Cond.methodLinkNest (yn j).cls q1 (yn k) "OneBoots" ∈ nst) := by
                    rcases hkk with ⟨h, -⟩ | h
                    · exact absurd h hk9
                    · exact h
                  obtain ⟨hnk, hrtn⟩ : na k = np k + 1 ∧ rt k = none := by
                    rcases hk2 with h | h
                    · exact absurd h hk9
                    · exact h
                  obtain ⟨rfl, hlen, hcat, hlo2⟩ := x_arg_spec harg
                  have mo1 := ix_mono _ _ _ _ _ _ _ _ _ h1
                  have mo2 := ix_mono _ _ _ _ _ _ _ _ _ h
                  have hO1 := ix_ok _ _ _ _ _ _ _ _ _ h1 hH.2.2.2
                  have hM := x_met hw hme hsp ih hkn hH.2.2.2 hlo2 h1
                  match as, hrcs, hlen, hlo2, harg, h1, hM with
                  | [], hrcs, _, _, _, _, _ => simp [x_rcs] at hrcs
                  | .ref a :: as, hrcs, hlen, hlo2, harg, h1, hM =>
                    have ha : a < xS := by simpa [x_rcs] using hrcs
                    have hn1 : (as.map (cv B sp)).length = np k := by
                      simp at hlen ⊢
                      omega
                    have hpr : PreS s H (xPc cls acl nst strs lens byt B sp D aC adK adV b L sc (.ref a :: as) m) (.ref (B + a) :: as.map (cv B sp)) := ⟨xPc.blind hw, fun U hU hW => by
                      have := x_pre (as := .ref a :: as) hw hsp hE hB hH U hU hW
                      rw [List.map_cons, cv_ref ha] at this
                      exact this⟩
                    have hst9 : (F0 mid pc lsA (((Value.ref a :: as).reverse ++ rest).map (cv B sp))).stack = (as.map (cv B sp)).reverse ++ .ref (B + a) :: rest.map (cv B sp) := by
                      show ((Value.ref a :: as).reverse ++ rest).map (cv B sp) = _
                      rw [x_map, List.map_cons, cv_ref ha]
                      simp
                    have hcb : ∀ hh : Cond.methodLink (yn j).cls q1 (yn k) ∈ gt, CallB R s args (yn j).cls q1 (yn k) (bt k) (mx k) none (Cond.code (yn k) (bt k) (mx k) (rt k) :: gt) (xrm d' (m1.1 - m.1) (m1.2.1 - m.2.1)) (m1.1 - m.1) (m1.2.1 - m.2.1) (np k) := fun hh => by
                      have := x_cb (R := R) (d := d') (mc := m1.1 - m.1) (ms := m1.2.1 - m.2.1) (j := j) (q1 := q1) hw hme hkn hts hfr hlo hh
                      rw [hrtn] at this ⊢
                      exact this
                    have hrun : va_Run p l e R s mid args below meth c H locs cells slots (m1.1 - m.1) (m1.2.1 - m.2.1) (F0 mid pc lsA (((Value.ref a :: as).reverse ++ rest).map (cv B sp))) (rest.map (cv B sp)) (xQ cls B sp D aC r1 m1 (Value.ref (B + a) :: as.map (cv B sp)).toArray) (fun q => B ≤ q) := by
                      rcases hl1 with hl1 | hl1
                      · exact va_runI (bytes := bt k) (maxL := mx k) ⟨hx, hb, hml, hown, hts⟩ hM ⟨hcb hl1, hnme, hts _ hl2⟩ hpr rfl hn1 hL.2.1 hst9 (x_rest hsp.1 hcat) hd ⟨by omega, by omega⟩
                      · obtain ⟨g1, g2, g3, g4, g5, g6, g7⟩ := hme.2 k hkn
                        refine va_runIN (bytes := bt k) (maxL := mx k) (host := "OneBoots") ⟨hx, hb, hml, hown, hts⟩ hM ⟨va_cnB (np k) hts (fun w hw' => ?_) (ws' := gt) (by rw [hrtn]) rfl rfl (hE.2.1 _ hl1) (hts _ g2) ⟨g4, g5, g7⟩ ⟨hfr, by simp only [xrm]; omega⟩, hnme, hts _ hl2⟩ hpr rfl hn1 hL.2.1 hst9 (x_rest hsp.1 hcat) hd ⟨by omega, by omega⟩
                        have hm : w ∈ gt := by
                          rcases List.mem_cons.mp hw' with rfl | h
                          · exact g1
                          · exact h
                        exact ⟨hm, good_of_word (hw.1 w hm)⟩
                    refine x_call hrun hH.2.2.1 (fun _ h => h) hO1 (fun H1 locs1 hH1 => ?_)
                    rw [x_opt]
                    have e1 : cells + (m1.1 - m.1) + (m'.1 - m1.1) = cells + (m'.1 - m.1) := by omega
                    have e2 : slots + (m1.2.1 - m.2.1) + (m'.2.1 - m1.2.1) = slots + (m'.2.1 - m.2.1) := by omega
                    refine ih (d' + 1) j (pc + 3) ls _ m1 r m' h hj p e R s mid args below meth c H1 locs1 _ _ Q lsA C0 hE hB hH1 hL hfr hlo (by rw [e1]; exact hc) (by rw [e2]; exact hs) ?_
                    rw [e1, e2]
                    exact hret
                  | .int _ :: _, hrcs, _, _, _, _, _ => simp [x_rcs] at hrcs
                  | .long _ :: _, hrcs, _, _, _, _, _ => simp [x_rcs] at hrcs
                  | .float _ :: _, hrcs, _, _, _, _, _ => simp [x_rcs] at hrcs
                  | .double _ :: _, hrcs, _, _, _, _, _ => simp [x_rcs] at hrcs
                  | .null :: _, hrcs, _, _, _, _, _ => simp [x_rcs] at hrcs
                  | .retAddr _ :: _, hrcs, _, _, _, _, _ => simp [x_rcs] at hrcs
              · cases h
      · -- others
        split at h
        · cases h
        · rename_i pc1 ls1 st1 m1 h1
          have mo1 := xs_mono h1
          have mo2 := ix_mono _ _ _ _ _ _ _ _ _ h
          refine sx_step hw.2.2.1 hsp hcl C0 hE hB hd hk h1 hH hL (by omega) (by omega) (fun H1 locs1 lsA1 hH1 hL1 => ?_)
          have e1 : cells + (m1.1 - m.1) + (m'.1 - m1.1) = cells + (m'.1 - m.1) := by omega
          have e2 : slots + (m1.2.1 - m.2.1) + (m'.2.1 - m1.2.1) = slots + (m'.2.1 - m.2.1) := by omega
          refine ih d j pc1 ls1 st1 m1 r m' h hj p e R s mid args below meth c H1 locs1 _ _ Q lsA1 C0 hE hB hH1 hL1 hfr hlo (by rw [e1]; exact hc) (by rw [e2]; exact hs) ?_
          rw [e1, e2]
          exact hret
end XO
end
section
/-! RUNS OF THE PROGRAM, AS A CALCULUS: Rn, and a rule an instruction. -/
abbrev Ix : Nat → Nat → Nat → Nat → List Value → List Value → xM → Option (Option Value × xM) := ix xG xfty xacl xna xmx xrc xrk
abbrev IxB (rec : Nat → Nat → Nat → List Value → List Value → xM → Option (Option Value × xM)) (d j pc : Nat) (ls st : List Value) (m : xM) : Option (Option Value × xM) := ixB xG xfty xacl xna xmx xrc xrk rec d j pc ls st m
def Rn (d j pc : Nat) (ls st : List Value) (m : xM) (P : Option Value → xM → Prop) : Prop := ∃ n r m', Ix n d j pc ls st m = some (r, m') ∧ P r m'
/-- a call: method j, with these arguments -/
def Cl (d j : Nat) (as : List Value) (m : xM) (P : Option Value → xM → Prop) : Prop := Rn d j 0 (xent (xmx j) as) [] m P
theorem ixB_le {f g : Nat → Nat → Nat → List Value → List Value → xM → Option (Option Value × xM)} (hle : ∀ d j pc ls st m x, f d j pc ls st m = some x → g d j pc ls st m = some x) {d j pc : Nat} {ls st : List Value} {m : xM} {x : Option Value × xM} (h : IxB f d j pc ls st m = some x) : IxB g d j pc ls st m = some x := by
  unfold IxB ixB at h ⊢
  cases hG : xG j pc with
  | none => simp [hG] at h
  | some q =>
    obtain ⟨i, len⟩ := q
    simp only [hG] at h ⊢
    cases i
    case invokevirtual k =>
      dsimp only at h ⊢
      cases d with
      | zero => cases h
      | succ d =>
        dsimp only at h ⊢
        split at h
        · rename_i hk
          rw [if_pos hk]
          split at h
          · cases h
          · rename_i h1
            try simp only [h1]
            exact hle _ _ _ _ _ _ _ h
        · rename_i hk
          rw [if_neg hk]
          split at h
          · cases h
          · rename_i h1
            try simp only [h1]
            split at h
            · rename_i h2
              rw [if_pos h2]
              split at h
              · cases h
              · rename_i h3
                simp only [hle _ _ _ _ _ _ _ h3]
                exact hle _ _ _ _ _ _ _ h
            · cases h
    case invokestatic k =>
      dsimp only at h ⊢
      cases d with
      | zero => cases h
      | succ d =>
        dsimp only at h ⊢
        split at h
        · rename_i hk
          rw [if_pos hk]
          split at h
          · cases h
          · rename_i h1
            try simp only [h1]
            exact hle _ _ _ _ _ _ _ h
        · rename_i hk
          rw [if_neg hk]
          split at h
          · cases h
          · rename_i h1
            try simp only [h1]
            split at h
            · cases h
            · rename_i h3
              simp only [hle _ _ _ _ _ _ _ h3]
              exact hle _ _ _ _ _ _ _ h
    case invokespecial k =>
      dsimp only at h ⊢
      cases d with
      | zero => cases h
      | succ d =>
        dsimp only at h ⊢
        split at h
        · rename_i hk
          rw [if_pos hk]
          split at h
          · split at h
            · rename_i h2
              simp only [if_pos h2]
              exact hle _ _ _ _ _ _ _ h
            · cases h
          · cases h
        · rename_i hk
          rw [if_neg hk]
          split at h
          · cases h
          · rename_i h1
            try simp only [h1]
            split at h
            · rename_i h2
              rw [if_pos h2]
              split at h
              · cases h
              · rename_i h3
                simp only [hle _ _ _ _ _ _ _ h3]
                exact hle _ _ _ _ _ _ _ h
            · cases h
    case ireturn => exact h
    case lreturn => exact h
    case areturn => exact h
    case return_ => exact h
    all_goals
      dsimp only at h ⊢
      split at h
      · cases h
      · rename_i h1
        try simp only [h1]
        exact hle _ _ _ _ _ _ _ h
theorem Ix_le : ∀ (n : Nat) {d j pc : Nat} {ls st : List Value} {m : xM} {x : Option Value × xM}, Ix n d j pc ls st m = some x → Ix (n + 1) d j pc ls st m = some x
  | 0, _, _, _, _, _, _, _, h => by cases h
  | n + 1, d, j, pc, ls, st, m, x, h => ixB_le (f := Ix n) (g := Ix (n + 1)) (fun d j pc ls st m x h => Ix_le n h) h
theorem Ix_mono {n n' : Nat} (h : n ≤ n') {d j pc : Nat} {ls st : List Value} {m : xM} {x : Option Value × xM} (hx : Ix n d j pc ls st m = some x) : Ix n' d j pc ls st m = some x := by
  induction h with
  | refl => exact hx
  | step _ ih => exact Ix_le _ ih
section RN
variable {d j pc len : Nat} {ls st : List Value} {m : xM} {P P1 : Option Value → xM → Prop}
theorem Rn.step {i : Instr} {pc' : Nat} {ls' st' : List Value} {m' : xM} (hG : xG j pc = some (i, len)) (hx : xs xfty xacl i (pc + len) ls st m = some (pc', ls', st', m')) (k : Rn d j pc' ls' st' m' P) : Rn d j pc ls st m P := by
  obtain ⟨n, r, m2, h, hp⟩ := k
  refine ⟨n + 1, r, m2, ?_, hp⟩
  show ixB xG xfty xacl xna xmx xrc xrk (Ix n) d j pc ls st m = _
  unfold ixB
  rw [hG]
  cases i <;> first | (simp [xs] at hx; done) | (simp only [hx]; exact h)
theorem Rn.iret {v : Int32} (hG : xG j pc = some (.ireturn, len)) (hn : narrow (xrk j) (.int v) = .int v) (hp : P (some (.int v)) m) : Rn d j pc ls [.int v] m P := by
  refine ⟨1, some (.int v), m, ?_, hp⟩
  show ixB xG xfty xacl xna xmx xrc xrk (Ix 0) d j pc ls [.int v] m = _
  unfold ixB
  rw [hG]
  simp only [if_pos hn]
theorem Rn.lret {v : Int64} (hG : xG j pc = some (.lreturn, len)) (hp : P (some (.long v)) m) : Rn d j pc ls [.long v] m P := by
  refine ⟨1, some (.long v), m, ?_, hp⟩
  show ixB xG xfty xacl xna xmx xrc xrk (Ix 0) d j pc ls [.long v] m = _
  unfold ixB
  rw [hG]
theorem Rn.aret {v : Nat} (hG : xG j pc = some (.areturn, len)) (hv : v < xS) (hp : P (some (.ref v)) m) : Rn d j pc ls [.ref v] m P := by
  refine ⟨1, some (.ref v), m, ?_, hp⟩
  show ixB xG xfty xacl xna xmx xrc xrk (Ix 0) d j pc ls [.ref v] m = _
  unfold ixB
  rw [hG]
  simp only [if_pos hv]
theorem Rn.vret (hG : xG j pc = some (.return_, len)) (hp : P none m) : Rn d j pc ls [] m P := by
  refine ⟨1, none, m, ?_, hp⟩
  show ixB xG xfty xacl xna xmx xrc xrk (Ix 0) d j pc ls [] m = _
  unfold ixB
  rw [hG]
theorem Rn.callS {k : Nat} {as rest : List Value} {pc' : Nat} (hG : xG j pc = some (.invokestatic k, len)) (hk : k ≠ 9998) (hd : 0 < d) (ha : x_arg xna xmx k st = some (as, rest)) (hp : pc + len = pc') (hc : Cl (d - 1) k as m P1) (kk : ∀ r m', P1 r m' → Rn d j pc' ls (r.toList ++ rest) m' P) : Rn d j pc ls st m P := by
  obtain ⟨n1, r1, m1, h1, hp1⟩ := hc
  obtain ⟨n2, r2, m2, h2, hp2⟩ := kk r1 m1 hp1
  subst hp
  refine ⟨max n1 n2 + 1, r2, m2, ?_, hp2⟩
  show ixB xG xfty xacl xna xmx xrc xrk (Ix (max n1 n2)) d j pc ls st m = _
  obtain ⟨d', rfl⟩ : ∃ d', d = d' + 1 := ⟨d - 1, by omega⟩
  unfold ixB
  rw [hG]
  simp only [if_neg hk, ha, show Ix (max n1 n2) d' k 0 (xent (xmx k) as) [] m = some (r1, m1) from Ix_mono (Nat.le_max_left n1 n2) h1]
  exact Ix_mono (Nat.le_max_right n1 n2) h2
theorem Rn.callV {k : Nat} {as rest : List Value} {pc' : Nat} (hG : xG j pc = some (.invokevirtual k, len)) (hk : k ≠ 9997) (hd : 0 < d) (ha : x_arg xna xmx k st = some (as, rest)) (hr : x_rcv xrc k m as = true) (hp : pc + len = pc') (hc : Cl (d - 1) k as m P1) (kk : ∀ r m', P1 r m' → Rn d j pc' ls (r.toList ++ rest) m' P) : Rn d j pc ls st m P := by
  obtain ⟨n1, r1, m1, h1, hp1⟩ := hc
  obtain ⟨n2, r2, m2, h2, hp2⟩ := kk r1 m1 hp1
  subst hp
  refine ⟨max n1 n2 + 1, r2, m2, ?_, hp2⟩
  show ixB xG xfty xacl xna xmx xrc xrk (Ix (max n1 n2)) d j pc ls st m = _
  obtain ⟨d', rfl⟩ : ∃ d', d = d' + 1 := ⟨d - 1, by omega⟩
  unfold ixB
  rw [hG]
  simp only [if_neg hk, ha, if_pos hr, show Ix (max n1 n2) d' k 0 (xent (xmx k) as) [] m = some (r1, m1) from Ix_mono (Nat.le_max_left n1 n2) h1]
  exact Ix_mono (Nat.le_max_right n1 n2) h2
theorem Rn.callI {k : Nat} {as rest : List Value} {pc' : Nat} (hG : xG j pc = some (.invokespecial k, len)) (hk : k ≠ 9999) (hd : 0 < d) (ha : x_arg xna xmx k st = some (as, rest)) (hr : x_rcs as = true) (hp : pc + len = pc') (hc : Cl (d - 1) k as m P1) (kk : ∀ r m', P1 r m' → Rn d j pc' ls (r.toList ++ rest) m' P) : Rn d j pc ls st m P := by
  obtain ⟨n1, r1, m1, h1, hp1⟩ := hc
  obtain ⟨n2, r2, m2, h2, hp2⟩ := kk r1 m1 hp1
  subst hp
  refine ⟨max n1 n2 + 1, r2, m2, ?_, hp2⟩
  show ixB xG xfty xacl xna xmx xrc xrk (Ix (max n1 n2)) d j pc ls st m = _
  obtain ⟨d', rfl⟩ : ∃ d', d = d' + 1 := ⟨d - 1, by omega⟩
  unfold ixB
  rw [hG]
  simp only [if_neg hk, ha, if_pos hr, show Ix (max n1 n2) d' k 0 (xent (xmx k) as) [] m = some (r1, m1) from Ix_mono (Nat.le_max_left n1 n2) h1]
  exact Ix_mono (Nat.le_max_right n1 n2) h2
theorem Rn.objInit {a : Nat} {rest : List Value} {pc' : Nat} (hG : xG j pc = some (.invokespecial 9999, len)) (hd : 0 < d) (hc : xcat rest ≤ 8 ∧ a < xS) (hp : pc + len = pc') (k : Rn d j pc' ls rest m P) : Rn d j pc ls (.ref a :: rest) m P := by
  obtain ⟨n, r, m2, h, hp2⟩ := k
  subst hp
  refine ⟨n + 1, r, m2, ?_, hp2⟩
  show ixB xG xfty xacl xna xmx xrc xrk (Ix n) d j pc ls (.ref a :: rest) m = _
  obtain ⟨d', rfl⟩ : ∃ d', d = d' + 1 := ⟨d - 1, by omega⟩
  unfold ixB
  rw [hG]
  simp only [if_pos trivial, if_pos hc]
  exact h
theorem Rn.copy {pc' : Nat} {ls' st' : List Value} {m' : xM} (hG : xG j pc = some (.invokestatic 9998, len)) (hd : 0 < d) (hx : x_copy (pc + len) ls st m = some (pc', ls', st', m')) (k : Rn d j pc' ls' st' m' P) : Rn d j pc ls st m P := by
  obtain ⟨n, r, m2, h, hp2⟩ := k
  refine ⟨n + 1, r, m2, ?_, hp2⟩
  show ixB xG xfty xacl xna xmx xrc xrk (Ix n) d j pc ls st m = _
  obtain ⟨d', rfl⟩ : ∃ d', d = d' + 1 := ⟨d - 1, by omega⟩
  unfold ixB
  rw [hG]
  simp only [if_pos trivial, hx]
  exact h
theorem Rn.clone {pc' : Nat} {ls' st' : List Value} {m' : xM} (hG : xG j pc = some (.invokevirtual 9997, len)) (hd : 0 < d) (hx : x_clone (pc + len) ls st m = some (pc', ls', st', m')) (k : Rn d j pc' ls' st' m' P) : Rn d j pc ls st m P := by
  obtain ⟨n, r, m2, h, hp2⟩ := k
  refine ⟨n + 1, r, m2, ?_, hp2⟩
  show ixB xG xfty xacl xna xmx xrc xrk (Ix n) d j pc ls st m = _
  obtain ⟨d', rfl⟩ : ∃ d', d = d' + 1 := ⟨d - 1, by omega⟩
  unfold ixB
  rw [hG]
  simp only [if_pos trivial, hx]
  exact h
theorem Rn.conseq (h : Rn d j pc ls st m P1) (hP : ∀ r m', P1 r m' → P r m') : Rn d j pc ls st m P := by
  obtain ⟨n, r, m', h1, h2⟩ := h
  exact ⟨n, r, m', h1, hP r m' h2⟩
theorem Rn.icmp {c : Jvm.ClassFile.Cond} {t : Int} {x y : Int32} {pc1 pc2 : Nat} (hG : xG j pc = some (.if_icmp c t, len)) (h1 : t.toNat = pc1) (h2 : pc + len = pc2) (k1 : xcnd c x y → Rn d j pc1 ls st m P) (k2 : ¬ xcnd c x y → Rn d j pc2 ls st m P) : Rn d j pc ls (.int y :: .int x :: st) m P := by
  subst h1 h2
  by_cases hc : xcndB c x y = true
  · refine Rn.step hG (by simp only [xs, if_pos hc]) (k1 ?_)
    cases c <;> simpa [xcnd, xcndB] using hc
  · refine Rn.step hG (by simp only [xs, if_neg hc]) (k2 ?_)
    cases c <;> simpa [xcnd, xcndB] using hc
theorem Rn.ifc {c : Jvm.ClassFile.Cond} {t : Int} {x : Int32} {pc1 pc2 : Nat} (hG : xG j pc = some (.ifCond c t, len)) (h1 : t.toNat = pc1) (h2 : pc + len = pc2) (k1 : xcnd c x 0 → Rn d j pc1 ls st m P) (k2 : ¬ xcnd c x 0 → Rn d j pc2 ls st m P) : Rn d j pc ls (.int x :: st) m P := by
  subst h1 h2
  by_cases hc : xcndB c x 0 = true
  · refine Rn.step hG (by simp only [xs, if_pos hc]) (k1 ?_)
    cases c <;> simpa [xcnd, xcndB] using hc
  · refine Rn.step hG (by simp only [xs, if_neg hc]) (k2 ?_)
    cases c <;> simpa [xcnd, xcndB] using hc
theorem Rn.iconst {n : Int} {v : Int32} {pc' : Nat} (hG : xG j pc = some (.iconst n, len)) (hv : Int32.ofInt n = v) (hp : pc + len = pc') (k : Rn d j pc' ls (.int v :: st) m P) : Rn d j pc ls st m P := by
  subst hv hp
  exact Rn.step hG rfl k
theorem Rn.ldc2 {n : Nat} {v : Int64} {pc' : Nat} (hG : xG j pc = some (.ldc2_w n, len)) (hv : Int64.ofNat n = v) (hp : pc + len = pc') (k : Rn d j pc' ls (.long v :: st) m P) : Rn d j pc ls st m P := by
  subst hv hp
  exact Rn.step hG rfl k
theorem Rn.getf {q a ci : Nat} {fs : List Value} {v : Value} {pc' : Nat} (hG : xG j pc = some (.getfield q, len)) (ha : m.2.2 a = some (.inr (ci, fs))) (hc : ci = q / 64) (hv : fs[q % 64]? = some v) (hp : pc + len = pc') (k : Rn d j pc' ls (v :: st) m P) : Rn d j pc ls (.ref a :: st) m P := by
  subst hp
  exact Rn.step hG (by simp only [xs, x_getf, ha, if_pos hc, hv]) k
theorem Rn.putf {q a ci : Nat} {fs : List Value} {v : Value} {ty : FieldType} {pc' : Nat} (hG : xG j pc = some (.putfield q, len)) (hl : a < xS) (ha : m.2.2 a = some (.inr (ci, fs))) (hc : ci = q / 64 ∧ q % 64 < fs.length) (hty : (xfty ci)[q % 64]? = some ty) (hn : narrow ty v = v ∧ fits ty v = true) (hp : pc + len = pc') (k : Rn d j pc' ls st (xset m a (.inr (ci, fs.set (q % 64) v))) P) : Rn d j pc ls (v :: .ref a :: st) m P := by
  subst hp
  exact Rn.step hG (by simp only [xs, x_putf, if_pos hl, ha, if_pos hc, hty, if_pos hn]) k
theorem Rn.iald {a n : Nat} {f : Nat → Int32} {i : Int32} {pc' : Nat} (hG : xG j pc = some (.iaload, len)) (ha : m.2.2 a = some (.inl (0, n, xints f))) (hi : vp_in i n) (hp : pc + len = pc') (k : Rn d j pc' ls (.int (f i.toNatClampNeg) :: st) m P) : Rn d j pc ls (.int i :: .ref a :: st) m P := by
  subst hp
  have hx : ¬ xout i n = true := by simpa [xout, vp_in] using hi
  exact Rn.step hG (by simp only [xs, x_iald, ha, if_neg hx]) k
theorem Rn.bald {a n t : Nat} {f : Nat → Int32} {i : Int32} {pc' : Nat} (hG : xG j pc = some (.baload, len)) (ht : t = 1 ∨ t = 3) (ha : m.2.2 a = some (.inl (t, n, xints f))) (hi : vp_in i n) (hp : pc + len = pc') (k : Rn d j pc' ls (.int (f i.toNatClampNeg) :: st) m P) : Rn d j pc ls (.int i :: .ref a :: st) m P := by
  subst hp
  have hx : ¬ xout i n = true := by simpa [xout, vp_in] using hi
  rcases ht with rfl | rfl
  · exact Rn.step hG (by simp only [xs, x_bald, ha, if_neg hx]) k
  · exact Rn.step hG (by simp only [xs, x_bald, ha, if_neg hx]) k
theorem Rn.lald {a n : Nat} {f : Nat → Int64} {i : Int32} {pc' : Nat} (hG : xG j pc = some (.laload, len)) (ha : m.2.2 a = some (.inl (2, n, xlongs f))) (hi : vp_in i n) (hp : pc + len = pc') (k : Rn d j pc' ls (.long (f i.toNatClampNeg) :: st) m P) : Rn d j pc ls (.int i :: .ref a :: st) m P := by
  subst hp
  have hx : ¬ xout i n = true := by simpa [xout, vp_in] using hi
  exact Rn.step hG (by simp only [xs, x_lald, ha, if_neg hx]) k
theorem Rn.iast {a n : Nat} {f : Nat → Int32} {i x : Int32} {pc' : Nat} (hG : xG j pc = some (.iastore, len)) (hl : a < xS) (ha : m.2.2 a = some (.inl (0, n, xints f))) (hi : vp_in i n) (hp : pc + len = pc') (k : Rn d j pc' ls st (xset m a (.inl (0, n, xints (upd f i.toNatClampNeg x)))) P) : Rn d j pc ls (.int x :: .int i :: .ref a :: st) m P := by
  subst hp
  have hx : ¬ xout i n = true := by simpa [xout, vp_in] using hi
  exact Rn.step hG (by simp only [xs, x_iast, if_pos hl, ha, if_neg hx]) k
theorem Rn.last {a n : Nat} {f : Nat → Int64} {i : Int32} {x : Int64} {pc' : Nat} (hG : xG j pc = some (.lastore, len)) (hl : a < xS) (ha : m.2.2 a = some (.inl (2, n, xlongs f))) (hi : vp_in i n) (hp : pc + len = pc') (k : Rn d j pc' ls st (xset m a (.inl (2, n, xlongs (vp_updL f i.toNatClampNeg x)))) P) : Rn d j pc ls (.long x :: .int i :: .ref a :: st) m P := by
  subst hp
  have hx : ¬ xout i n = true := by simpa [xout, vp_in] using hi
  exact Rn.step hG (by simp only [xs, x_last, if_pos hl, ha, if_neg hx]) k
end RN
end
section
/-! THE CLAIM OUT OF ONE WALK OF THE LAW'S BODY. Your part is whole_start (and what it stands on); all else here is the same for every law, but numbers. -/
def R_law : String := "OneBootsLaw"
def lw_P (b : Addr) (xs : List Int32) (args : Array Value) (s : State) : Prop := args = #[.ref b] ∧ s.IntsAt b xs ∧ xs.length ≤ 3584 ∧ (Jvm.Cond.and given_1 narrow_1).before args s = true
def lw_Q (_ : Array Value) (s : State) (o : Outcome) (t : State) : Prop := o = .returned (some (.int 1)) ∧ Framed s o t [] 600000 7302250
def lw_Z (below : List Frame) (a : Array Value) (s : State) : State → Prop := fun t => ∃ o, t.status = .running ∧ Ended t below o ∧ lw_Q a s o t
/-- the law's own end, with 1 on the stack, nothing written that was there before, its room as the claim has it -/
theorem lw_ret {p : Program} {l : Launch} {e : Env} {s : State} {m : MethodId} {below : List Frame} {meth : Method} {c : Code} {b : Nat} (hx : p.tables.exec = Jvm.exec) (hb : c.code = code) (hr : meth.sig.returnType = ret) (hlocks : meth.locks = false) {pc : Nat} {H : Heap} {ls : Array Slot} (hdg : decode code pc = .ok (.ireturn, 1)) : W p l e room_1 s m #[Value.ref b] below meth c H [] 600000 7302250 (lw_Z below #[Value.ref b] s) (F0 m pc ls [.int 1]) := by
  intro T hT X
  obtain ⟨fs, hret, hrun, hended, hW, hframe⟩ := X.leave (v := some (.int 1)) (hlocks := hlocks) (fun h => by rw [hr] at h; cases h)
  have hmeth' : T.vm.method? m = some meth := X.method'
  refine ⟨T.setFrames fs, ?_, .returned (some (.int 1)), hrun, hended, rfl, ⟨_, rfl⟩, hW, hframe⟩
  jvm_step X.here [X.here.top, hx, hb, hdg, hmeth', hr, ret, narrow_b1]
  (try refine ⟨rfl, ?_⟩); (try refine ⟨rfl, ?_⟩)
  first | (intro acts; rw [hret _ acts rfl rfl rfl]) | rw [hret _ _ rfl rfl rfl]
  exact Steps.refl _
/-- what holds at the law's entry: the machine, the code, the tables' words (any of lw_tbl by 'hts w (by decide +kernel)'), the script of L ints xs at the cell b, what the Statement gives of the start (any of its parts by flat_of_before) -/
def lw_At (p : Program) (s : State) (m : MethodId) (meth : Method) (c : Code) (b L : Nat) (xs : Nat → Int32) : Prop :=
  p.tables.exec = Jvm.exec ∧ c.code = code ∧ meth.sig.returnType = ret ∧ c.maxLocals = 4 ∧ s.vm.findClass R_law = some m.cls ∧ (∀ w ∈ lw_tbl, w.before #[Value.ref b] s = true) ∧ va_X b L xs s s.heap ∧ b < s.heap.size ∧ meth.locks = false ∧ (Jvm.Cond.and given_1 narrow_1).before #[Value.ref b] s = true

def xsp0 (L : Nat) (sc : Nat → Int32) (k : Nat) : Option xC := if k < xS then none else if k - xS = 60 then some (.inl (0, L, xints sc)) else if k - xS < 12 then (if (k - xS) % 2 = 0 then some (.inr (90, [.ref (xS + (k - xS + 1)), .int 0])) else some (.inl (1, xlens.getD ((k - xS) / 2) 0, xints fun j => (xbyt.getD ((k - xS) / 2) []).getD j 0))) else none
/-- the memory at the law's beginning -/
def xm0 (L : Nat) (sc : Nat → Int32) : xM := (0, 0, xsp0 L sc)
def xtm (i : Nat) : Term := .string (xstr.getD i (0, "", 0, "")).2.1 (xstr.getD i (0, "", 0, "")).2.2.1
def xfl : List Cond := flatC (Jvm.Cond.and given_1 narrow_1)
theorem xf_ex : ∀ i, i < 6 → Cond.exactly (xtm i) "java/lang/String" ∈ xfl := by decide +kernel
theorem xf_co : ∀ i, i < 6 → Cond.eq (.field (xtm i) "java/lang/String" "coder" "B") (.int 0) ∈ xfl := by decide +kernel
theorem xf_ar : ∀ i, i < 6 → Cond.arrayOf (.field (xtm i) "java/lang/String" "value" "[B") .byte ∈ xfl := by decide +kernel
theorem xf_le : ∀ i, i < 6 → Cond.eq (.length (.field (xtm i) "java/lang/String" "value" "[B")) (.int (Int32.ofNat (xlens.getD i 0))) ∈ xfl := by decide +kernel
theorem xf_el : ∀ i, i < 6 → ∀ j, j < xlens.getD i 0 → Cond.eq (.elem (.field (xtm i) "java/lang/String" "value" "[B") (.int (Int32.ofNat j))) (.int ((xbyt.getD i []).getD j 0)) ∈ xfl := by decide +kernel
theorem xf_ne : ∀ i, i < 6 → ∀ j, j < 6 → i ≠ j → Cond.not (Cond.eq (xtm i) (xtm j)) ∈ xfl ∨ Cond.not (Cond.eq (xtm j) (xtm i)) ∈ xfl := by decide +kernel
theorem xf_cs : Cond.eq (.static "java/lang/String" "COMPACT_STRINGS" "Z") (.int 1) ∈ xfl := by decide +kernel
theorem xf_fm : Cond.isRef (.static "jdk/internal/util/Preconditions" "SIOOBE_FORMATTER" "Ljava/util/function/BiFunction;") ∈ xfl := by decide +kernel
theorem xl_cs : Cond.laysStatic "java/lang/String" "COMPACT_STRINGS" "Z" ∈ lw_tbl ∧ Cond.initialized "java/lang/String" ∈ lw_tbl := by decide +kernel
theorem xl_fm : Cond.laysStatic "jdk/internal/util/Preconditions" "SIOOBE_FORMATTER" "Ljava/util/function/BiFunction;" ∈ lw_tbl ∧ Cond.initialized "jdk/internal/util/Preconditions" ∈ lw_tbl := by decide +kernel
theorem xl_st : ∀ q ∈ xstr, Cond.stringRef q.2.1 q.2.2.1 q.2.2.2 ∈ lw_tbl := by decide +kernel
theorem xl_ov : ∀ t, t < 7 → 4 ≤ t → Cond.arrayOver (xat xcls xacl t) ∈ lw_tbl := by decide +kernel
theorem xst_ix : ∀ q ∈ xstr, q.1 % 2 = 0 ∧ q.1 / 2 < 6 ∧ xtm (q.1 / 2) = .string q.2.1 q.2.2.1 := by decide +kernel
theorem xat_ov : ∀ t, t < 7 → 4 ≤ t → ∃ r, xcls[xacl t]? = some r := by
  intro t h1 h2
  have : t = 4 ∨ t = 5 ∨ t = 6 := by omega
  rcases this with rfl | rfl | rfl
  · exact ⟨_, rfl⟩
  · exact ⟨_, rfl⟩
  · exact ⟨_, rfl⟩
set_option maxHeartbeats 4000000 in
theorem law_run {p : Program} {e : Env} {s : State} {m : MethodId} {below : List Frame} {meth : Method} {c : Code} (l : Launch) {b L : Nat} {xs : Nat → Int32} (C0 : lw_At p s m meth c b L xs) {n : Nat} {m' : xM} (hix : ix xG xfty xacl xna xmx xrc xrk n 60 j_L_law 0 [.ref (xS + 60), xb, xb, xb] [] (xm0 L xs) = some (some (.int 1), m')) (hm1 : m'.1 ≤ 600000) (hm2 : m'.2.1 ≤ 7302250) : W p l e room_1 s m #[Value.ref b] below meth c s.heap [] 0 0 (lw_Z below #[Value.ref b] s) (entryFrame m ([Value.ref b] : List Value).toArray 4) := by
  obtain ⟨hx, hb, hr, hml, hown, hts, hX, hbl, hlocks, hgv⟩ := C0
  have hA : ∀ a : Nat, a < s.heap.size → ¬ (fun q => s.heap.size ≤ q) a := fun a h => Nat.not_le.mpr h
  have hfl : ∀ w ∈ xfl, w.before #[Value.ref b] s = true := flat_of_before _ hgv
  have htg : ∀ w ∈ xgt, w.before #[Value.ref b] s = true := fun w hw => hts w (List.mem_filter.mp hw).1
  have hKn : ∀ k : Nat, ∃ q : ClassId × (Nat → Nat), ∀ r, xcls[k]? = some r → u_Kn s r.1 r.2.1 r.2.2 q.1 q.2 := by
    intro k
    cases hk : xcls[k]? with
    | none => exact ⟨(0, fun _ => 0), fun r h => by cases h⟩
    | some r =>
      obtain ⟨C, T, N⟩ := r
      obtain ⟨k1, k2, k3, k4, k5, k6⟩ := xCl_ok.2 _ _ _ _ hk
      obtain ⟨cC, iS, h⟩ := u_known (C := C) (T := T) (N := N) (n := N) htg k2 (htg _ k5)
      exact ⟨(cC, iS), fun r h' => by cases h'; exact h⟩
  obtain ⟨dd, hdd⟩ := Classical.axiomOfChoice hKn
  have hAr : ∀ t : Nat, ∃ cA : ClassId, t < 7 → ArrOfT s cA (xat xcls xacl t) ∧ va_RA s cA (xat xcls xacl t) := by
    intro t
    have prim : ∀ ty : FieldType, ty ∈ [FieldType.int, .byte, .long, .boolean] → xat xcls xacl t = ty → ∃ cA : ClassId, t < 7 → ArrOfT s cA (xat xcls xacl t) ∧ va_RA s cA (xat xcls xacl t) := by
      intro ty hty he
      obtain ⟨cA, kA, comp, f1, f2, f3⟩ := Cond.arrayClass_spec (htg _ (xWd_ok.2.2.1 ty hty))
      refine ⟨cA, fun _ => ?_⟩
      rw [he]
      refine ⟨fun n z => ⟨fun k h => (by cases h), kA, f2, comp, f3⟩, ?_⟩
      simp only [List.mem_cons, List.not_mem_nil, or_false] at hty
      rcases hty with rfl | rfl | rfl | rfl <;> exact f1
    match t with
    | 0 => exact prim .int (by simp) rfl
    | 1 => exact prim .byte (by simp) rfl
    | 2 => exact prim .long (by simp) rfl
    | 3 => exact prim .boolean (by simp) rfl
    | t + 4 =>
      by_cases h7 : t + 4 < 7
      · obtain ⟨r, hr0⟩ := xat_ov (t + 4) h7 (by omega)
        have e0 : xat xcls xacl (t + 4) = .object r.1 := by rw [xat_ob (by omega), hr0]; rfl
        have h1 := hts _ (xl_ov (t + 4) h7 (by omega))
        rw [e0] at h1 ⊢
        obtain ⟨comp, cA, kA, f1, f2, f3, f4, f5⟩ := Cond.arrayOver_spec h1
        exact ⟨cA, fun _ => ⟨fun n z => ⟨fun k h => (by cases h), kA, f3, comp, f4⟩, kA, comp, f3, f4, f1, f5⟩⟩
      · exact ⟨0, fun h => absurd h h7⟩
  obtain ⟨aC, haC⟩ := Classical.axiomOfChoice hAr
  obtain ⟨adK, adV, hS6, hadK⟩ := vk_Sof (args := #[Value.ref b]) (s := s) (N := 6) (tm := xtm) (len := xlens) (byt := xbyt) (A := fun q => s.heap.size ≤ q) (by decide +kernel) (fun i hi => hfl _ (xf_ex i hi)) (fun i hi => hfl _ (xf_co i hi)) (fun i hi => hfl _ (xf_ar i hi)) (fun i hi => hfl _ (xf_le i hi)) (fun i hi j hj => hfl _ (xf_el i hi j hj)) (fun i j hi hj hij => (xf_ne i hi j hj hij).imp (hfl _) (hfl _)) hA
  have hfm : ∃ v : Value, ((∃ a, v = .ref a) ∨ v = .null) ∧ va_Z "jdk/internal/util/Preconditions" "SIOOBE_FORMATTER" "Ljava/util/function/BiFunction;" v (fun q => s.heap.size ≤ q) s s.heap := by
    rcases va_Zqof (A := fun q => s.heap.size ≤ q) (hts _ xl_fm.1) (hts _ xl_fm.2) (hfl _ xf_fm) hA with h | ⟨t, h⟩
    · exact ⟨_, Or.inr rfl, h⟩
    · exact ⟨_, Or.inl ⟨t, rfl⟩, h⟩
  obtain ⟨fm, hfm1, hfm2⟩ := hfm
  have hspE : ∃ sp : Nat → Value, sp 60 = .ref b ∧ sp 50 = fm ∧ (∀ i, i < 6 → sp (2 * i) = .ref (adK i) ∧ sp (2 * i + 1) = .ref (adV i)) ∧ ∀ i, (∃ a, sp i = .ref a) ∨ sp i = .null := by
    refine ⟨fun i => if i = 60 then .ref b else if i = 50 then fm else if i % 2 = 0 then .ref (adK (i / 2)) else .ref (adV (i / 2)), by simp, by simp, fun i hi => ?_, fun i => ?_⟩
    · have a1 : ¬ 2 * i = 60 := by omega
      have a2 : ¬ 2 * i = 50 := by omega
      have a3 : ¬ 2 * i + 1 = 60 := by omega
      have a4 : ¬ 2 * i + 1 = 50 := by omega
      have a5 : 2 * i % 2 = 0 := by omega
      have a6 : ¬ (2 * i + 1) % 2 = 0 := by omega
      have a7 : 2 * i / 2 = i := by omega
      have a8 : (2 * i + 1) / 2 = i := by omega
      simp only [if_neg a1, if_neg a2, if_neg a3, if_neg a4, if_pos a5, if_neg a6, a7, a8]
      exact ⟨trivial, trivial⟩
    · dsimp only
      split
      · exact Or.inl ⟨_, rfl⟩
      · split
        · exact hfm1
        · split
          · exact Or.inl ⟨_, rfl⟩
          · exact Or.inl ⟨_, rfl⟩
  obtain ⟨sp, hsp60, hsp50, hspi, hspr⟩ := hspE
  have hcat : ∀ i, (sp i).category = 1 := fun i => by
    rcases hspr i with ⟨a, h⟩ | h <;> rw [h] <;> rfl
  have hsp : xSp xstr xlens xbyt s.heap.size sp adK adV b L xs (xsp0 L xs) := by
    refine ⟨hcat, hspr, hbl, fun q hq => ⟨(xst_ix q hq).1, (xst_ix q hq).2.1⟩, hspi, hsp60, fun k c h => ?_⟩
    unfold xsp0 at h
    split at h
    · cases h
    · rename_i hk
      refine ⟨by omega, ?_⟩
      split at h
      · cases h
        exact Or.inr (Or.inr ⟨by omega, rfl⟩)
      · split at h
        · split at h
          · rename_i h12 he
            cases h
            refine Or.inl ⟨(k - xS) / 2, by omega, by omega, ?_⟩
            rw [show 2 * ((k - xS) / 2) = k - xS by omega]
          · rename_i h12 he
            cases h
            exact Or.inr (Or.inl ⟨(k - xS) / 2, by omega, by omega, rfl⟩)
        · cases h
  have hE : xE xcls xacl xnst xstr xlens xbyt s.heap.size sp (fun k => (dd k).1, fun k => (dd k).2) aC adK adV b L xs s s.heap := by
    refine ⟨⟨fun k q hq => hdd k q hq, fun k q hq => ?_⟩, fun w hw => ?_, fun t h4 h7 r hr0 => ?_, hS6, fun q hq => ?_, va_Zof (hts _ xl_cs.1) (hts _ xl_cs.2) (va_eqi (hfl _ xf_cs)) hA, by rw [hsp50]; exact hfm2, hX⟩
    · have h7 : k < 7 := by
        have := (List.getElem?_eq_some_iff.mp hq).1
        simpa [xty] using this
      rw [xty_at k h7] at hq
      cases hq
      exact haC k h7
    · have h1 := hts w (xnst_mem w hw)
      rcases xWd_ok.2.1 w hw with ⟨a, i, y, hh, rfl⟩ | rfl
      · exact va_Nw.of rfl h1
      · exact va_Nw.of rfl h1
    · have h1 := hts _ (xl_ov t h7 h4)
      rw [xat_ob h4, hr0] at h1
      exact va_AO.of h1
    · obtain ⟨g1, g2, g3⟩ := xst_ix q hq
      have h1 := hadK (q.1 / 2) g2
      rw [g3] at h1
      exact vk_R.of (hts _ (xl_st q hq)) h1
  have hO : xOk (xsp0 L xs) (xm0 L xs) := by
    refine ⟨Nat.zero_le _, fun k hk => ?_, fun k hk => rfl⟩
    simp [xm0, xsp0, hk]
  have hP : va_P (fun k => (dd k).1, fun k => (dd k).2) xcls (pw s.heap.size sp aC (xm0 L xs)) s.heap := fun k q h => by simp [pw, xm0] at h
  have hL := xLs.entry (B := s.heap.size) (sp := sp) (as := [.ref (xS + 60)]) (nL := 4) hcat (by decide)
  rw [show ([.ref (xS + 60)] : List Value).map (cv s.heap.size sp) = [.ref b] by simp only [List.map_cons, List.map_nil, cv_sp, hsp60]] at hL
  rw [lg_entry_eq]
  have hsnd := ix_sound (l := l) (B := s.heap.size) (sp := sp) (sp0 := xsp0 L xs) (D := (fun k => (dd k).1, fun k => (dd k).2)) (aC := aC) (adK := adK) (adV := adV) (b := b) (L := L) (sc := xs) xWd_ok xCl_ok xMe_ok xGo_ok hsp n
  refine hsnd 60 j_L_law 0 [.ref (xS + 60), xb, xb, xb] [] (xm0 L xs) (some (.int 1)) m' hix (by decide) p e room_1 s m #[Value.ref b] below meth c s.heap [] 0 0 (lw_Z below #[Value.ref b] s) _ ⟨hx, hb, hml, hown, htg, fun h => absurd h (by decide +kernel)⟩ hE (Nat.le_refl _) ⟨hP, rfl, va_S.rf, hO⟩ hL (by decide) (by decide) ?_ ?_ ?_
  · show 0 + (m'.1 - 0) ≤ 600000
    omega
  · show 0 + (m'.2.1 - 0) ≤ 7302250
    omega
  · intro H' locs' lsA' pc' hH' hret
    refine va_forget (fun q hq => hH'.2.2.1.2.2 q hq) ?_
    refine W.widen (k := 600000) (n := 7302250) (by show 0 + (m'.1 - 0) ≤ 600000; omega) (by show 0 + (m'.2.1 - 0) ≤ 7302250; omega) ?_
    exact lw_ret hx hb hr hlocks hret.1
end
section
/-! RULES OF THE CALCULUS, CLEAN FORMS; calls whose answer is told. -/
section RN2
variable {d j pc len pc' : Nat} {ls st : List Value} {m m1 : xM} {P : Option Value → xM → Prop}
theorem Rn.iadd {x y : Int32} (hG : xG j pc = some (.iadd, len)) (hp : pc + len = pc') (k : Rn d j pc' ls (.int (x + y) :: st) m P) : Rn d j pc ls (.int y :: .int x :: st) m P := by
  subst hp
  exact Rn.step hG rfl k
theorem Rn.isub {x y : Int32} (hG : xG j pc = some (.isub, len)) (hp : pc + len = pc') (k : Rn d j pc' ls (.int (x - y) :: st) m P) : Rn d j pc ls (.int y :: .int x :: st) m P := by
  subst hp
  exact Rn.step hG rfl k
theorem Rn.imul {x y : Int32} (hG : xG j pc = some (.imul, len)) (hp : pc + len = pc') (k : Rn d j pc' ls (.int (x * y) :: st) m P) : Rn d j pc ls (.int y :: .int x :: st) m P := by
  subst hp
  exact Rn.step hG rfl k
theorem Rn.iand {x y : Int32} (hG : xG j pc = some (.iand, len)) (hp : pc + len = pc') (k : Rn d j pc' ls (.int (x &&& y) :: st) m P) : Rn d j pc ls (.int y :: .int x :: st) m P := by
  subst hp
  exact Rn.step hG rfl k
theorem Rn.ior {x y : Int32} (hG : xG j pc = some (.ior, len)) (hp : pc + len = pc') (k : Rn d j pc' ls (.int (x ||| y) :: st) m P) : Rn d j pc ls (.int y :: .int x :: st) m P := by
  subst hp
  exact Rn.step hG rfl k
theorem Rn.ishl {x y : Int32} (hG : xG j pc = some (.ishl, len)) (hp : pc + len = pc') (k : Rn d j pc' ls (.int (x <<< (y &&& 31)) :: st) m P) : Rn d j pc ls (.int y :: .int x :: st) m P := by
  subst hp
  exact Rn.step hG rfl k
theorem Rn.ishr {x y : Int32} (hG : xG j pc = some (.ishr, len)) (hp : pc + len = pc') (k : Rn d j pc' ls (.int (x >>> (y &&& 31)) :: st) m P) : Rn d j pc ls (.int y :: .int x :: st) m P := by
  subst hp
  exact Rn.step hG rfl k
theorem Rn.iushr {x y : Int32} (hG : xG j pc = some (.iushr, len)) (hp : pc + len = pc') (k : Rn d j pc' ls (.int ((x.toUInt32 >>> (y.toUInt32 &&& Int32.toUInt32 31)).toInt32) :: st) m P) : Rn d j pc ls (.int y :: .int x :: st) m P := by
  subst hp
  exact Rn.step hG rfl k
theorem Rn.ladd {x y : Int64} (hG : xG j pc = some (.ladd, len)) (hp : pc + len = pc') (k : Rn d j pc' ls (.long (x + y) :: st) m P) : Rn d j pc ls (.long y :: .long x :: st) m P := by
  subst hp
  exact Rn.step hG rfl k
theorem Rn.lsub {x y : Int64} (hG : xG j pc = some (.lsub, len)) (hp : pc + len = pc') (k : Rn d j pc' ls (.long (x - y) :: st) m P) : Rn d j pc ls (.long y :: .long x :: st) m P := by
  subst hp
  exact Rn.step hG rfl k
theorem Rn.lmul {x y : Int64} (hG : xG j pc = some (.lmul, len)) (hp : pc + len = pc') (k : Rn d j pc' ls (.long (x * y) :: st) m P) : Rn d j pc ls (.long y :: .long x :: st) m P := by
  subst hp
  exact Rn.step hG rfl k
theorem Rn.land {x y : Int64} (hG : xG j pc = some (.land, len)) (hp : pc + len = pc') (k : Rn d j pc' ls (.long (x &&& y) :: st) m P) : Rn d j pc ls (.long y :: .long x :: st) m P := by
  subst hp
  exact Rn.step hG rfl k
theorem Rn.lor {x y : Int64} (hG : xG j pc = some (.lor, len)) (hp : pc + len = pc') (k : Rn d j pc' ls (.long (x ||| y) :: st) m P) : Rn d j pc ls (.long y :: .long x :: st) m P := by
  subst hp
  exact Rn.step hG rfl k
theorem Rn.lshl {x : Int64} {y : Int32} (hG : xG j pc = some (.lshl, len)) (hp : pc + len = pc') (k : Rn d j pc' ls (.long (x <<< (y.toInt64 &&& 63)) :: st) m P) : Rn d j pc ls (.int y :: .long x :: st) m P := by
  subst hp
  exact Rn.step hG rfl k
theorem Rn.lcmp {x y : Int64} (hG : xG j pc = some (.lcmp, len)) (hp : pc + len = pc') (k : Rn d j pc' ls (.int (lg_cmp x y) :: st) m P) : Rn d j pc ls (.long y :: .long x :: st) m P := by
  subst hp
  exact Rn.step hG rfl k
theorem Rn.i2l {x : Int32} (hG : xG j pc = some (.i2l, len)) (hp : pc + len = pc') (k : Rn d j pc' ls (.long x.toInt64 :: st) m P) : Rn d j pc ls (.int x :: st) m P := by
  subst hp
  exact Rn.step hG rfl k
theorem Rn.l2i {x : Int64} (hG : xG j pc = some (.l2i, len)) (hp : pc + len = pc') (k : Rn d j pc' ls (.int x.toInt32 :: st) m P) : Rn d j pc ls (.long x :: st) m P := by
  subst hp
  exact Rn.step hG rfl k
theorem Rn.i2b {x : Int32} (hG : xG j pc = some (.i2b, len)) (hp : pc + len = pc') (k : Rn d j pc' ls (.int x.toInt8.toInt32 :: st) m P) : Rn d j pc ls (.int x :: st) m P := by
  subst hp
  exact Rn.step hG rfl k
theorem Rn.i2c {x : Int32} (hG : xG j pc = some (.i2c, len)) (hp : pc + len = pc') (k : Rn d j pc' ls (.int (x.toUInt32 % 65536).toInt32 :: st) m P) : Rn d j pc ls (.int x :: st) m P := by
  subst hp
  exact Rn.step hG rfl k
theorem Rn.idiv {x y : Int32} (hG : xG j pc = some (.idiv, len)) (hn : ¬ y = 0) (hp : pc + len = pc') (k : Rn d j pc' ls (.int (x / y) :: st) m P) : Rn d j pc ls (.int y :: .int x :: st) m P := by
  subst hp
  exact Rn.step hG (by simp only [xs, if_neg hn]) k
theorem Rn.irem {x y : Int32} (hG : xG j pc = some (.irem, len)) (hn : ¬ y = 0) (hp : pc + len = pc') (k : Rn d j pc' ls (.int (x - x / y * y) :: st) m P) : Rn d j pc ls (.int y :: .int x :: st) m P := by
  subst hp
  exact Rn.step hG (by simp only [xs, if_neg hn]) k
theorem Rn.ldiv {x y : Int64} (hG : xG j pc = some (.ldiv, len)) (hn : ¬ y = 0) (hp : pc + len = pc') (k : Rn d j pc' ls (.long (x / y) :: st) m P) : Rn d j pc ls (.long y :: .long x :: st) m P := by
  subst hp
  exact Rn.step hG (by simp only [xs, if_neg hn]) k
theorem Rn.lrem {x y : Int64} (hG : xG j pc = some (.lrem, len)) (hn : ¬ y = 0) (hp : pc + len = pc') (k : Rn d j pc' ls (.long (x - x / y * y) :: st) m P) : Rn d j pc ls (.long y :: .long x :: st) m P := by
  subst hp
  exact Rn.step hG (by simp only [xs, if_neg hn]) k
/-- what is told of an answer and of the memory behind it -/
abbrev Pi (x : Int32) (m1 : xM) : Option Value → xM → Prop := fun r m' => r = some (.int x) ∧ m' = m1
abbrev Pg (x : Int64) (m1 : xM) : Option Value → xM → Prop := fun r m' => r = some (.long x) ∧ m' = m1
abbrev Pa (x : Nat) (m1 : xM) : Option Value → xM → Prop := fun r m' => r = some (.ref x) ∧ m' = m1
abbrev Pv (m1 : xM) : Option Value → xM → Prop := fun r m' => r = none ∧ m' = m1
theorem Rn.reti {v x : Int32} (hG : xG j pc = some (.ireturn, len)) (hn : narrow (xrk j) (.int v) = .int v) (hv : v = x) (hm : m = m1) : Rn d j pc ls [.int v] m (Pi x m1) := Rn.iret hG hn ⟨by rw [hv], hm⟩
theorem Rn.retl {v x : Int64} (hG : xG j pc = some (.lreturn, len)) (hv : v = x) (hm : m = m1) : Rn d j pc ls [.long v] m (Pg x m1) := Rn.lret hG ⟨by rw [hv], hm⟩
theorem Rn.retv (hG : xG j pc = some (.return_, len)) (hm : m = m1) : Rn d j pc ls [] m (Pv m1) := Rn.vret hG ⟨rfl, hm⟩
theorem Rn.reta {v x : Nat} (hG : xG j pc = some (.areturn, len)) (hl : v < xS) (hv : v = x) (hm : m = m1) : Rn d j pc ls [.ref v] m (Pa x m1) := Rn.aret hG hl ⟨by rw [hv], hm⟩
theorem Rn.vi {k : Nat} {as rest : List Value} {x : Int32} (hG : xG j pc = some (.invokevirtual k, len)) (hk : k ≠ 9997) (hd : 0 < d) (ha : x_arg xna xmx k st = some (as, rest)) (hr : x_rcv xrc k m as = true) (hp : pc + len = pc') (hc : Cl (d - 1) k as m (Pi x m1)) (kk : Rn d j pc' ls (.int x :: rest) m1 P) : Rn d j pc ls st m P := Rn.callV hG hk hd ha hr hp hc (fun _ _ h => by
  obtain ⟨rfl, rfl⟩ := h
  exact kk)
theorem Rn.si {k : Nat} {as rest : List Value} {x : Int32} (hG : xG j pc = some (.invokestatic k, len)) (hk : k ≠ 9998) (hd : 0 < d) (ha : x_arg xna xmx k st = some (as, rest)) (hp : pc + len = pc') (hc : Cl (d - 1) k as m (Pi x m1)) (kk : Rn d j pc' ls (.int x :: rest) m1 P) : Rn d j pc ls st m P := Rn.callS hG hk hd ha hp hc (fun _ _ h => by
  obtain ⟨rfl, rfl⟩ := h
  exact kk)
theorem Rn.vg {k : Nat} {as rest : List Value} {x : Int64} (hG : xG j pc = some (.invokevirtual k, len)) (hk : k ≠ 9997) (hd : 0 < d) (ha : x_arg xna xmx k st = some (as, rest)) (hr : x_rcv xrc k m as = true) (hp : pc + len = pc') (hc : Cl (d - 1) k as m (Pg x m1)) (kk : Rn d j pc' ls (.long x :: rest) m1 P) : Rn d j pc ls st m P := Rn.callV hG hk hd ha hr hp hc (fun _ _ h => by
  obtain ⟨rfl, rfl⟩ := h
  exact kk)
theorem Rn.sg {k : Nat} {as rest : List Value} {x : Int64} (hG : xG j pc = some (.invokestatic k, len)) (hk : k ≠ 9998) (hd : 0 < d) (ha : x_arg xna xmx k st = some (as, rest)) (hp : pc + len = pc') (hc : Cl (d - 1) k as m (Pg x m1)) (kk : Rn d j pc' ls (.long x :: rest) m1 P) : Rn d j pc ls st m P := Rn.callS hG hk hd ha hp hc (fun _ _ h => by
  obtain ⟨rfl, rfl⟩ := h
  exact kk)
theorem Rn.va {k : Nat} {as rest : List Value} {x : Nat} (hG : xG j pc = some (.invokevirtual k, len)) (hk : k ≠ 9997) (hd : 0 < d) (ha : x_arg xna xmx k st = some (as, rest)) (hr : x_rcv xrc k m as = true) (hp : pc + len = pc') (hc : Cl (d - 1) k as m (Pa x m1)) (kk : Rn d j pc' ls (.ref x :: rest) m1 P) : Rn d j pc ls st m P := Rn.callV hG hk hd ha hr hp hc (fun _ _ h => by
  obtain ⟨rfl, rfl⟩ := h
  exact kk)
theorem Rn.sa {k : Nat} {as rest : List Value} {x : Nat} (hG : xG j pc = some (.invokestatic k, len)) (hk : k ≠ 9998) (hd : 0 < d) (ha : x_arg xna xmx k st = some (as, rest)) (hp : pc + len = pc') (hc : Cl (d - 1) k as m (Pa x m1)) (kk : Rn d j pc' ls (.ref x :: rest) m1 P) : Rn d j pc ls st m P := Rn.callS hG hk hd ha hp hc (fun _ _ h => by
  obtain ⟨rfl, rfl⟩ := h
  exact kk)
theorem Rn.vv {k : Nat} {as rest : List Value} (hG : xG j pc = some (.invokevirtual k, len)) (hk : k ≠ 9997) (hd : 0 < d) (ha : x_arg xna xmx k st = some (as, rest)) (hr : x_rcv xrc k m as = true) (hp : pc + len = pc') (hc : Cl (d - 1) k as m (Pv m1)) (kk : Rn d j pc' ls (rest) m1 P) : Rn d j pc ls st m P := Rn.callV hG hk hd ha hr hp hc (fun _ _ h => by
  obtain ⟨rfl, rfl⟩ := h
  exact kk)
theorem Rn.sv {k : Nat} {as rest : List Value} (hG : xG j pc = some (.invokestatic k, len)) (hk : k ≠ 9998) (hd : 0 < d) (ha : x_arg xna xmx k st = some (as, rest)) (hp : pc + len = pc') (hc : Cl (d - 1) k as m (Pv m1)) (kk : Rn d j pc' ls (rest) m1 P) : Rn d j pc ls st m P := Rn.callS hG hk hd ha hp hc (fun _ _ h => by
  obtain ⟨rfl, rfl⟩ := h
  exact kk)
theorem Rn.ls1 {a0 b0 : Value} (h0 : a0 = b0) (k : Rn d j pc [b0] st m P) : Rn d j pc [a0] st m P := by
  subst h0
  exact k
theorem Rn.ls2 {a0 a1 b0 b1 : Value} (h0 : a0 = b0) (h1 : a1 = b1) (k : Rn d j pc [b0, b1] st m P) : Rn d j pc [a0, a1] st m P := by
  subst h0 h1
  exact k
theorem Rn.ls3 {a0 a1 a2 b0 b1 b2 : Value} (h0 : a0 = b0) (h1 : a1 = b1) (h2 : a2 = b2) (k : Rn d j pc [b0, b1, b2] st m P) : Rn d j pc [a0, a1, a2] st m P := by
  subst h0 h1 h2
  exact k
theorem Rn.ls4 {a0 a1 a2 a3 b0 b1 b2 b3 : Value} (h0 : a0 = b0) (h1 : a1 = b1) (h2 : a2 = b2) (h3 : a3 = b3) (k : Rn d j pc [b0, b1, b2, b3] st m P) : Rn d j pc [a0, a1, a2, a3] st m P := by
  subst h0 h1 h2 h3
  exact k
theorem Rn.ls5 {a0 a1 a2 a3 a4 b0 b1 b2 b3 b4 : Value} (h0 : a0 = b0) (h1 : a1 = b1) (h2 : a2 = b2) (h3 : a3 = b3) (h4 : a4 = b4) (k : Rn d j pc [b0, b1, b2, b3, b4] st m P) : Rn d j pc [a0, a1, a2, a3, a4] st m P := by
  subst h0 h1 h2 h3 h4
  exact k
theorem Rn.ls6 {a0 a1 a2 a3 a4 a5 b0 b1 b2 b3 b4 b5 : Value} (h0 : a0 = b0) (h1 : a1 = b1) (h2 : a2 = b2) (h3 : a3 = b3) (h4 : a4 = b4) (h5 : a5 = b5) (k : Rn d j pc [b0, b1, b2, b3, b4, b5] st m P) : Rn d j pc [a0, a1, a2, a3, a4, a5] st m P := by
  subst h0 h1 h2 h3 h4 h5
  exact k
theorem Rn.ls7 {a0 a1 a2 a3 a4 a5 a6 b0 b1 b2 b3 b4 b5 b6 : Value} (h0 : a0 = b0) (h1 : a1 = b1) (h2 : a2 = b2) (h3 : a3 = b3) (h4 : a4 = b4) (h5 : a5 = b5) (h6 : a6 = b6) (k : Rn d j pc [b0, b1, b2, b3, b4, b5, b6] st m P) : Rn d j pc [a0, a1, a2, a3, a4, a5, a6] st m P := by
  subst h0 h1 h2 h3 h4 h5 h6
  exact k
theorem Rn.ls8 {a0 a1 a2 a3 a4 a5 a6 a7 b0 b1 b2 b3 b4 b5 b6 b7 : Value} (h0 : a0 = b0) (h1 : a1 = b1) (h2 : a2 = b2) (h3 : a3 = b3) (h4 : a4 = b4) (h5 : a5 = b5) (h6 : a6 = b6) (h7 : a7 = b7) (k : Rn d j pc [b0, b1, b2, b3, b4, b5, b6, b7] st m P) : Rn d j pc [a0, a1, a2, a3, a4, a5, a6, a7] st m P := by
  subst h0 h1 h2 h3 h4 h5 h6 h7
  exact k
theorem Rn.ls9 {a0 a1 a2 a3 a4 a5 a6 a7 a8 b0 b1 b2 b3 b4 b5 b6 b7 b8 : Value} (h0 : a0 = b0) (h1 : a1 = b1) (h2 : a2 = b2) (h3 : a3 = b3) (h4 : a4 = b4) (h5 : a5 = b5) (h6 : a6 = b6) (h7 : a7 = b7) (h8 : a8 = b8) (k : Rn d j pc [b0, b1, b2, b3, b4, b5, b6, b7, b8] st m P) : Rn d j pc [a0, a1, a2, a3, a4, a5, a6, a7, a8] st m P := by
  subst h0 h1 h2 h3 h4 h5 h6 h7 h8
  exact k
theorem Rn.ls10 {a0 a1 a2 a3 a4 a5 a6 a7 a8 a9 b0 b1 b2 b3 b4 b5 b6 b7 b8 b9 : Value} (h0 : a0 = b0) (h1 : a1 = b1) (h2 : a2 = b2) (h3 : a3 = b3) (h4 : a4 = b4) (h5 : a5 = b5) (h6 : a6 = b6) (h7 : a7 = b7) (h8 : a8 = b8) (h9 : a9 = b9) (k : Rn d j pc [b0, b1, b2, b3, b4, b5, b6, b7, b8, b9] st m P) : Rn d j pc [a0, a1, a2, a3, a4, a5, a6, a7, a8, a9] st m P := by
  subst h0 h1 h2 h3 h4 h5 h6 h7 h8 h9
  exact k
theorem Rn.ls11 {a0 a1 a2 a3 a4 a5 a6 a7 a8 a9 a10 b0 b1 b2 b3 b4 b5 b6 b7 b8 b9 b10 : Value} (h0 : a0 = b0) (h1 : a1 = b1) (h2 : a2 = b2) (h3 : a3 = b3) (h4 : a4 = b4) (h5 : a5 = b5) (h6 : a6 = b6) (h7 : a7 = b7) (h8 : a8 = b8) (h9 : a9 = b9) (h10 : a10 = b10) (k : Rn d j pc [b0, b1, b2, b3, b4, b5, b6, b7, b8, b9, b10] st m P) : Rn d j pc [a0, a1, a2, a3, a4, a5, a6, a7, a8, a9, a10] st m P := by
  subst h0 h1 h2 h3 h4 h5 h6 h7 h8 h9 h10
  exact k
theorem Rn.ls12 {a0 a1 a2 a3 a4 a5 a6 a7 a8 a9 a10 a11 b0 b1 b2 b3 b4 b5 b6 b7 b8 b9 b10 b11 : Value} (h0 : a0 = b0) (h1 : a1 = b1) (h2 : a2 = b2) (h3 : a3 = b3) (h4 : a4 = b4) (h5 : a5 = b5) (h6 : a6 = b6) (h7 : a7 = b7) (h8 : a8 = b8) (h9 : a9 = b9) (h10 : a10 = b10) (h11 : a11 = b11) (k : Rn d j pc [b0, b1, b2, b3, b4, b5, b6, b7, b8, b9, b10, b11] st m P) : Rn d j pc [a0, a1, a2, a3, a4, a5, a6, a7, a8, a9, a10, a11] st m P := by
  subst h0 h1 h2 h3 h4 h5 h6 h7 h8 h9 h10 h11
  exact k
theorem Rn.mm {m2 : xM} (h : m = m2) (k : Rn d j pc ls st m2 P) : Rn d j pc ls st m P := by
  subst h
  exact k
theorem i1 : Int32.ofInt 1 = 1 := by decide
theorem nI_i1 (k : Nat) : nI k + Int32.ofInt 1 = nI (k + 1) := by rw [i1]; exact nI_1 k
theorem Rn.icmp_eq {t : Int} {x y : Int32} {pc1 pc2 : Nat} (hG : xG j pc = some (.if_icmp .eq t, len)) (h1 : t.toNat = pc1) (h2 : pc + len = pc2) (k1 : x = y → Rn d j pc1 ls st m P) (k2 : ¬ x = y → Rn d j pc2 ls st m P) : Rn d j pc ls (.int y :: .int x :: st) m P := Rn.icmp hG h1 h2 k1 k2
theorem Rn.ifc_eq {t : Int} {x : Int32} {pc1 pc2 : Nat} (hG : xG j pc = some (.ifCond .eq t, len)) (h1 : t.toNat = pc1) (h2 : pc + len = pc2) (k1 : x = 0 → Rn d j pc1 ls st m P) (k2 : ¬ x = 0 → Rn d j pc2 ls st m P) : Rn d j pc ls (.int x :: st) m P := Rn.ifc hG h1 h2 k1 k2
theorem Rn.icmp_ne {t : Int} {x y : Int32} {pc1 pc2 : Nat} (hG : xG j pc = some (.if_icmp .ne t, len)) (h1 : t.toNat = pc1) (h2 : pc + len = pc2) (k1 : ¬ x = y → Rn d j pc1 ls st m P) (k2 : x = y → Rn d j pc2 ls st m P) : Rn d j pc ls (.int y :: .int x :: st) m P := Rn.icmp hG h1 h2 k1 (fun h => k2 (Decidable.not_not.mp h))
theorem Rn.ifc_ne {t : Int} {x : Int32} {pc1 pc2 : Nat} (hG : xG j pc = some (.ifCond .ne t, len)) (h1 : t.toNat = pc1) (h2 : pc + len = pc2) (k1 : ¬ x = 0 → Rn d j pc1 ls st m P) (k2 : x = 0 → Rn d j pc2 ls st m P) : Rn d j pc ls (.int x :: st) m P := Rn.ifc hG h1 h2 k1 (fun h => k2 (Decidable.not_not.mp h))
theorem Rn.icmp_lt {t : Int} {x y : Int32} {pc1 pc2 : Nat} (hG : xG j pc = some (.if_icmp .lt t, len)) (h1 : t.toNat = pc1) (h2 : pc + len = pc2) (k1 : x < y → Rn d j pc1 ls st m P) (k2 : ¬ x < y → Rn d j pc2 ls st m P) : Rn d j pc ls (.int y :: .int x :: st) m P := Rn.icmp hG h1 h2 k1 k2
theorem Rn.ifc_lt {t : Int} {x : Int32} {pc1 pc2 : Nat} (hG : xG j pc = some (.ifCond .lt t, len)) (h1 : t.toNat = pc1) (h2 : pc + len = pc2) (k1 : x < 0 → Rn d j pc1 ls st m P) (k2 : ¬ x < 0 → Rn d j pc2 ls st m P) : Rn d j pc ls (.int x :: st) m P := Rn.ifc hG h1 h2 k1 k2
theorem Rn.icmp_ge {t : Int} {x y : Int32} {pc1 pc2 : Nat} (hG : xG j pc = some (.if_icmp .ge t, len)) (h1 : t.toNat = pc1) (h2 : pc + len = pc2) (k1 : y ≤ x → Rn d j pc1 ls st m P) (k2 : ¬ y ≤ x → Rn d j pc2 ls st m P) : Rn d j pc ls (.int y :: .int x :: st) m P := Rn.icmp hG h1 h2 k1 k2
theorem Rn.ifc_ge {t : Int} {x : Int32} {pc1 pc2 : Nat} (hG : xG j pc = some (.ifCond .ge t, len)) (h1 : t.toNat = pc1) (h2 : pc + len = pc2) (k1 : 0 ≤ x → Rn d j pc1 ls st m P) (k2 : ¬ 0 ≤ x → Rn d j pc2 ls st m P) : Rn d j pc ls (.int x :: st) m P := Rn.ifc hG h1 h2 k1 k2
theorem Rn.icmp_gt {t : Int} {x y : Int32} {pc1 pc2 : Nat} (hG : xG j pc = some (.if_icmp .gt t, len)) (h1 : t.toNat = pc1) (h2 : pc + len = pc2) (k1 : y < x → Rn d j pc1 ls st m P) (k2 : ¬ y < x → Rn d j pc2 ls st m P) : Rn d j pc ls (.int y :: .int x :: st) m P := Rn.icmp hG h1 h2 k1 k2
theorem Rn.ifc_gt {t : Int} {x : Int32} {pc1 pc2 : Nat} (hG : xG j pc = some (.ifCond .gt t, len)) (h1 : t.toNat = pc1) (h2 : pc + len = pc2) (k1 : 0 < x → Rn d j pc1 ls st m P) (k2 : ¬ 0 < x → Rn d j pc2 ls st m P) : Rn d j pc ls (.int x :: st) m P := Rn.ifc hG h1 h2 k1 k2
theorem Rn.icmp_le {t : Int} {x y : Int32} {pc1 pc2 : Nat} (hG : xG j pc = some (.if_icmp .le t, len)) (h1 : t.toNat = pc1) (h2 : pc + len = pc2) (k1 : x ≤ y → Rn d j pc1 ls st m P) (k2 : ¬ x ≤ y → Rn d j pc2 ls st m P) : Rn d j pc ls (.int y :: .int x :: st) m P := Rn.icmp hG h1 h2 k1 k2
theorem Rn.ifc_le {t : Int} {x : Int32} {pc1 pc2 : Nat} (hG : xG j pc = some (.ifCond .le t, len)) (h1 : t.toNat = pc1) (h2 : pc + len = pc2) (k1 : x ≤ 0 → Rn d j pc1 ls st m P) (k2 : ¬ x ≤ 0 → Rn d j pc2 ls st m P) : Rn d j pc ls (.int x :: st) m P := Rn.ifc hG h1 h2 k1 k2
end RN2
end
section
/-! THE MODEL'S MEMORY: its object is cell 50, its arrays are the cells 51 to 68; v: its int fields by slot, dx: drawX, A: its arrays of ints (bytes, booleans) by cell, LA: of longs. -/
def mobj (v : Nat → Int32) (dx : Int64) : List Value := [.ref 51, .int (v 1), .int (v 2), .ref 52, .ref 53, .ref 54, .ref 55, .ref 56, .int (v 8), .int (v 9), .int (v 10), .int (v 11), .int (v 12), .int (v 13), .int (v 14), .ref 57, .int (v 16), .ref 58, .int (v 18), .ref 59, .ref 60, .int (v 21), .int (v 22), .int (v 23), .int (v 24), .int (v 25), .ref 61, .int (v 27), .ref 62, .int (v 29), .int (v 30), .int (v 31), .int (v 32), .ref 63, .ref 64, .long dx, .ref 65, .ref 66, .ref 67, .ref 68]
/-- kind and length of the model's arrays of ints, bytes, booleans -/
def mI : Nat → Option (Nat × Nat)
  | 51 => some (1, 400)
  | 52 => some (0, 2400)
  | 53 => some (0, 7)
  | 54 => some (0, 288)
  | 55 => some (0, 6)
  | 56 => some (0, 110)
  | 57 => some (0, 400)
  | 60 => some (0, 151)
  | 61 => some (0, 1040)
  | 62 => some (0, 52)
  | 63 => some (0, 70)
  | 64 => some (0, 31)
  | 65 => some (0, 604)
  | 66 => some (0, 4)
  | 67 => some (0, 4)
  | 68 => some (3, 4)
  | _ => none
def mL : Nat → Option Nat
  | 58 => some 64
  | 59 => some 15
  | _ => none
def mcell (v : Nat → Int32) (dx : Int64) (A : Nat → Nat → Int32) (LA : Nat → Nat → Int64) (k : Nat) : Option xC := match mI k with
  | some q => some (.inl (q.1, q.2, xints (A k)))
  | none => match mL k with
    | some n => some (.inl (2, n, xlongs (LA k)))
    | none => if k = 50 then some (.inr (12, mobj v dx)) else none
/-- the memory m0 with the model's part as told -/
def MM (m0 : xM) (v : Nat → Int32) (dx : Int64) (A : Nat → Nat → Int32) (LA : Nat → Nat → Int64) : xM := (m0.1, m0.2.1, fun k => if 50 ≤ k ∧ k < 69 then mcell v dx A LA k else m0.2.2 k)
theorem nI_lit (n : Nat) : (OfNat.ofNat n : Int32) = nI n := rfl
theorem mI_in {a : Nat} {q : Nat × Nat} (h : mI a = some q) : 50 ≤ a ∧ a < 69 ∧ a ≠ 50 ∧ mL a = none := by
  unfold mI at h
  split at h <;> first | (cases h; done) | (exact ⟨by decide, by decide, by decide, rfl⟩)
theorem mL_in {a n : Nat} (h : mL a = some n) : 50 ≤ a ∧ a < 69 ∧ a ≠ 50 ∧ mI a = none := by
  unfold mL at h
  split at h <;> first | (cases h; done) | (exact ⟨by decide, by decide, by decide, rfl⟩)
section MMR
variable {m0 : xM} {v : Nat → Int32} {dx : Int64} {A : Nat → Nat → Int32} {LA : Nat → Nat → Int64}
theorem MM_I {a : Nat} {q : Nat × Nat} (h : mI a = some q) : (MM m0 v dx A LA).2.2 a = some (.inl (q.1, q.2, xints (A a))) := by
  obtain ⟨h1, h2, -, -⟩ := mI_in h
  simp only [MM, if_pos (And.intro h1 h2), mcell, h]
theorem MM_L {a n : Nat} (h : mL a = some n) : (MM m0 v dx A LA).2.2 a = some (.inl (2, n, xlongs (LA a))) := by
  obtain ⟨h1, h2, -, h3⟩ := mL_in h
  simp only [MM, if_pos (And.intro h1 h2), mcell, h, h3]
theorem MM_setI {a : Nat} {q : Nat × Nat} (h : mI a = some q) (f : Nat → Int32) : xset (MM m0 v dx A LA) a (.inl (q.1, q.2, xints f)) = MM m0 v dx (va_up A a f) LA := by
  obtain ⟨h1, h2, h3, h4⟩ := mI_in h
  simp only [xset, MM]
  congr 2
  funext k
  by_cases hk : k = a
  · subst hk
    simp only [va_up, if_true, if_pos (And.intro h1 h2), mcell, h]
  · simp only [va_up, if_neg hk, mcell]
theorem MM_setL {a n : Nat} (h : mL a = some n) (f : Nat → Int64) : xset (MM m0 v dx A LA) a (.inl (2, n, xlongs f)) = MM m0 v dx A (va_up LA a f) := by
  obtain ⟨h1, h2, h3, h4⟩ := mL_in h
  simp only [xset, MM]
  congr 2
  funext k
  by_cases hk : k = a
  · subst hk
    simp only [va_up, if_true, if_pos (And.intro h1 h2), mcell, h, h4]
  · simp only [va_up, if_neg hk, mcell]
theorem MM_setO (v' : Nat → Int32) (dx' : Int64) : xset (MM m0 v dx A LA) 50 (.inr (12, mobj v' dx')) = MM m0 v' dx' A LA := by
  simp only [xset, MM]
  congr 2
  funext k
  by_cases hk : k = 50
  · subst hk
    rfl
  · by_cases h2 : 50 ≤ k ∧ k < 69
    · simp only [va_up, if_neg hk, if_pos h2, mcell]
    · simp only [va_up, if_neg hk, if_neg h2]
variable {d j pc len pc' : Nat} {ls st : List Value} {P : Option Value → xM → Prop}
theorem Rn.mald {a n k : Nat} {i : Int32} (hG : xG j pc = some (.iaload, len)) (ha : mI a = some (0, n)) (hi : i = nI k) (hk : k < n) (hn : n < 2147483648) (hp : pc + len = pc') (kk : Rn d j pc' ls (.int (A a k) :: st) (MM m0 v dx A LA) P) : Rn d j pc ls (.int i :: .ref a :: st) (MM m0 v dx A LA) P := by
  subst hi
  refine Rn.iald hG (MM_I ha) (vp_in_nI hk hn) hp ?_
  rw [nI_clamp (by omega)]
  exact kk
theorem Rn.mbald {a n k t : Nat} {i : Int32} (hG : xG j pc = some (.baload, len)) (ha : mI a = some (t, n)) (ht : t = 1 ∨ t = 3) (hi : i = nI k) (hk : k < n) (hn : n < 2147483648) (hp : pc + len = pc') (kk : Rn d j pc' ls (.int (A a k) :: st) (MM m0 v dx A LA) P) : Rn d j pc ls (.int i :: .ref a :: st) (MM m0 v dx A LA) P := by
  subst hi
  refine Rn.bald hG ht (MM_I ha) (vp_in_nI hk hn) hp ?_
  rw [nI_clamp (by omega)]
  exact kk
theorem Rn.mast {a n k : Nat} {i x : Int32} (hG : xG j pc = some (.iastore, len)) (ha : mI a = some (0, n)) (hi : i = nI k) (hk : k < n) (hn : n < 2147483648) (hp : pc + len = pc') (kk : Rn d j pc' ls st (MM m0 v dx (va_up A a (upd (A a) k x)) LA) P) : Rn d j pc ls (.int x :: .int i :: .ref a :: st) (MM m0 v dx A LA) P := by
  subst hi
  obtain ⟨h1, h2, -, -⟩ := mI_in ha
  refine Rn.iast hG (by unfold xS; omega) (MM_I ha) (vp_in_nI hk hn) hp ?_
  rw [nI_clamp (by omega)]
  have := MM_setI (m0 := m0) (v := v) (dx := dx) (A := A) (LA := LA) ha (upd (A a) k x)
  dsimp only at this
  rw [this]
  exact kk
theorem Rn.mput {q : Nat} {x : Int32} (hG : xG j pc = some (.putfield q, len)) (hq : q / 64 = 12) (hty : (xfty 12)[q % 64]? = some .int) (hs : (mobj v dx).set (q % 64) (.int x) = mobj (upd v (q % 64) x) dx) (hl : q % 64 < 40) (hp : pc + len = pc') (kk : Rn d j pc' ls st (MM m0 (upd v (q % 64) x) dx A LA) P) : Rn d j pc ls (.int x :: .ref 50 :: st) (MM m0 v dx A LA) P := by
  refine Rn.putf (ci := 12) (fs := mobj v dx) hG (by decide) rfl ⟨hq.symm, hl⟩ hty ⟨rfl, rfl⟩ hp ?_
  rw [hs, MM_setO]
  exact kk
theorem up_up {α : Type} (A : Nat → α) (k : Nat) (x y : α) : va_up (va_up A k x) k y = va_up A k y := by
  funext j
  by_cases h : j = k <;> simp [va_up, h]
theorem up_id {α : Type} (A : Nat → α) (k : Nat) : va_up A k (A k) = A := by
  funext j
  by_cases h : j = k
  · subst h; simp [va_up]
  · simp [va_up, h]
/-- the model's memory, 'said' told apart -/
abbrev MS (m0 : xM) (v : Nat → Int32) (dx : Int64) (A : Nat → Nat → Int32) (LA : Nat → Nat → Int64) (s : Nat → Int32) : xM := MM m0 v dx (va_up A 60 s) LA
variable {s : Nat → Int32}
theorem Rn.sald {n k : Nat} {i : Int32} (hG : xG j pc = some (.iaload, len)) (ha : mI 60 = some (0, n)) (hi : i = nI k) (hk : k < 151) (hn : (151 : Nat) < 2147483648) (hp : pc + len = pc') (kk : Rn d j pc' ls (.int (s k) :: st) (MS m0 v dx A LA s) P) : Rn d j pc ls (.int i :: .ref 60 :: st) (MS m0 v dx A LA s) P := by
  refine Rn.mald (a := 60) (n := 151) (k := k) hG rfl hi hk hn hp ?_
  rw [show va_up A 60 s 60 = s from va_up_self A 60 s]
  exact kk
theorem Rn.sast {n k : Nat} {i x : Int32} (hG : xG j pc = some (.iastore, len)) (ha : mI 60 = some (0, n)) (hi : i = nI k) (hk : k < 151) (hn : (151 : Nat) < 2147483648) (hp : pc + len = pc') (kk : Rn d j pc' ls st (MS m0 v dx A LA (upd s k x)) P) : Rn d j pc ls (.int x :: .int i :: .ref 60 :: st) (MS m0 v dx A LA s) P := by
  refine Rn.mast (a := 60) (n := 151) (k := k) hG rfl hi hk hn hp ?_
  rw [show va_up A 60 s 60 = s from va_up_self A 60 s, up_up]
  exact kk
end MMR
end
section
/-! THE MODEL: its smallest methods. -/
section ML
variable {m0 : xM} {v : Nat → Int32} {dx : Int64} {A : Nat → Nat → Int32} {LA : Nat → Nat → Int64} {s : Nat → Int32}
theorem c_M_in {d : Nat} {m : xM} (x lo hi : Int64) : Cl d j_M_in [.long x, .long lo, .long hi] m (Pi (if lo ≤ x ∧ x ≤ hi then 1 else 0) m) := by
  show Rn d j_M_in 0 _ _ _ _
  refine Rn.step (pc' := 1) rfl rfl ?_
  refine Rn.step (pc' := 2) rfl rfl ?_
  refine Rn.lcmp (pc' := 3) rfl rfl ?_
  refine Rn.ifc_lt (pc1 := 17) (pc2 := 6) rfl rfl rfl (fun h3 => ?_) (fun h3 => ?_)
  · refine Rn.iconst (v := 0) (pc' := 18) rfl (by decide) rfl ?_
    exact Rn.reti rfl (by decide) (by first | (rw [if_pos]; exact ⟨Int64.not_lt.mp fun q => h3 ((lg_cmp_lt _ _).mpr q), Int64.not_lt.mp fun q => h10 ((lg_cmp_gt _ _).mpr q)⟩) | (rw [if_neg]; exact fun q => Int64.not_lt.mpr q.1 ((lg_cmp_lt _ _).mp h3)) | (rw [if_neg]; exact fun q => Int64.not_lt.mpr q.2 ((lg_cmp_gt _ _).mp h10))) (rfl)
  · refine Rn.step (pc' := 7) rfl rfl ?_
    refine Rn.step (pc' := 9) rfl rfl ?_
    refine Rn.lcmp (pc' := 10) rfl rfl ?_
    refine Rn.ifc_gt (pc1 := 17) (pc2 := 13) rfl rfl rfl (fun h10 => ?_) (fun h10 => ?_)
    · refine Rn.iconst (v := 0) (pc' := 18) rfl (by decide) rfl ?_
      exact Rn.reti rfl (by decide) (by first | (rw [if_pos]; exact ⟨Int64.not_lt.mp fun q => h3 ((lg_cmp_lt _ _).mpr q), Int64.not_lt.mp fun q => h10 ((lg_cmp_gt _ _).mpr q)⟩) | (rw [if_neg]; exact fun q => Int64.not_lt.mpr q.1 ((lg_cmp_lt _ _).mp h3)) | (rw [if_neg]; exact fun q => Int64.not_lt.mpr q.2 ((lg_cmp_gt _ _).mp h10))) (rfl)
    · refine Rn.iconst (v := 1) (pc' := 14) rfl (by decide) rfl ?_
      refine Rn.step (pc' := 18) rfl rfl ?_
      exact Rn.reti rfl (by decide) (by first | (rw [if_pos]; exact ⟨Int64.not_lt.mp fun q => h3 ((lg_cmp_lt _ _).mpr q), Int64.not_lt.mp fun q => h10 ((lg_cmp_gt _ _).mpr q)⟩) | (rw [if_neg]; exact fun q => Int64.not_lt.mpr q.1 ((lg_cmp_lt _ _).mp h3)) | (rw [if_neg]; exact fun q => Int64.not_lt.mpr q.2 ((lg_cmp_gt _ _).mp h10))) (rfl)
theorem c_M_brotherOf {d : Nat} (b q : Nat) (h : 10 + 6 * b + q < 151) : Cl d j_M_brotherOf [.ref 50, .int (nI b), .int (nI q)] (MS m0 v dx A LA s) (Pi (s (10 + 6 * b + q)) (MS m0 v dx A LA s)) := by
  show Rn d j_M_brotherOf 0 _ _ _ _
  refine Rn.step (pc' := 1) rfl rfl ?_
  refine Rn.getf (pc' := 4) rfl rfl rfl rfl rfl ?_
  refine Rn.iconst (v := 10) (pc' := 6) rfl (by decide) rfl ?_
  refine Rn.iconst (v := 6) (pc' := 8) rfl (by decide) rfl ?_
  refine Rn.step (pc' := 9) rfl rfl ?_
  refine Rn.imul (pc' := 10) rfl rfl ?_
  refine Rn.iadd (pc' := 11) rfl rfl ?_
  refine Rn.step (pc' := 12) rfl rfl ?_
  refine Rn.iadd (pc' := 13) rfl rfl ?_
  refine Rn.sald (k := 10 + 6 * b + q) (pc' := 14) rfl rfl (by simp only [nI_lit, nI_add, pk_mul]) (by omega) (by decide) rfl ?_
  exact Rn.reti rfl (rfl) (rfl) (rfl)
theorem c_M_wearerOf {d : Nat} (k : Nat) (h : k < 2) : Cl d j_M_wearerOf [.ref 50, .int (nI k)] (MS m0 v dx A LA s) (Pi (s (46 + 3 * k)) (MS m0 v dx A LA s)) := by
  show Rn d j_M_wearerOf 0 _ _ _ _
  refine Rn.step (pc' := 1) rfl rfl ?_
  refine Rn.getf (pc' := 4) rfl rfl rfl rfl rfl ?_
  refine Rn.iconst (v := 46) (pc' := 6) rfl (by decide) rfl ?_
  refine Rn.iconst (v := 3) (pc' := 7) rfl (by decide) rfl ?_
  refine Rn.step (pc' := 8) rfl rfl ?_
  refine Rn.imul (pc' := 9) rfl rfl ?_
  refine Rn.iadd (pc' := 10) rfl rfl ?_
  refine Rn.sald (k := 46 + 3 * k) (pc' := 11) rfl rfl (by simp only [nI_lit, nI_add, pk_mul]) (by omega) (by decide) rfl ?_
  exact Rn.reti rfl (rfl) (rfl) (rfl)
theorem c_M_wornOf {d : Nat} (k : Nat) (h : k < 2) : Cl d j_M_wornOf [.ref 50, .int (nI k)] (MS m0 v dx A LA s) (Pi (s (46 + 3 * k + 2)) (MS m0 v dx A LA s)) := by
  show Rn d j_M_wornOf 0 _ _ _ _
  refine Rn.step (pc' := 1) rfl rfl ?_
  refine Rn.getf (pc' := 4) rfl rfl rfl rfl rfl ?_
  refine Rn.iconst (v := 46) (pc' := 6) rfl (by decide) rfl ?_
  refine Rn.iconst (v := 3) (pc' := 7) rfl (by decide) rfl ?_
  refine Rn.step (pc' := 8) rfl rfl ?_
  refine Rn.imul (pc' := 9) rfl rfl ?_
  refine Rn.iadd (pc' := 10) rfl rfl ?_
  refine Rn.iconst (v := 2) (pc' := 11) rfl (by decide) rfl ?_
  refine Rn.iadd (pc' := 12) rfl rfl ?_
  refine Rn.sald (k := 46 + 3 * k + 2) (pc' := 13) rfl rfl (by simp only [nI_lit, nI_add, pk_mul]) (by omega) (by decide) rfl ?_
  exact Rn.reti rfl (rfl) (rfl) (rfl)
theorem c_M_isLane {d : Nat}  : Cl d j_M_isLane [.ref 50] (MS m0 v dx A LA s) (Pi (if 0 < s 0 then 1 else 0) (MS m0 v dx A LA s)) := by
  show Rn d j_M_isLane 0 _ _ _ _
  refine Rn.step (pc' := 1) rfl rfl ?_
  refine Rn.getf (pc' := 4) rfl rfl rfl rfl rfl ?_
  refine Rn.iconst (v := 0) (pc' := 5) rfl (by decide) rfl ?_
  refine Rn.sald (k := 0) (pc' := 6) rfl rfl (by simp only [nI_lit, nI_add, pk_mul]) (by omega) (by decide) rfl ?_
  refine Rn.ifc_le (pc1 := 13) (pc2 := 9) rfl rfl rfl (fun h6 => ?_) (fun h6 => ?_)
  · refine Rn.iconst (v := 0) (pc' := 14) rfl (by decide) rfl ?_
    exact Rn.reti rfl (by decide) (by first | rfl | (simp_all [xcnd]; done)) (rfl)
  · refine Rn.iconst (v := 1) (pc' := 10) rfl (by decide) rfl ?_
    refine Rn.step (pc' := 14) rfl rfl ?_
    exact Rn.reti rfl (by decide) (by first | rfl | (simp_all [xcnd]; done)) (rfl)
theorem c_M_isBrother {d : Nat} (x : Int32) : Cl d j_M_isBrother [.ref 50, .int x] (MS m0 v dx A LA s) (Pi (if ¬ x < 0 ∧ ¬ s 2 ≤ x then 1 else 0) (MS m0 v dx A LA s)) := by
  show Rn d j_M_isBrother 0 _ _ _ _
  refine Rn.step (pc' := 1) rfl rfl ?_
  refine Rn.ifc_lt (pc1 := 18) (pc2 := 4) rfl rfl rfl (fun h1 => ?_) (fun h1 => ?_)
  · refine Rn.iconst (v := 0) (pc' := 19) rfl (by decide) rfl ?_
    exact Rn.reti rfl (by decide) (by first | rfl | (simp_all [xcnd]; done)) (rfl)
  · refine Rn.step (pc' := 5) rfl rfl ?_
    refine Rn.step (pc' := 6) rfl rfl ?_
    refine Rn.getf (pc' := 9) rfl rfl rfl rfl rfl ?_
    refine Rn.iconst (v := 2) (pc' := 10) rfl (by decide) rfl ?_
    refine Rn.sald (k := 2) (pc' := 11) rfl rfl (by simp only [nI_lit, nI_add, pk_mul]) (by omega) (by decide) rfl ?_
    refine Rn.icmp_ge (pc1 := 18) (pc2 := 14) rfl rfl rfl (fun h11 => ?_) (fun h11 => ?_)
    · refine Rn.iconst (v := 0) (pc' := 19) rfl (by decide) rfl ?_
      exact Rn.reti rfl (by decide) (by first | rfl | (simp_all [xcnd]; done)) (rfl)
    · refine Rn.iconst (v := 1) (pc' := 15) rfl (by decide) rfl ?_
      refine Rn.step (pc' := 19) rfl rfl ?_
      exact Rn.reti rfl (by decide) (by first | rfl | (simp_all [xcnd]; done)) (rfl)
theorem c_M_isPlace {d : Nat} (x : Int32) : Cl d j_M_isPlace [.ref 50, .int x] (MS m0 v dx A LA s) (Pi (if ¬ x < 0 ∧ ¬ s 0 ≤ x then 1 else 0) (MS m0 v dx A LA s)) := by
  show Rn d j_M_isPlace 0 _ _ _ _
  refine Rn.step (pc' := 1) rfl rfl ?_
  refine Rn.ifc_lt (pc1 := 18) (pc2 := 4) rfl rfl rfl (fun h1 => ?_) (fun h1 => ?_)
  · refine Rn.iconst (v := 0) (pc' := 19) rfl (by decide) rfl ?_
    exact Rn.reti rfl (by decide) (by first | rfl | (simp_all [xcnd]; done)) (rfl)
  · refine Rn.step (pc' := 5) rfl rfl ?_
    refine Rn.step (pc' := 6) rfl rfl ?_
    refine Rn.getf (pc' := 9) rfl rfl rfl rfl rfl ?_
    refine Rn.iconst (v := 0) (pc' := 10) rfl (by decide) rfl ?_
    refine Rn.sald (k := 0) (pc' := 11) rfl rfl (by simp only [nI_lit, nI_add, pk_mul]) (by omega) (by decide) rfl ?_
    refine Rn.icmp_ge (pc1 := 18) (pc2 := 14) rfl rfl rfl (fun h11 => ?_) (fun h11 => ?_)
    · refine Rn.iconst (v := 0) (pc' := 19) rfl (by decide) rfl ?_
      exact Rn.reti rfl (by decide) (by first | rfl | (simp_all [xcnd]; done)) (rfl)
    · refine Rn.iconst (v := 1) (pc' := 15) rfl (by decide) rfl ?_
      refine Rn.step (pc' := 19) rfl rfl ?_
      exact Rn.reti rfl (by decide) (by first | rfl | (simp_all [xcnd]; done)) (rfl)
theorem c_M_isRule {d : Nat} (x : Int32) : Cl d j_M_isRule [.ref 50, .int x] (MS m0 v dx A LA s) (Pi (if ¬ x < 0 ∧ ¬ v 2 ≤ x then 1 else 0) (MS m0 v dx A LA s)) := by
  show Rn d j_M_isRule 0 _ _ _ _
  refine Rn.step (pc' := 1) rfl rfl ?_
  refine Rn.ifc_lt (pc1 := 16) (pc2 := 4) rfl rfl rfl (fun h1 => ?_) (fun h1 => ?_)
  · refine Rn.iconst (v := 0) (pc' := 17) rfl (by decide) rfl ?_
    exact Rn.reti rfl (by decide) (by first | rfl | (simp_all [xcnd]; done)) (rfl)
  · refine Rn.step (pc' := 5) rfl rfl ?_
    refine Rn.step (pc' := 6) rfl rfl ?_
    refine Rn.getf (pc' := 9) rfl rfl rfl rfl rfl ?_
    refine Rn.icmp_ge (pc1 := 16) (pc2 := 12) rfl rfl rfl (fun h9 => ?_) (fun h9 => ?_)
    · refine Rn.iconst (v := 0) (pc' := 17) rfl (by decide) rfl ?_
      exact Rn.reti rfl (by decide) (by first | rfl | (simp_all [xcnd]; done)) (rfl)
    · refine Rn.iconst (v := 1) (pc' := 13) rfl (by decide) rfl ?_
      refine Rn.step (pc' := 17) rfl rfl ?_
      exact Rn.reti rfl (by decide) (by first | rfl | (simp_all [xcnd]; done)) (rfl)
theorem c_M_isHoled {d : Nat} (hd : 1 ≤ d) (k : Nat) (h : k < 2) : Cl d j_M_isHoled [.ref 50, .int (nI k)] (MS m0 v dx A LA s) (Pi (if s (46 + 3 * k + 2) < s 8 then 0 else 1) (MS m0 v dx A LA s)) := by
  show Rn d j_M_isHoled 0 _ _ _ _
  refine Rn.step (pc' := 1) rfl rfl ?_
  refine Rn.step (pc' := 2) rfl rfl ?_
  refine Rn.vi (pc' := 5) rfl (by decide) (by omega) rfl rfl rfl (c_M_wornOf k h) ?_
  refine Rn.step (pc' := 6) rfl rfl ?_
  refine Rn.getf (pc' := 9) rfl rfl rfl rfl rfl ?_
  refine Rn.iconst (v := 8) (pc' := 11) rfl (by decide) rfl ?_
  refine Rn.sald (k := 8) (pc' := 12) rfl rfl (by simp only [nI_lit, nI_add, pk_mul]) (by omega) (by decide) rfl ?_
  refine Rn.icmp_lt (pc1 := 19) (pc2 := 15) rfl rfl rfl (fun h12 => ?_) (fun h12 => ?_)
  · refine Rn.iconst (v := 0) (pc' := 20) rfl (by decide) rfl ?_
    exact Rn.reti rfl (by decide) (by first | rfl | (simp_all [xcnd]; done)) (rfl)
  · refine Rn.iconst (v := 1) (pc' := 16) rfl (by decide) rfl ?_
    refine Rn.step (pc' := 20) rfl rfl ?_
    exact Rn.reti rfl (by decide) (by first | rfl | (simp_all [xcnd]; done)) (rfl)
theorem c_M_fits {d : Nat} (hd : 1 ≤ d) (b : Nat) (h : b < 6) : Cl d j_M_fits [.ref 50, .int (nI b)] (MS m0 v dx A LA s) (Pi (if s 1 < s (10 + 6 * b + 2) then 0 else 1) (MS m0 v dx A LA s)) := by
  show Rn d j_M_fits 0 _ _ _ _
  refine Rn.step (pc' := 1) rfl rfl ?_
  refine Rn.step (pc' := 2) rfl rfl ?_
  refine Rn.iconst (v := 2) (pc' := 3) rfl (by decide) rfl ?_
  refine Rn.vi (pc' := 6) rfl (by decide) (by omega) rfl rfl rfl (c_M_brotherOf b 2 (by omega)) ?_
  refine Rn.step (pc' := 7) rfl rfl ?_
  refine Rn.getf (pc' := 10) rfl rfl rfl rfl rfl ?_
  refine Rn.iconst (v := 1) (pc' := 11) rfl (by decide) rfl ?_
  refine Rn.sald (k := 1) (pc' := 12) rfl rfl (by simp only [nI_lit, nI_add, pk_mul]) (by omega) (by decide) rfl ?_
  refine Rn.icmp_gt (pc1 := 19) (pc2 := 15) rfl rfl rfl (fun h12 => ?_) (fun h12 => ?_)
  · refine Rn.iconst (v := 0) (pc' := 20) rfl (by decide) rfl ?_
    exact Rn.reti rfl (by decide) (by first | rfl | (simp_all [xcnd]; done)) (rfl)
  · refine Rn.iconst (v := 1) (pc' := 16) rfl (by decide) rfl ?_
    refine Rn.step (pc' := 20) rfl rfl ?_
    exact Rn.reti rfl (by decide) (by first | rfl | (simp_all [xcnd]; done)) (rfl)
def mB1 (s : Nat → Int32) (x : Int32) : Int32 := (if s 46 = x then 1 else 0) ||| (if s 49 = x then 2 else 0)
theorem c_M_bootsOn {d : Nat} (hd : 1 ≤ d) (x : Int32) : Cl d j_M_bootsOn [.ref 50, .int x] (MS m0 v dx A LA s) (Pi (mB1 s x) (MS m0 v dx A LA s)) := by
  show Rn d j_M_bootsOn 0 _ _ _ _
  refine Rn.step (pc' := 1) rfl rfl ?_
  refine Rn.iconst (v := 0) (pc' := 2) rfl (by decide) rfl ?_
  refine Rn.vi (pc' := 5) rfl (by decide) (by omega) rfl rfl rfl (c_M_wearerOf 0 (by decide)) ?_
  refine Rn.step (pc' := 6) rfl rfl ?_
  refine Rn.icmp_ne (pc1 := 13) (pc2 := 9) rfl rfl rfl (fun h6 => ?_) (fun h6 => ?_)
  · refine Rn.iconst (v := 0) (pc' := 14) rfl (by decide) rfl ?_
    refine Rn.step (pc' := 15) rfl rfl ?_
    refine Rn.iconst (v := 1) (pc' := 16) rfl (by decide) rfl ?_
    refine Rn.vi (pc' := 19) rfl (by decide) (by omega) rfl rfl rfl (c_M_wearerOf 1 (by decide)) ?_
    refine Rn.step (pc' := 20) rfl rfl ?_
    refine Rn.icmp_ne (pc1 := 27) (pc2 := 23) rfl rfl rfl (fun h20 => ?_) (fun h20 => ?_)
    · refine Rn.iconst (v := 0) (pc' := 28) rfl (by decide) rfl ?_
      refine Rn.ior (pc' := 29) rfl rfl ?_
      exact Rn.reti rfl (rfl) (by unfold mB1; first | rfl | (simp_all [xcnd]; done)) (rfl)
    · refine Rn.iconst (v := 2) (pc' := 24) rfl (by decide) rfl ?_
      refine Rn.step (pc' := 28) rfl rfl ?_
      refine Rn.ior (pc' := 29) rfl rfl ?_
      exact Rn.reti rfl (rfl) (by unfold mB1; first | rfl | (simp_all [xcnd]; done)) (rfl)
  · refine Rn.iconst (v := 1) (pc' := 10) rfl (by decide) rfl ?_
    refine Rn.step (pc' := 14) rfl rfl ?_
    refine Rn.step (pc' := 15) rfl rfl ?_
    refine Rn.iconst (v := 1) (pc' := 16) rfl (by decide) rfl ?_
    refine Rn.vi (pc' := 19) rfl (by decide) (by omega) rfl rfl rfl (c_M_wearerOf 1 (by decide)) ?_
    refine Rn.step (pc' := 20) rfl rfl ?_
    refine Rn.icmp_ne (pc1 := 27) (pc2 := 23) rfl rfl rfl (fun h20 => ?_) (fun h20 => ?_)
    · refine Rn.iconst (v := 0) (pc' := 28) rfl (by decide) rfl ?_
      refine Rn.ior (pc' := 29) rfl rfl ?_
      exact Rn.reti rfl (rfl) (by unfold mB1; first | rfl | (simp_all [xcnd]; done)) (rfl)
    · refine Rn.iconst (v := 2) (pc' := 24) rfl (by decide) rfl ?_
      refine Rn.step (pc' := 28) rfl rfl ?_
      refine Rn.ior (pc' := 29) rfl rfl ?_
      exact Rn.reti rfl (rfl) (by unfold mB1; first | rfl | (simp_all [xcnd]; done)) (rfl)
def mBM (s : Nat → Int32) (sec x : Int32) : Int32 := if x = sec then 2 else (if s 46 = x then 1 else 0) + (if s 49 = x then 1 else 0)
theorem c_M_bootsMany {d : Nat} (hd : 1 ≤ d) (x : Int32) : Cl d j_M_bootsMany [.ref 50, .int x] (MS m0 v dx A LA s) (Pi (mBM s (v 23) x) (MS m0 v dx A LA s)) := by
  show Rn d j_M_bootsMany 0 _ _ _ _
  refine Rn.step (pc' := 1) rfl rfl ?_
  refine Rn.step (pc' := 2) rfl rfl ?_
  refine Rn.getf (pc' := 5) rfl rfl rfl rfl rfl ?_
  refine Rn.icmp_ne (pc1 := 12) (pc2 := 8) rfl rfl rfl (fun h5 => ?_) (fun h5 => ?_)
  · refine Rn.step (pc' := 13) rfl rfl ?_
    refine Rn.iconst (v := 0) (pc' := 14) rfl (by decide) rfl ?_
    refine Rn.vi (pc' := 17) rfl (by decide) (by omega) rfl rfl rfl (c_M_wearerOf 0 (by decide)) ?_
    refine Rn.step (pc' := 18) rfl rfl ?_
    refine Rn.icmp_ne (pc1 := 25) (pc2 := 21) rfl rfl rfl (fun h18 => ?_) (fun h18 => ?_)
    · refine Rn.iconst (v := 0) (pc' := 26) rfl (by decide) rfl ?_
      refine Rn.step (pc' := 27) rfl rfl ?_
      refine Rn.iconst (v := 1) (pc' := 28) rfl (by decide) rfl ?_
      refine Rn.vi (pc' := 31) rfl (by decide) (by omega) rfl rfl rfl (c_M_wearerOf 1 (by decide)) ?_
      refine Rn.step (pc' := 32) rfl rfl ?_
      refine Rn.icmp_ne (pc1 := 39) (pc2 := 35) rfl rfl rfl (fun h32 => ?_) (fun h32 => ?_)
      · refine Rn.iconst (v := 0) (pc' := 40) rfl (by decide) rfl ?_
        refine Rn.iadd (pc' := 41) rfl rfl ?_
        exact Rn.reti rfl (rfl) (by unfold mBM; first | rfl | (simp_all [xcnd]; done)) (rfl)
      · refine Rn.iconst (v := 1) (pc' := 36) rfl (by decide) rfl ?_
        refine Rn.step (pc' := 40) rfl rfl ?_
        refine Rn.iadd (pc' := 41) rfl rfl ?_
        exact Rn.reti rfl (rfl) (by unfold mBM; first | rfl | (simp_all [xcnd]; done)) (rfl)
    · refine Rn.iconst (v := 1) (pc' := 22) rfl (by decide) rfl ?_
      refine Rn.step (pc' := 26) rfl rfl ?_
      refine Rn.step (pc' := 27) rfl rfl ?_
      refine Rn.iconst (v := 1) (pc' := 28) rfl (by decide) rfl ?_
      refine Rn.vi (pc' := 31) rfl (by decide) (by omega) rfl rfl rfl (c_M_wearerOf 1 (by decide)) ?_
      refine Rn.step (pc' := 32) rfl rfl ?_
      refine Rn.icmp_ne (pc1 := 39) (pc2 := 35) rfl rfl rfl (fun h32 => ?_) (fun h32 => ?_)
      · refine Rn.iconst (v := 0) (pc' := 40) rfl (by decide) rfl ?_
        refine Rn.iadd (pc' := 41) rfl rfl ?_
        exact Rn.reti rfl (rfl) (by unfold mBM; first | rfl | (simp_all [xcnd]; done)) (rfl)
      · refine Rn.iconst (v := 1) (pc' := 36) rfl (by decide) rfl ?_
        refine Rn.step (pc' := 40) rfl rfl ?_
        refine Rn.iadd (pc' := 41) rfl rfl ?_
        exact Rn.reti rfl (rfl) (by unfold mBM; first | rfl | (simp_all [xcnd]; done)) (rfl)
  · refine Rn.iconst (v := 2) (pc' := 9) rfl (by decide) rfl ?_
    refine Rn.step (pc' := 41) rfl rfl ?_
    exact Rn.reti rfl (rfl) (by unfold mBM; first | rfl | (simp_all [xcnd]; done)) (rfl)
def mPl (s : Nat → Int32) (k : Nat) : Int32 := if s (46 + 3 * k) < 0 then s (46 + 3 * k + 1) else s (10 + 6 * (s (46 + 3 * k)).toNatClampNeg)
theorem mPl_w {s : Nat → Int32} {k b : Nat} (h : s (46 + 3 * k) = nI b) (hb : b < 6) : mPl s k = s (10 + 6 * b) := by
  unfold mPl
  rw [h, if_neg (nI_pos (by omega)), nI_clamp (by omega)]
theorem mPl_l {s : Nat → Int32} {k : Nat} (h : s (46 + 3 * k) < 0) : mPl s k = s (46 + 3 * k + 1) := by
  unfold mPl
  rw [if_pos h]
theorem c_M_placeOf {d : Nat} (hd : 1 ≤ d) (k : Nat) (h : k < 2) (hw : s (46 + 3 * k) < 0 ∨ ∃ b, b < 6 ∧ s (46 + 3 * k) = nI b) : Cl d j_M_placeOf [.ref 50, .int (nI k)] (MS m0 v dx A LA s) (Pi (mPl s k) (MS m0 v dx A LA s)) := by
  show Rn d j_M_placeOf 0 _ _ _ _
  refine Rn.step (pc' := 1) rfl rfl ?_
  refine Rn.step (pc' := 2) rfl rfl ?_
  refine Rn.vi (pc' := 5) rfl (by decide) (by omega) rfl rfl rfl (c_M_wearerOf k h) ?_
  refine Rn.ifc_ge (pc1 := 24) (pc2 := 8) rfl rfl rfl (fun h5 => ?_) (fun h5 => ?_)
  · obtain ⟨b, hb6, hb⟩ : ∃ b, b < 6 ∧ s (46 + 3 * k) = nI b := hw.resolve_left (Int32.not_lt.mpr h5)
    refine Rn.step (pc' := 25) rfl rfl ?_
    refine Rn.step (pc' := 26) rfl rfl ?_
    refine Rn.step (pc' := 27) rfl rfl ?_
    refine Rn.vi (pc' := 30) rfl (by decide) (by omega) rfl rfl rfl (c_M_wearerOf k h) ?_
    refine Rn.iconst (v := 0) (pc' := 31) rfl (by decide) rfl ?_
    refine Rn.vi (pc' := 34) rfl (by decide) (by omega) rfl rfl rfl ((by have := c_M_brotherOf (d := d - 1) (m0 := m0) (v := v) (dx := dx) (A := A) (LA := LA) (s := s) b 0 (by omega); rw [hb]; exact this)) ?_
    exact Rn.reti rfl (rfl) (by first | exact (mPl_w hb hb6).symm | exact (mPl_l (Int32.not_le.mp h5)).symm) (rfl)
  · refine Rn.step (pc' := 9) rfl rfl ?_
    refine Rn.getf (pc' := 12) rfl rfl rfl rfl rfl ?_
    refine Rn.iconst (v := 46) (pc' := 14) rfl (by decide) rfl ?_
    refine Rn.iconst (v := 3) (pc' := 15) rfl (by decide) rfl ?_
    refine Rn.step (pc' := 16) rfl rfl ?_
    refine Rn.imul (pc' := 17) rfl rfl ?_
    refine Rn.iadd (pc' := 18) rfl rfl ?_
    refine Rn.iconst (v := 1) (pc' := 19) rfl (by decide) rfl ?_
    refine Rn.iadd (pc' := 20) rfl rfl ?_
    refine Rn.sald (k := 46 + 3 * k + 1) (pc' := 21) rfl rfl (by simp only [nI_lit, nI_add, pk_mul]) (by omega) (by decide) rfl ?_
    refine Rn.step (pc' := 34) rfl rfl ?_
    exact Rn.reti rfl (rfl) (by first | exact (mPl_w hb hb6).symm | exact (mPl_l (Int32.not_le.mp h5)).symm) (rfl)
/-- the next want of b, among the first k -/
def nxw (s : Nat → Int32) (b : Nat) : Nat → Option Nat
  | 0 => none
  | k + 1 => if s (60 + 4 * k) = nI b ∧ ¬ s (60 + 4 * k + 2) < s 5 then (match nxw s b k with
    | none => some k
    | some q => if s (60 + 4 * k + 2) < s (60 + 4 * q + 2) then some k else some q) else nxw s b k
def eO : Option Nat → Int32
  | none => -1
  | some q => nI q
theorem nxw_lt {s : Nat → Int32} {b : Nat} : ∀ {k q : Nat}, nxw s b k = some q → q < k
  | 0, q, h => by cases h
  | k + 1, q, h => by
    unfold nxw at h
    split at h
    · split at h
      · cases h; omega
      · rename_i q' hq'
        split at h
        · cases h; omega
        · cases h
          have := nxw_lt hq'
          omega
    · have := nxw_lt h
      omega
theorem eO_neg {o : Option Nat} (h : ¬ eO o < 0) : ∃ q, o = some q := by
  cases o with
  | none => exact absurd (by decide) h
  | some q => exact ⟨q, rfl⟩
theorem nxw_no {s : Nat → Int32} {b k : Nat} (h : ¬ (s (60 + 4 * k) = nI b ∧ ¬ s (60 + 4 * k + 2) < s 5)) : nxw s b (k + 1) = nxw s b k := by
  rw [nxw, if_neg h]
theorem nxw_new {s : Nat → Int32} {b k : Nat} (h : s (60 + 4 * k) = nI b ∧ ¬ s (60 + 4 * k + 2) < s 5) (hk : k < 2147483648) (hn : eO (nxw s b k) < 0) : nxw s b (k + 1) = some k := by
  rw [nxw, if_pos h]
  cases hq : nxw s b k with
  | none => rfl
  | some q =>
    rw [hq] at hn
    have := nxw_lt hq
    exact absurd hn (nI_pos (by omega))
theorem nxw_bt {s : Nat → Int32} {b k q : Nat} (h : s (60 + 4 * k) = nI b ∧ ¬ s (60 + 4 * k + 2) < s 5) (hq : nxw s b k = some q) (hl : s (60 + 4 * k + 2) < s (60 + 4 * q + 2)) : nxw s b (k + 1) = some k := by
  rw [nxw, if_pos h, hq]
  simp only [if_pos hl]
theorem nxw_ge {s : Nat → Int32} {b k q : Nat} (h : s (60 + 4 * k) = nI b ∧ ¬ s (60 + 4 * k + 2) < s 5) (hq : nxw s b k = some q) (hl : ¬ s (60 + 4 * k + 2) < s (60 + 4 * q + 2)) : nxw s b (k + 1) = some q := by
  rw [nxw, if_pos h, hq]
  simp only [if_neg hl]
theorem l_M_nextWant {d b Wn : Nat} (hW : s 4 = nI Wn) (hWn : Wn ≤ 10) (k : Nat) (x : Value) (hk : k ≤ Wn) : Rn d j_M_nextWant 4 [.ref 50, .int (nI b), .int (eO (nxw s b k)), .int (nI k), x] [] (MS m0 v dx A LA s) (Pi (eO (nxw s b Wn)) (MS m0 v dx A LA s)) := by
  refine Rn.step (pc' := 5) rfl rfl ?_
  refine Rn.step (pc' := 6) rfl rfl ?_
  refine Rn.getf (pc' := 9) rfl rfl rfl rfl rfl ?_
  refine Rn.iconst (v := 4) (pc' := 10) rfl (by decide) rfl ?_
  refine Rn.sald (k := 4) (pc' := 11) rfl rfl (by simp only [nI_lit, nI_add, pk_mul]) (by omega) (by decide) rfl ?_
  refine Rn.icmp_ge (pc1 := 91) (pc2 := 14) rfl rfl rfl (fun h11 => ?_) (fun h11 => ?_)
  · have hk2 : k = Wn := by
      have := (nI_leI (by omega) (by omega)).mp (hW ▸ h11)
      omega
    subst hk2
    refine Rn.step (pc' := 92) rfl rfl ?_
    exact Rn.reti rfl (rfl) (rfl) (rfl)
  · have hk2 : k < Wn := by
      have := mt (nI_leI (a := Wn) (b := k) (by omega) (by omega)).mpr (hW ▸ h11)
      omega
    refine Rn.iconst (v := 60) (pc' := 16) rfl (by decide) rfl ?_
    refine Rn.iconst (v := 4) (pc' := 17) rfl (by decide) rfl ?_
    refine Rn.step (pc' := 18) rfl rfl ?_
    refine Rn.imul (pc' := 19) rfl rfl ?_
    refine Rn.iadd (pc' := 20) rfl rfl ?_
    refine Rn.step (pc' := 22) rfl rfl ?_
    refine Rn.step (pc' := 23) rfl rfl ?_
    refine Rn.getf (pc' := 26) rfl rfl rfl rfl rfl ?_
    refine Rn.step (pc' := 28) rfl rfl ?_
    refine Rn.sald (k := 60 + 4 * k) (pc' := 29) rfl rfl (by simp only [nI_lit, nI_add, pk_mul]) (by omega) (by decide) rfl ?_
    refine Rn.step (pc' := 30) rfl rfl ?_
    refine Rn.icmp_ne (pc1 := 85) (pc2 := 33) rfl rfl rfl (fun h30 => ?_) (fun h30 => ?_)
    · refine Rn.step (pc' := 88) rfl rfl ?_
      refine Rn.step (pc' := 4) rfl rfl ?_
      refine Rn.ls5 rfl rfl (congrArg Value.int ?_) (congrArg Value.int (nI_i1 k)) rfl (l_M_nextWant hW hWn (k + 1) _ (by omega))
      first
        | rw [nxw_no fun q => h30 q.1]
        | rw [nxw_no fun q => q.2 (Int32.not_le.mp h48)]
        | (rw [nxw_new ⟨h30, Int32.not_lt.mpr h48⟩ (by omega) h55]; rfl)
        | (rw [nxw_ge ⟨h30, Int32.not_lt.mpr h48⟩ hq (Int32.not_lt.mpr h80), hq])
        | (rw [nxw_bt ⟨h30, Int32.not_lt.mpr h48⟩ hq (Int32.not_le.mp h80)]; rfl)
    · refine Rn.step (pc' := 34) rfl rfl ?_
      refine Rn.getf (pc' := 37) rfl rfl rfl rfl rfl ?_
      refine Rn.step (pc' := 39) rfl rfl ?_
      refine Rn.iconst (v := 2) (pc' := 40) rfl (by decide) rfl ?_
      refine Rn.iadd (pc' := 41) rfl rfl ?_
      refine Rn.sald (k := 60 + 4 * k + 2) (pc' := 42) rfl rfl (by simp only [nI_lit, nI_add, pk_mul]) (by omega) (by decide) rfl ?_
      refine Rn.step (pc' := 43) rfl rfl ?_
      refine Rn.getf (pc' := 46) rfl rfl rfl rfl rfl ?_
      refine Rn.iconst (v := 5) (pc' := 47) rfl (by decide) rfl ?_
      refine Rn.sald (k := 5) (pc' := 48) rfl rfl (by simp only [nI_lit, nI_add, pk_mul]) (by omega) (by decide) rfl ?_
      refine Rn.icmp_ge (pc1 := 54) (pc2 := 51) rfl rfl rfl (fun h48 => ?_) (fun h48 => ?_)
      · refine Rn.step (pc' := 55) rfl rfl ?_
        refine Rn.ifc_lt (pc1 := 83) (pc2 := 58) rfl rfl rfl (fun h55 => ?_) (fun h55 => ?_)
        · refine Rn.step (pc' := 84) rfl rfl ?_
          refine Rn.step (pc' := 85) rfl rfl ?_
          refine Rn.step (pc' := 88) rfl rfl ?_
          refine Rn.step (pc' := 4) rfl rfl ?_
          refine Rn.ls5 rfl rfl (congrArg Value.int ?_) (congrArg Value.int (nI_i1 k)) rfl (l_M_nextWant hW hWn (k + 1) _ (by omega))
          first
            | rw [nxw_no fun q => h30 q.1]
            | rw [nxw_no fun q => q.2 (Int32.not_le.mp h48)]
            | (rw [nxw_new ⟨h30, Int32.not_lt.mpr h48⟩ (by omega) h55]; rfl)
            | (rw [nxw_ge ⟨h30, Int32.not_lt.mpr h48⟩ hq (Int32.not_lt.mpr h80), hq])
            | (rw [nxw_bt ⟨h30, Int32.not_lt.mpr h48⟩ hq (Int32.not_le.mp h80)]; rfl)
        · obtain ⟨q, hq⟩ := eO_neg h55
          have hqk := nxw_lt hq
          refine Rn.step (pc' := 59) rfl rfl ?_
          refine Rn.getf (pc' := 62) rfl rfl rfl rfl rfl ?_
          refine Rn.step (pc' := 64) rfl rfl ?_
          refine Rn.iconst (v := 2) (pc' := 65) rfl (by decide) rfl ?_
          refine Rn.iadd (pc' := 66) rfl rfl ?_
          refine Rn.sald (k := 60 + 4 * k + 2) (pc' := 67) rfl rfl (by simp only [nI_lit, nI_add, pk_mul]) (by omega) (by decide) rfl ?_
          refine Rn.step (pc' := 68) rfl rfl ?_
          refine Rn.getf (pc' := 71) rfl rfl rfl rfl rfl ?_
          refine Rn.iconst (v := 60) (pc' := 73) rfl (by decide) rfl ?_
          refine Rn.iconst (v := 4) (pc' := 74) rfl (by decide) rfl ?_
          refine Rn.step (pc' := 75) rfl rfl ?_
          refine Rn.imul (pc' := 76) rfl rfl ?_
          refine Rn.iadd (pc' := 77) rfl rfl ?_
          refine Rn.iconst (v := 2) (pc' := 78) rfl (by decide) rfl ?_
          refine Rn.iadd (pc' := 79) rfl rfl ?_
          refine Rn.sald (k := 60 + 4 * q + 2) (pc' := 80) rfl rfl (by rw [hq]; simp only [eO, nI_lit, nI_add, pk_mul]) (by omega) (by decide) rfl ?_
          refine Rn.icmp_ge (pc1 := 85) (pc2 := 83) rfl rfl rfl (fun h80 => ?_) (fun h80 => ?_)
          · refine Rn.step (pc' := 88) rfl rfl ?_
            refine Rn.step (pc' := 4) rfl rfl ?_
            refine Rn.ls5 rfl rfl (congrArg Value.int ?_) (congrArg Value.int (nI_i1 k)) rfl (l_M_nextWant hW hWn (k + 1) _ (by omega))
            first
              | rw [nxw_no fun q => h30 q.1]
              | rw [nxw_no fun q => q.2 (Int32.not_le.mp h48)]
              | (rw [nxw_new ⟨h30, Int32.not_lt.mpr h48⟩ (by omega) h55]; rfl)
              | (rw [nxw_ge ⟨h30, Int32.not_lt.mpr h48⟩ hq (Int32.not_lt.mpr h80), hq])
              | (rw [nxw_bt ⟨h30, Int32.not_lt.mpr h48⟩ hq (Int32.not_le.mp h80)]; rfl)
          · refine Rn.step (pc' := 84) rfl rfl ?_
            refine Rn.step (pc' := 85) rfl rfl ?_
            refine Rn.step (pc' := 88) rfl rfl ?_
            refine Rn.step (pc' := 4) rfl rfl ?_
            refine Rn.ls5 rfl rfl (congrArg Value.int ?_) (congrArg Value.int (nI_i1 k)) rfl (l_M_nextWant hW hWn (k + 1) _ (by omega))
            first
              | rw [nxw_no fun q => h30 q.1]
              | rw [nxw_no fun q => q.2 (Int32.not_le.mp h48)]
              | (rw [nxw_new ⟨h30, Int32.not_lt.mpr h48⟩ (by omega) h55]; rfl)
              | (rw [nxw_ge ⟨h30, Int32.not_lt.mpr h48⟩ hq (Int32.not_lt.mpr h80), hq])
              | (rw [nxw_bt ⟨h30, Int32.not_lt.mpr h48⟩ hq (Int32.not_le.mp h80)]; rfl)
      · refine Rn.step (pc' := 85) rfl rfl ?_
        refine Rn.step (pc' := 88) rfl rfl ?_
        refine Rn.step (pc' := 4) rfl rfl ?_
        refine Rn.ls5 rfl rfl (congrArg Value.int ?_) (congrArg Value.int (nI_i1 k)) rfl (l_M_nextWant hW hWn (k + 1) _ (by omega))
        first
          | rw [nxw_no fun q => h30 q.1]
          | rw [nxw_no fun q => q.2 (Int32.not_le.mp h48)]
          | (rw [nxw_new ⟨h30, Int32.not_lt.mpr h48⟩ (by omega) h55]; rfl)
          | (rw [nxw_ge ⟨h30, Int32.not_lt.mpr h48⟩ hq (Int32.not_lt.mpr h80), hq])
          | (rw [nxw_bt ⟨h30, Int32.not_lt.mpr h48⟩ hq (Int32.not_le.mp h80)]; rfl)
termination_by Wn - k
theorem c_M_nextWant {d b Wn : Nat} (hW : s 4 = nI Wn) (hWn : Wn ≤ 10) : Cl d j_M_nextWant [.ref 50, .int (nI b)] (MS m0 v dx A LA s) (Pi (eO (nxw s b Wn)) (MS m0 v dx A LA s)) := by
  show Rn d j_M_nextWant 0 _ _ _ _
  refine Rn.iconst (v := (-1)) (pc' := 1) rfl (by decide) rfl ?_
  refine Rn.step (pc' := 2) rfl rfl ?_
  refine Rn.iconst (v := 0) (pc' := 3) rfl (by decide) rfl ?_
  refine Rn.step (pc' := 4) rfl rfl ?_
  exact l_M_nextWant hW hWn 0 _ (Nat.zero_le _)
/-- where b wants to go -/
def mGo (s : Nat → Int32) (b Wn : Nat) : Int32 := match nxw s b Wn with
  | none => s (10 + 6 * b + 1)
  | some q => s (60 + 4 * q + 1)
theorem eO_pos {q : Nat} (h : q < 2147483648) : 0 ≤ eO (some q) := nI_pos' h
theorem c_M_goalOf {d : Nat} (hd : 1 ≤ d) {Wn : Nat} (hW : s 4 = nI Wn) (hWn : Wn ≤ 10) (b : Nat) (h : b < 6) : Cl d j_M_goalOf [.ref 50, .int (nI b)] (MS m0 v dx A LA s) (Pi (mGo s b Wn) (MS m0 v dx A LA s)) := by
  show Rn d j_M_goalOf 0 _ _ _ _
  refine Rn.step (pc' := 1) rfl rfl ?_
  refine Rn.step (pc' := 2) rfl rfl ?_
  refine Rn.vi (pc' := 5) rfl (by decide) (by omega) rfl rfl rfl (c_M_nextWant hW hWn) ?_
  refine Rn.step (pc' := 6) rfl rfl ?_
  refine Rn.step (pc' := 7) rfl rfl ?_
  refine Rn.ifc_ge (pc1 := 19) (pc2 := 10) rfl rfl rfl (fun h7 => ?_) (fun h7 => ?_)
  · obtain ⟨q, hq⟩ := eO_neg (Int32.not_lt.mpr h7)
    have hqk := nxw_lt hq
    refine Rn.step (pc' := 20) rfl rfl ?_
    refine Rn.getf (pc' := 23) rfl rfl rfl rfl rfl ?_
    refine Rn.iconst (v := 60) (pc' := 25) rfl (by decide) rfl ?_
    refine Rn.iconst (v := 4) (pc' := 26) rfl (by decide) rfl ?_
    refine Rn.step (pc' := 27) rfl rfl ?_
    refine Rn.imul (pc' := 28) rfl rfl ?_
    refine Rn.iadd (pc' := 29) rfl rfl ?_
    refine Rn.iconst (v := 1) (pc' := 30) rfl (by decide) rfl ?_
    refine Rn.iadd (pc' := 31) rfl rfl ?_
    refine Rn.sald (k := 60 + 4 * q + 1) (pc' := 32) rfl rfl (by rw [hq]; simp only [eO, nI_lit, nI_add, pk_mul]) (by omega) (by decide) rfl ?_
    exact Rn.reti rfl (rfl) (by simp only [mGo, hq]) (rfl)
  · have hq : nxw s b Wn = none := by
      cases hn : nxw s b Wn with
      | none => rfl
      | some q =>
        have := nxw_lt hn
        rw [hn] at h7
        exact absurd (eO_pos (by omega)) h7
    refine Rn.step (pc' := 11) rfl rfl ?_
    refine Rn.step (pc' := 12) rfl rfl ?_
    refine Rn.iconst (v := 1) (pc' := 13) rfl (by decide) rfl ?_
    refine Rn.vi (pc' := 16) rfl (by decide) (by omega) rfl rfl rfl (c_M_brotherOf b 1 (by omega)) ?_
    refine Rn.step (pc' := 32) rfl rfl ?_
    exact Rn.reti rfl (rfl) (by simp only [mGo, hq]) (rfl)
/-- is it frost, by the first k frosts -/
def mFr (s : Nat → Int32) (f : Int32) : Nat → Int32
  | 0 => f
  | k + 1 => if ¬ mFr s f k = 0 ∨ (s (52 + 2 * k) ≤ s 5 ∧ ¬ s (52 + 2 * k + 1) < s 5) then 1 else 0
theorem mFr_s (s : Nat → Int32) (f : Int32) (k : Nat) : mFr s f (k + 1) = if ¬ mFr s f k = 0 ∨ (s (52 + 2 * k) ≤ s 5 ∧ ¬ s (52 + 2 * k + 1) < s 5) then 1 else 0 := rfl
theorem mFr_b {s : Nat → Int32} {f : Int32} (hf : f = 0 ∨ f = 1) : ∀ k, mFr s f k = 0 ∨ mFr s f k = 1
  | 0 => hf
  | k + 1 => by
    unfold mFr
    split
    · exact Or.inr rfl
    · exact Or.inl rfl
theorem nar_b {x : Int32} (h : x = 0 ∨ x = 1) : narrow .boolean (.int x) = .int x := by
  rcases h with rfl | rfl <;> decide
theorem l_M_isFrost {d Fn : Nat} (hF : s 3 = nI Fn) (hFn : Fn ≤ 4) (hf : v 24 = 0 ∨ v 24 = 1) (k : Nat) (hk : k ≤ Fn) : Rn d j_M_isFrost 7 [.ref 50, .int (mFr s (v 24) k), .int (nI k)] [] (MS m0 v dx A LA s) (Pi (mFr s (v 24) Fn) (MS m0 v dx A LA s)) := by
  refine Rn.step (pc' := 8) rfl rfl ?_
  refine Rn.step (pc' := 9) rfl rfl ?_
  refine Rn.getf (pc' := 12) rfl rfl rfl rfl rfl ?_
  refine Rn.iconst (v := 3) (pc' := 13) rfl (by decide) rfl ?_
  refine Rn.sald (k := 3) (pc' := 14) rfl rfl (by simp only [nI_lit, nI_add, pk_mul]) (by omega) (by decide) rfl ?_
  refine Rn.icmp_ge (pc1 := 75) (pc2 := 17) rfl rfl rfl (fun h14 => ?_) (fun h14 => ?_)
  · have hk2 : k = Fn := by
      have := (nI_leI (by omega) (by omega)).mp (hF ▸ h14)
      omega
    subst hk2
    refine Rn.step (pc' := 76) rfl rfl ?_
    exact Rn.reti rfl (nar_b (mFr_b hf k)) (rfl) (rfl)
  · have hk2 : k < Fn := by
      have := mt (nI_leI (a := Fn) (b := k) (by omega) (by omega)).mpr (hF ▸ h14)
      omega
    refine Rn.step (pc' := 18) rfl rfl ?_
    refine Rn.ifc_ne (pc1 := 63) (pc2 := 21) rfl rfl rfl (fun h18 => ?_) (fun h18 => ?_)
    · refine Rn.iconst (v := 1) (pc' := 64) rfl (by decide) rfl ?_
      refine Rn.step (pc' := 68) rfl rfl ?_
      refine Rn.step (pc' := 69) rfl rfl ?_
      refine Rn.step (pc' := 72) rfl rfl ?_
      refine Rn.step (pc' := 7) rfl rfl ?_
      refine Rn.ls3 rfl (congrArg Value.int ?_) (congrArg Value.int (nI_i1 k)) (l_M_isFrost hF hFn hf (k + 1) (by omega))
      rw [mFr_s]
      exact (if_pos (Or.inl h18)).symm
    · refine Rn.step (pc' := 22) rfl rfl ?_
      refine Rn.getf (pc' := 25) rfl rfl rfl rfl rfl ?_
      refine Rn.iconst (v := 5) (pc' := 26) rfl (by decide) rfl ?_
      refine Rn.sald (k := 5) (pc' := 27) rfl rfl (by simp only [nI_lit, nI_add, pk_mul]) (by omega) (by decide) rfl ?_
      refine Rn.step (pc' := 28) rfl rfl ?_
      refine Rn.getf (pc' := 31) rfl rfl rfl rfl rfl ?_
      refine Rn.iconst (v := 52) (pc' := 33) rfl (by decide) rfl ?_
      refine Rn.iconst (v := 2) (pc' := 34) rfl (by decide) rfl ?_
      refine Rn.step (pc' := 35) rfl rfl ?_
      refine Rn.imul (pc' := 36) rfl rfl ?_
      refine Rn.iadd (pc' := 37) rfl rfl ?_
      refine Rn.sald (k := 52 + 2 * k) (pc' := 38) rfl rfl (by simp only [nI_lit, nI_add, pk_mul]) (by omega) (by decide) rfl ?_
      refine Rn.icmp_lt (pc1 := 67) (pc2 := 41) rfl rfl rfl (fun h38 => ?_) (fun h38 => ?_)
      · refine Rn.iconst (v := 0) (pc' := 68) rfl (by decide) rfl ?_
        refine Rn.step (pc' := 69) rfl rfl ?_
        refine Rn.step (pc' := 72) rfl rfl ?_
        refine Rn.step (pc' := 7) rfl rfl ?_
        refine Rn.ls3 rfl (congrArg Value.int ?_) (congrArg Value.int (nI_i1 k)) (l_M_isFrost hF hFn hf (k + 1) (by omega))
        rw [mFr_s]
        exact (if_neg fun q => q.elim (fun c => c h18) (fun z => Int32.not_lt.mpr z.1 h38)).symm
      · refine Rn.step (pc' := 42) rfl rfl ?_
        refine Rn.getf (pc' := 45) rfl rfl rfl rfl rfl ?_
        refine Rn.iconst (v := 5) (pc' := 46) rfl (by decide) rfl ?_
        refine Rn.sald (k := 5) (pc' := 47) rfl rfl (by simp only [nI_lit, nI_add, pk_mul]) (by omega) (by decide) rfl ?_
        refine Rn.step (pc' := 48) rfl rfl ?_
        refine Rn.getf (pc' := 51) rfl rfl rfl rfl rfl ?_
        refine Rn.iconst (v := 52) (pc' := 53) rfl (by decide) rfl ?_
        refine Rn.iconst (v := 2) (pc' := 54) rfl (by decide) rfl ?_
        refine Rn.step (pc' := 55) rfl rfl ?_
        refine Rn.imul (pc' := 56) rfl rfl ?_
        refine Rn.iadd (pc' := 57) rfl rfl ?_
        refine Rn.iconst (v := 1) (pc' := 58) rfl (by decide) rfl ?_
        refine Rn.iadd (pc' := 59) rfl rfl ?_
        refine Rn.sald (k := 52 + 2 * k + 1) (pc' := 60) rfl rfl (by simp only [nI_lit, nI_add, pk_mul]) (by omega) (by decide) rfl ?_
        refine Rn.icmp_gt (pc1 := 67) (pc2 := 63) rfl rfl rfl (fun h60 => ?_) (fun h60 => ?_)
        · refine Rn.iconst (v := 0) (pc' := 68) rfl (by decide) rfl ?_
          refine Rn.step (pc' := 69) rfl rfl ?_
          refine Rn.step (pc' := 72) rfl rfl ?_
          refine Rn.step (pc' := 7) rfl rfl ?_
          refine Rn.ls3 rfl (congrArg Value.int ?_) (congrArg Value.int (nI_i1 k)) (l_M_isFrost hF hFn hf (k + 1) (by omega))
          rw [mFr_s]
          exact (if_neg fun q => q.elim (fun c => c h18) (fun z => z.2 h60)).symm
        · refine Rn.iconst (v := 1) (pc' := 64) rfl (by decide) rfl ?_
          refine Rn.step (pc' := 68) rfl rfl ?_
          refine Rn.step (pc' := 69) rfl rfl ?_
          refine Rn.step (pc' := 72) rfl rfl ?_
          refine Rn.step (pc' := 7) rfl rfl ?_
          refine Rn.ls3 rfl (congrArg Value.int ?_) (congrArg Value.int (nI_i1 k)) (l_M_isFrost hF hFn hf (k + 1) (by omega))
          rw [mFr_s]
          exact (if_pos (Or.inr ⟨Int32.not_lt.mp (show ¬ s 5 < s (52 + 2 * k) from h38), h60⟩)).symm
termination_by Fn - k
theorem c_M_isFrost {d Fn : Nat} (hF : s 3 = nI Fn) (hFn : Fn ≤ 4) (hf : v 24 = 0 ∨ v 24 = 1) : Cl d j_M_isFrost [.ref 50] (MS m0 v dx A LA s) (Pi (mFr s (v 24) Fn) (MS m0 v dx A LA s)) := by
  show Rn d j_M_isFrost 0 _ _ _ _
  refine Rn.step (pc' := 1) rfl rfl ?_
  refine Rn.getf (pc' := 4) rfl rfl rfl rfl rfl ?_
  refine Rn.step (pc' := 5) rfl rfl ?_
  refine Rn.iconst (v := 0) (pc' := 6) rfl (by decide) rfl ?_
  refine Rn.step (pc' := 7) rfl rfl ?_
  exact l_M_isFrost hF hFn hf 0 (Nat.zero_le _)
/-- how many others stand where b does, among the first k -/
def mOt (s : Nat → Int32) (b : Nat) : Nat → Int32
  | 0 => 0
  | k + 1 => mOt s b k + (if ¬ k = b ∧ s (10 + 6 * k) = s (10 + 6 * b) then 1 else 0)
theorem mOt_s (s : Nat → Int32) (b k : Nat) : mOt s b (k + 1) = mOt s b k + (if ¬ k = b ∧ s (10 + 6 * k) = s (10 + 6 * b) then 1 else 0) := rfl
theorem l_M_othersAt {d b Bn : Nat} (hBn : s 2 = nI Bn) (hB6 : Bn ≤ 6) (hb : b < 6) (hd : 1 ≤ d) (k : Nat) (hk : k ≤ Bn) : Rn d j_M_othersAt 4 [.ref 50, .int (nI b), .int (mOt s b k), .int (nI k)] [] (MS m0 v dx A LA s) (Pi (mOt s b Bn) (MS m0 v dx A LA s)) := by
  refine Rn.step (pc' := 5) rfl rfl ?_
  refine Rn.step (pc' := 6) rfl rfl ?_
  refine Rn.getf (pc' := 9) rfl rfl rfl rfl rfl ?_
  refine Rn.iconst (v := 2) (pc' := 10) rfl (by decide) rfl ?_
  refine Rn.sald (k := 2) (pc' := 11) rfl rfl (by simp only [nI_lit, nI_add, pk_mul]) (by omega) (by decide) rfl ?_
  refine Rn.icmp_ge (pc1 := 48) (pc2 := 14) rfl rfl rfl (fun h11 => ?_) (fun h11 => ?_)
  · have hk2 : k = Bn := by
      have := (nI_leI (by omega) (by omega)).mp (hBn ▸ h11)
      omega
    subst hk2
    refine Rn.step (pc' := 49) rfl rfl ?_
    exact Rn.reti rfl (rfl) (rfl) (rfl)
  · have hk2 : k < Bn := by
      have := mt (nI_leI (a := Bn) (b := k) (by omega) (by omega)).mpr (hBn ▸ h11)
      omega
    refine Rn.step (pc' := 15) rfl rfl ?_
    refine Rn.step (pc' := 16) rfl rfl ?_
    refine Rn.step (pc' := 17) rfl rfl ?_
    refine Rn.icmp_eq (pc1 := 39) (pc2 := 20) rfl rfl rfl (fun h17 => ?_) (fun h17 => ?_)
    · refine Rn.iconst (v := 0) (pc' := 40) rfl (by decide) rfl ?_
      refine Rn.iadd (pc' := 41) rfl rfl ?_
      refine Rn.step (pc' := 42) rfl rfl ?_
      refine Rn.step (pc' := 45) rfl rfl ?_
      refine Rn.step (pc' := 4) rfl rfl ?_
      refine Rn.ls4 rfl rfl (congrArg Value.int ?_) (congrArg Value.int (nI_i1 k)) (l_M_othersAt hBn hB6 hb hd (k + 1) (by omega))
      rw [mOt_s]
      first
        | (rw [if_neg]; exact fun q => q.1 ((nI_eq (by omega) (by omega)).mp h17))
        | (rw [if_neg]; exact fun q => h32 q.2)
        | exact congrArg (mOt s b k + ·) (if_pos ⟨fun e => h17 (congrArg nI e), h32⟩).symm
    · refine Rn.step (pc' := 21) rfl rfl ?_
      refine Rn.step (pc' := 22) rfl rfl ?_
      refine Rn.iconst (v := 0) (pc' := 23) rfl (by decide) rfl ?_
      refine Rn.vi (pc' := 26) rfl (by decide) (by omega) rfl rfl rfl (c_M_brotherOf k 0 (by omega)) ?_
      refine Rn.step (pc' := 27) rfl rfl ?_
      refine Rn.step (pc' := 28) rfl rfl ?_
      refine Rn.iconst (v := 0) (pc' := 29) rfl (by decide) rfl ?_
      refine Rn.vi (pc' := 32) rfl (by decide) (by omega) rfl rfl rfl (c_M_brotherOf b 0 (by omega)) ?_
      refine Rn.icmp_ne (pc1 := 39) (pc2 := 35) rfl rfl rfl (fun h32 => ?_) (fun h32 => ?_)
      · refine Rn.iconst (v := 0) (pc' := 40) rfl (by decide) rfl ?_
        refine Rn.iadd (pc' := 41) rfl rfl ?_
        refine Rn.step (pc' := 42) rfl rfl ?_
        refine Rn.step (pc' := 45) rfl rfl ?_
        refine Rn.step (pc' := 4) rfl rfl ?_
        refine Rn.ls4 rfl rfl (congrArg Value.int ?_) (congrArg Value.int (nI_i1 k)) (l_M_othersAt hBn hB6 hb hd (k + 1) (by omega))
        rw [mOt_s]
        first
          | (rw [if_neg]; exact fun q => q.1 ((nI_eq (by omega) (by omega)).mp h17))
          | (rw [if_neg]; exact fun q => h32 q.2)
          | exact congrArg (mOt s b k + ·) (if_pos ⟨fun e => h17 (congrArg nI e), h32⟩).symm
      · refine Rn.iconst (v := 1) (pc' := 36) rfl (by decide) rfl ?_
        refine Rn.step (pc' := 40) rfl rfl ?_
        refine Rn.iadd (pc' := 41) rfl rfl ?_
        refine Rn.step (pc' := 42) rfl rfl ?_
        refine Rn.step (pc' := 45) rfl rfl ?_
        refine Rn.step (pc' := 4) rfl rfl ?_
        refine Rn.ls4 rfl rfl (congrArg Value.int ?_) (congrArg Value.int (nI_i1 k)) (l_M_othersAt hBn hB6 hb hd (k + 1) (by omega))
        rw [mOt_s]
        first
          | (rw [if_neg]; exact fun q => q.1 ((nI_eq (by omega) (by omega)).mp h17))
          | (rw [if_neg]; exact fun q => h32 q.2)
          | exact congrArg (mOt s b k + ·) (if_pos ⟨fun e => h17 (congrArg nI e), h32⟩).symm
termination_by Bn - k
theorem c_M_othersAt {d b Bn : Nat} (hBn : s 2 = nI Bn) (hB6 : Bn ≤ 6) (hb : b < 6) (hd : 1 ≤ d) : Cl d j_M_othersAt [.ref 50, .int (nI b)] (MS m0 v dx A LA s) (Pi (mOt s b Bn) (MS m0 v dx A LA s)) := by
  show Rn d j_M_othersAt 0 _ _ _ _
  refine Rn.iconst (v := 0) (pc' := 1) rfl (by decide) rfl ?_
  refine Rn.step (pc' := 2) rfl rfl ?_
  refine Rn.iconst (v := 0) (pc' := 3) rfl (by decide) rfl ?_
  refine Rn.step (pc' := 4) rfl rfl ?_
  exact l_M_othersAt hBn hB6 hb hd 0 (Nat.zero_le _)
end ML
end
section
/-! THE MODEL: pay, feet, chill, the way home. -/
section MH
variable {m0 : xM} {v : Nat → Int32} {dx : Int64} {A : Nat → Nat → Int32} {LA : Nat → Nat → Int64} {s : Nat → Int32}
theorem upd_id (f : Nat → Int32) (k : Nat) : upd f k (f k) = f := by
  funext j
  by_cases h : j = k
  · subst h; simp [upd]
  · simp [upd, h]
theorem upd_s (f : Nat → Int32) (k : Nat) (x : Int32) : upd f k x k = x := by simp [upd]
theorem upd_n (f : Nat → Int32) {k j : Nat} (x : Int32) (h : j ≠ k) : upd f k x j = f j := by simp [upd, h]
/-- pay, by the first k wants -/
def mPy (s : Nat → Int32) : Nat → (Nat → Int32) × Int32
  | 0 => (s, 0)
  | k + 1 => if (mPy s k).1 (60 + 4 * k + 2) = (mPy s k).1 5 ∧ (mPy s k).1 (10 + 6 * ((mPy s k).1 (60 + 4 * k)).toNatClampNeg) = (mPy s k).1 (60 + 4 * k + 1) ∧ ¬ (mPy s k).1 (10 + 6 * ((mPy s k).1 (60 + 4 * k)).toNatClampNeg + 4) = 1
    then (upd (mPy s k).1 (10 + 6 * ((mPy s k).1 (60 + 4 * k)).toNatClampNeg + 5) ((mPy s k).1 (10 + 6 * ((mPy s k).1 (60 + 4 * k)).toNatClampNeg + 5) + (mPy s k).1 (60 + 4 * k + 3)), (mPy s k).2 + (mPy s k).1 (60 + 4 * k + 3))
    else mPy s k
/-- only what is earned changes -/
theorem mPy_out {s : Nat → Int32} {Wn : Nat} (hw : ∀ k, k < Wn → ∃ b, b < 6 ∧ s (60 + 4 * k) = nI b) : ∀ k, k ≤ Wn → ∀ i, (∀ b, b < 6 → i ≠ 15 + 6 * b) → (mPy s k).1 i = s i
  | 0, _, i, _ => rfl
  | k + 1, hk, i, hi => by
    have ih := mPy_out hw k (by omega)
    unfold mPy
    split
    · obtain ⟨b, hb, he⟩ := hw k (by omega)
      have e1 : (mPy s k).1 (60 + 4 * k) = nI b := by rw [ih _ (fun c hc => by omega)]; exact he
      have h9 : i ≠ 10 + 6 * ((mPy s k).1 (60 + 4 * k)).toNatClampNeg + 5 := by
        rw [e1, nI_clamp (by omega)]
        have := hi b hb
        omega
      show upd _ _ _ i = s i
      rw [upd_n _ _ h9]
      exact ih i hi
    · exact ih i hi
theorem mPy_s (s : Nat → Int32) {k b : Nat} (h : (mPy s k).1 (60 + 4 * k) = nI b) (hb : b < 6) : mPy s (k + 1) = if (mPy s k).1 (60 + 4 * k + 2) = (mPy s k).1 5 ∧ (mPy s k).1 (10 + 6 * b) = (mPy s k).1 (60 + 4 * k + 1) ∧ ¬ (mPy s k).1 (10 + 6 * b + 4) = 1 then (upd (mPy s k).1 (10 + 6 * b + 5) ((mPy s k).1 (10 + 6 * b + 5) + (mPy s k).1 (60 + 4 * k + 3)), (mPy s k).2 + (mPy s k).1 (60 + 4 * k + 3)) else mPy s k := by
  have e : ((mPy s k).1 (60 + 4 * k)).toNatClampNeg = b := by rw [h, nI_clamp (by omega)]
  conv => lhs; unfold mPy
  rw [e]
theorem l_M_earnsNow {d : Nat} {Wn : Nat} (hW : s 4 = nI Wn) (hWn : Wn ≤ 10) (hw : ∀ k, k < Wn → ∃ b, b < 6 ∧ s (60 + 4 * k) = nI b) (k : Nat) (x y : Value) (hk : k ≤ Wn) : Rn d j_M_earnsNow 4 [.ref 50, .int (mPy s k).2, .int (nI k), x, y] [] (MS m0 v dx A LA (mPy s k).1) (Pi (mPy s Wn).2 (MS m0 v dx A LA (mPy s Wn).1)) := by
  have hs4 : (mPy s k).1 4 = nI Wn := (mPy_out hw k hk 4 (fun c hc => by omega)).trans hW
  refine Rn.step (pc' := 5) rfl rfl ?_
  refine Rn.step (pc' := 6) rfl rfl ?_
  refine Rn.getf (pc' := 9) rfl rfl rfl rfl rfl ?_
  refine Rn.iconst (v := 4) (pc' := 10) rfl (by decide) rfl ?_
  refine Rn.sald (k := 4) (pc' := 11) rfl rfl (by simp only [nI_lit, nI_add, pk_mul]) (by omega) (by decide) rfl ?_
  refine Rn.icmp_ge (pc1 := 123) (pc2 := 14) rfl rfl rfl (fun h11 => ?_) (fun h11 => ?_)
  · have hk2 : k = Wn := by
      have := (nI_leI (by omega) (by omega)).mp (hs4 ▸ h11)
      omega
    subst hk2
    refine Rn.step (pc' := 124) rfl rfl ?_
    exact Rn.reti rfl (rfl) (rfl) (rfl)
  · have hk2 : k < Wn := by
      have := mt (nI_leI (a := Wn) (b := k) (by omega) (by omega)).mpr (hs4 ▸ h11)
      omega
    obtain ⟨b, hb6, hb0⟩ := hw k hk2
    have hb : (mPy s k).1 (60 + 4 * k) = nI b := (mPy_out hw k hk _ (fun c hc => by omega)).trans hb0
    have hstep := mPy_s s hb hb6
    refine Rn.iconst (v := 60) (pc' := 16) rfl (by decide) rfl ?_
    refine Rn.iconst (v := 4) (pc' := 17) rfl (by decide) rfl ?_
    refine Rn.step (pc' := 18) rfl rfl ?_
    refine Rn.imul (pc' := 19) rfl rfl ?_
    refine Rn.iadd (pc' := 20) rfl rfl ?_
    refine Rn.step (pc' := 21) rfl rfl ?_
    refine Rn.iconst (v := 10) (pc' := 23) rfl (by decide) rfl ?_
    refine Rn.iconst (v := 6) (pc' := 25) rfl (by decide) rfl ?_
    refine Rn.step (pc' := 26) rfl rfl ?_
    refine Rn.getf (pc' := 29) rfl rfl rfl rfl rfl ?_
    refine Rn.step (pc' := 30) rfl rfl ?_
    refine Rn.sald (k := 60 + 4 * k) (pc' := 31) rfl rfl (by simp only [nI_lit, nI_add, pk_mul]) (by omega) (by decide) rfl ?_
    refine Rn.imul (pc' := 32) rfl rfl ?_
    refine Rn.iadd (pc' := 33) rfl rfl ?_
    refine Rn.step (pc' := 35) rfl rfl ?_
    refine Rn.step (pc' := 36) rfl rfl ?_
    refine Rn.getf (pc' := 39) rfl rfl rfl rfl rfl ?_
    refine Rn.step (pc' := 40) rfl rfl ?_
    refine Rn.iconst (v := 2) (pc' := 41) rfl (by decide) rfl ?_
    refine Rn.iadd (pc' := 42) rfl rfl ?_
    refine Rn.sald (k := 60 + 4 * k + 2) (pc' := 43) rfl rfl (by simp only [nI_lit, nI_add, pk_mul]) (by omega) (by decide) rfl ?_
    refine Rn.step (pc' := 44) rfl rfl ?_
    refine Rn.getf (pc' := 47) rfl rfl rfl rfl rfl ?_
    refine Rn.iconst (v := 5) (pc' := 48) rfl (by decide) rfl ?_
    refine Rn.sald (k := 5) (pc' := 49) rfl rfl (by simp only [nI_lit, nI_add, pk_mul]) (by omega) (by decide) rfl ?_
    refine Rn.icmp_ne (pc1 := 117) (pc2 := 52) rfl rfl rfl (fun h49 => ?_) (fun h49 => ?_)
    · refine Rn.step (pc' := 120) rfl rfl ?_
      refine Rn.step (pc' := 4) rfl rfl ?_
      rw [if_neg (fun z => h49 z.1)] at hstep
      exact Rn.mm (m2 := MS m0 v dx A LA (mPy s (k + 1)).1) (by rw [hstep]) (Rn.ls5 rfl (congrArg Value.int (by rw [hstep])) (congrArg Value.int (nI_i1 k)) rfl rfl (l_M_earnsNow hW hWn hw (k + 1) _ _ (by omega)))
    · refine Rn.step (pc' := 53) rfl rfl ?_
      refine Rn.getf (pc' := 56) rfl rfl rfl rfl rfl ?_
      refine Rn.step (pc' := 58) rfl rfl ?_
      refine Rn.sald (k := 10 + 6 * b) (pc' := 59) rfl rfl (by rw [hb]; simp only [nI_lit, nI_add, pk_mul]) (by omega) (by decide) rfl ?_
      refine Rn.step (pc' := 60) rfl rfl ?_
      refine Rn.getf (pc' := 63) rfl rfl rfl rfl rfl ?_
      refine Rn.step (pc' := 64) rfl rfl ?_
      refine Rn.iconst (v := 1) (pc' := 65) rfl (by decide) rfl ?_
      refine Rn.iadd (pc' := 66) rfl rfl ?_
      refine Rn.sald (k := 60 + 4 * k + 1) (pc' := 67) rfl rfl (by simp only [nI_lit, nI_add, pk_mul]) (by omega) (by decide) rfl ?_
      refine Rn.icmp_ne (pc1 := 117) (pc2 := 70) rfl rfl rfl (fun h67 => ?_) (fun h67 => ?_)
      · refine Rn.step (pc' := 120) rfl rfl ?_
        refine Rn.step (pc' := 4) rfl rfl ?_
        rw [if_neg (fun z => h67 z.2.1)] at hstep
        exact Rn.mm (m2 := MS m0 v dx A LA (mPy s (k + 1)).1) (by rw [hstep]) (Rn.ls5 rfl (congrArg Value.int (by rw [hstep])) (congrArg Value.int (nI_i1 k)) rfl rfl (l_M_earnsNow hW hWn hw (k + 1) _ _ (by omega)))
      · refine Rn.step (pc' := 71) rfl rfl ?_
        refine Rn.getf (pc' := 74) rfl rfl rfl rfl rfl ?_
        refine Rn.step (pc' := 76) rfl rfl ?_
        refine Rn.iconst (v := 4) (pc' := 77) rfl (by decide) rfl ?_
        refine Rn.iadd (pc' := 78) rfl rfl ?_
        refine Rn.sald (k := 10 + 6 * b + 4) (pc' := 79) rfl rfl (by rw [hb]; simp only [nI_lit, nI_add, pk_mul]) (by omega) (by decide) rfl ?_
        refine Rn.iconst (v := 1) (pc' := 80) rfl (by decide) rfl ?_
        refine Rn.icmp_ne (pc1 := 86) (pc2 := 83) rfl rfl rfl (fun h80 => ?_) (fun h80 => ?_)
        · refine Rn.step (pc' := 87) rfl rfl ?_
          refine Rn.getf (pc' := 90) rfl rfl rfl rfl rfl ?_
          refine Rn.step (pc' := 92) rfl rfl ?_
          refine Rn.iconst (v := 5) (pc' := 93) rfl (by decide) rfl ?_
          refine Rn.iadd (pc' := 94) rfl rfl ?_
          refine Rn.step (pc' := 95) rfl rfl ?_
          refine Rn.sald (k := 10 + 6 * b + 5) (pc' := 96) rfl rfl (by rw [hb]; simp only [nI_lit, nI_add, pk_mul]) (by omega) (by decide) rfl ?_
          refine Rn.step (pc' := 97) rfl rfl ?_
          refine Rn.getf (pc' := 100) rfl rfl rfl rfl rfl ?_
          refine Rn.step (pc' := 101) rfl rfl ?_
          refine Rn.iconst (v := 3) (pc' := 102) rfl (by decide) rfl ?_
          refine Rn.iadd (pc' := 103) rfl rfl ?_
          refine Rn.sald (k := 60 + 4 * k + 3) (pc' := 104) rfl rfl (by simp only [nI_lit, nI_add, pk_mul]) (by omega) (by decide) rfl ?_
          refine Rn.iadd (pc' := 105) rfl rfl ?_
          refine Rn.sast (k := 10 + 6 * b + 5) (pc' := 106) rfl rfl (by rw [hb]; simp only [nI_lit, nI_add, pk_mul]) (by omega) (by decide) rfl ?_
          refine Rn.step (pc' := 107) rfl rfl ?_
          refine Rn.step (pc' := 108) rfl rfl ?_
          refine Rn.getf (pc' := 111) rfl rfl rfl rfl rfl ?_
          refine Rn.step (pc' := 112) rfl rfl ?_
          refine Rn.iconst (v := 3) (pc' := 113) rfl (by decide) rfl ?_
          refine Rn.iadd (pc' := 114) rfl rfl ?_
          refine Rn.sald (k := 60 + 4 * k + 3) (pc' := 115) rfl rfl (by simp only [nI_lit, nI_add, pk_mul]) (by omega) (by decide) rfl ?_
          refine Rn.iadd (pc' := 116) rfl rfl ?_
          refine Rn.step (pc' := 117) rfl rfl ?_
          refine Rn.step (pc' := 120) rfl rfl ?_
          refine Rn.step (pc' := 4) rfl rfl ?_
          rw [if_pos ⟨h49, h67, h80⟩] at hstep
          refine Rn.mm (m2 := MS m0 v dx A LA (mPy s (k + 1)).1) (by rw [hstep]) (Rn.ls5 rfl (congrArg Value.int ?_) (congrArg Value.int (nI_i1 k)) rfl rfl (l_M_earnsNow hW hWn hw (k + 1) _ _ (by omega)))
          rw [hstep, upd_n _ _ (show 60 + 4 * k + 3 ≠ 10 + 6 * b + 5 by omega)]
        · refine Rn.step (pc' := 117) rfl rfl ?_
          refine Rn.step (pc' := 120) rfl rfl ?_
          refine Rn.step (pc' := 4) rfl rfl ?_
          rw [if_neg (fun z => z.2.2 h80)] at hstep
          exact Rn.mm (m2 := MS m0 v dx A LA (mPy s (k + 1)).1) (by rw [hstep]) (Rn.ls5 rfl (congrArg Value.int (by rw [hstep])) (congrArg Value.int (nI_i1 k)) rfl rfl (l_M_earnsNow hW hWn hw (k + 1) _ _ (by omega)))
termination_by Wn - k
theorem c_M_earnsNow {d Wn : Nat} (hW : s 4 = nI Wn) (hWn : Wn ≤ 10) (hw : ∀ k, k < Wn → ∃ b, b < 6 ∧ s (60 + 4 * k) = nI b) : Cl d j_M_earnsNow [.ref 50] (MS m0 v dx A LA s) (Pi (mPy s Wn).2 (MS m0 v dx A LA (mPy s Wn).1)) := by
  show Rn d j_M_earnsNow 0 _ _ _ _
  refine Rn.iconst (v := 0) (pc' := 1) rfl (by decide) rfl ?_
  refine Rn.step (pc' := 2) rfl rfl ?_
  refine Rn.iconst (v := 0) (pc' := 3) rfl (by decide) rfl ?_
  refine Rn.step (pc' := 4) rfl rfl ?_
  exact l_M_earnsNow hW hWn hw 0 _ _ (Nat.zero_le _)
def mW1 (s : Nat → Int32) (x : Int32) (k : Nat) : Int32 := if ¬ s (46 + 3 * k) = x ∨ ¬ s (46 + 3 * k + 2) < s 8 then 1 else 0
def mWk (s : Nat → Int32) (x : Int32) : Nat → Int32
  | 0 => 0
  | k + 1 => mWk s x k + mW1 s x k
/-- how many feet get wet -/
def mWf (s : Nat → Int32) (sec x : Int32) : Int32 := if x = sec then 0 else mWk s x 2
theorem l_M_wetFeet {d : Nat} {x : Int32} (hx : ¬ x = v 23) (hd : 2 ≤ d) (k : Nat) (hk : k ≤ 2) : Rn d j_M_wetFeet 4 [.ref 50, .int x, .int (mWk s x k), .int (nI k)] [] (MS m0 v dx A LA s) (Pi (mWk s x 2) (MS m0 v dx A LA s)) := by
  refine Rn.step (pc' := 5) rfl rfl ?_
  refine Rn.iconst (v := 2) (pc' := 6) rfl (by decide) rfl ?_
  refine Rn.icmp_ge (pc1 := 48) (pc2 := 9) rfl rfl rfl (fun h6 => ?_) (fun h6 => ?_)
  · have hk2 : k = 2 := by
      have := (nI_leI (a := 2) (b := k) (by omega) (by omega)).mp h6
      omega
    subst hk2
    refine Rn.step (pc' := 49) rfl rfl ?_
    exact Rn.reti rfl (rfl) (rfl) (rfl)
  · have hk2 : k < 2 := by
      have := mt (nI_leI (a := 2) (b := k) (by omega) (by omega)).mpr h6
      omega
    refine Rn.step (pc' := 10) rfl rfl ?_
    refine Rn.step (pc' := 11) rfl rfl ?_
    refine Rn.getf (pc' := 14) rfl rfl rfl rfl rfl ?_
    refine Rn.icmp_eq (pc1 := 48) (pc2 := 17) rfl rfl rfl (fun h14 => absurd h14 (hx)) (fun h14 => ?_)
    refine Rn.step (pc' := 18) rfl rfl ?_
    refine Rn.step (pc' := 19) rfl rfl ?_
    refine Rn.step (pc' := 20) rfl rfl ?_
    refine Rn.vi (pc' := 23) rfl (by decide) (by omega) rfl rfl rfl (c_M_wearerOf k (by omega)) ?_
    refine Rn.step (pc' := 24) rfl rfl ?_
    refine Rn.icmp_ne (pc1 := 35) (pc2 := 27) rfl rfl rfl (fun h24 => ?_) (fun h24 => ?_)
    · refine Rn.iconst (v := 1) (pc' := 36) rfl (by decide) rfl ?_
      refine Rn.step (pc' := 40) rfl rfl ?_
      refine Rn.iadd (pc' := 41) rfl rfl ?_
      refine Rn.step (pc' := 42) rfl rfl ?_
      refine Rn.step (pc' := 45) rfl rfl ?_
      refine Rn.step (pc' := 4) rfl rfl ?_
      refine Rn.ls4 rfl rfl (congrArg Value.int ?_) (congrArg Value.int (nI_i1 k)) (l_M_wetFeet hx hd (k + 1) (by omega))
      refine congrArg (mWk s x k + ·) ?_
      exact (if_pos (Or.inl h24)).symm
    · refine Rn.step (pc' := 28) rfl rfl ?_
      refine Rn.step (pc' := 29) rfl rfl ?_
      refine Rn.vi (pc' := 32) rfl (by decide) (by omega) rfl rfl rfl (c_M_isHoled (by omega) k (by omega)) ?_
      refine Rn.ifc_eq (pc1 := 39) (pc2 := 35) rfl rfl rfl (fun h32 => ?_) (fun h32 => ?_)
      · refine Rn.iconst (v := 0) (pc' := 40) rfl (by decide) rfl ?_
        refine Rn.iadd (pc' := 41) rfl rfl ?_
        refine Rn.step (pc' := 42) rfl rfl ?_
        refine Rn.step (pc' := 45) rfl rfl ?_
        refine Rn.step (pc' := 4) rfl rfl ?_
        refine Rn.ls4 rfl rfl (congrArg Value.int ?_) (congrArg Value.int (nI_i1 k)) (l_M_wetFeet hx hd (k + 1) (by omega))
        refine congrArg (mWk s x k + ·) ?_
        refine (if_neg fun z => z.elim (fun c => c h24) (fun y => ?_)).symm
        rw [if_neg y] at h32
        exact absurd (show (1 : Int32) = 0 from h32) (by decide)
      · refine Rn.iconst (v := 1) (pc' := 36) rfl (by decide) rfl ?_
        refine Rn.step (pc' := 40) rfl rfl ?_
        refine Rn.iadd (pc' := 41) rfl rfl ?_
        refine Rn.step (pc' := 42) rfl rfl ?_
        refine Rn.step (pc' := 45) rfl rfl ?_
        refine Rn.step (pc' := 4) rfl rfl ?_
        refine Rn.ls4 rfl rfl (congrArg Value.int ?_) (congrArg Value.int (nI_i1 k)) (l_M_wetFeet hx hd (k + 1) (by omega))
        refine congrArg (mWk s x k + ·) ?_
        refine (if_pos (Or.inr fun y => ?_)).symm
        rw [if_pos y] at h32
        exact h32 rfl
termination_by 2 - k
theorem c_M_wetFeet {d : Nat} (hd : 2 ≤ d) (x : Int32) : Cl d j_M_wetFeet [.ref 50, .int x] (MS m0 v dx A LA s) (Pi (mWf s (v 23) x) (MS m0 v dx A LA s)) := by
  show Rn d j_M_wetFeet 0 _ _ _ _
  unfold mWf
  by_cases hx : x = v 23
  · rw [if_pos hx]
    refine Rn.iconst (v := 0) (pc' := 1) rfl (by decide) rfl ?_
    refine Rn.step (pc' := 2) rfl rfl ?_
    refine Rn.iconst (v := 0) (pc' := 3) rfl (by decide) rfl ?_
    refine Rn.step (pc' := 4) rfl rfl ?_
    refine Rn.step (pc' := 5) rfl rfl ?_
    refine Rn.iconst (v := 2) (pc' := 6) rfl (by decide) rfl ?_
    refine Rn.icmp_ge (pc1 := 48) (pc2 := 9) rfl rfl rfl (fun h6 => absurd h6 (show ¬ (2 : Int32) ≤ 0 from by decide)) (fun h6 => ?_)
    refine Rn.step (pc' := 10) rfl rfl ?_
    refine Rn.step (pc' := 11) rfl rfl ?_
    refine Rn.getf (pc' := 14) rfl rfl rfl rfl rfl ?_
    refine Rn.icmp_eq (pc1 := 48) (pc2 := 17) rfl rfl rfl (fun h14 => ?_) (fun h14 => absurd (hx) h14)
    refine Rn.step (pc' := 49) rfl rfl ?_
    exact Rn.reti rfl (rfl) (rfl) (rfl)
  · rw [if_neg hx]
    refine Rn.iconst (v := 0) (pc' := 1) rfl (by decide) rfl ?_
    refine Rn.step (pc' := 2) rfl rfl ?_
    refine Rn.iconst (v := 0) (pc' := 3) rfl (by decide) rfl ?_
    refine Rn.step (pc' := 4) rfl rfl ?_
    exact l_M_wetFeet hx hd 0 (by omega)
def mCn (s : Nat → Int32) (sec much : Int32) (b : Nat) : Int32 := if s (10 + 6 * b) = s (10 + 6 * b + 1) then s (10 + 6 * b + 3) - 4 else s (10 + 6 * b + 3) + much * mWf s sec (nI b) * s (100 + (s (10 + 6 * b)).toNatClampNeg)
def mCl (n : Int32) : Int32 := if n < 0 then 0 else if 99 < n then 99 else n
/-- how cold b is then, and whether he is frozen now -/
def mCh (s : Nat → Int32) (sec much : Int32) (b : Nat) : Nat → Int32 := if mCl (mCn s sec much b) < 60 ∨ s (10 + 6 * b + 4) = 1 then upd s (10 + 6 * b + 3) (mCl (mCn s sec much b)) else upd (upd s (10 + 6 * b + 3) (mCl (mCn s sec much b))) (10 + 6 * b + 4) 1
def mCz (s : Nat → Int32) (sec much : Int32) (b : Nat) (z : Int32) : Int32 := if mCl (mCn s sec much b) < 60 ∨ s (10 + 6 * b + 4) = 1 then z else z + 1
theorem c_M_chills {d : Nat} (hd : 3 ≤ d) (b : Nat) (much : Int32) (hb : b < 6) (hp : ∃ q, q < 10 ∧ s (10 + 6 * b) = nI q) : Cl d j_M_chills [.ref 50, .int (nI b), .int much] (MS m0 v dx A LA s) (Pv (MS m0 (upd v 25 (mCz s (v 23) much b (v 25))) dx A LA (mCh s (v 23) much b))) := by
  show Rn d j_M_chills 0 _ _ _ _
  obtain ⟨q, hq10, hq⟩ := hp
  refine Rn.iconst (v := 10) (pc' := 2) rfl (by decide) rfl ?_
  refine Rn.iconst (v := 6) (pc' := 4) rfl (by decide) rfl ?_
  refine Rn.step (pc' := 5) rfl rfl ?_
  refine Rn.imul (pc' := 6) rfl rfl ?_
  refine Rn.iadd (pc' := 7) rfl rfl ?_
  refine Rn.step (pc' := 8) rfl rfl ?_
  refine Rn.step (pc' := 9) rfl rfl ?_
  refine Rn.getf (pc' := 12) rfl rfl rfl rfl rfl ?_
  refine Rn.step (pc' := 13) rfl rfl ?_
  refine Rn.sald (k := 10 + 6 * b) (pc' := 14) rfl rfl (by simp only [nI_lit, nI_add, pk_mul]) (by omega) (by decide) rfl ?_
  refine Rn.step (pc' := 15) rfl rfl ?_
  refine Rn.getf (pc' := 18) rfl rfl rfl rfl rfl ?_
  refine Rn.step (pc' := 19) rfl rfl ?_
  refine Rn.iconst (v := 1) (pc' := 20) rfl (by decide) rfl ?_
  refine Rn.iadd (pc' := 21) rfl rfl ?_
  refine Rn.sald (k := 10 + 6 * b + 1) (pc' := 22) rfl rfl (by simp only [nI_lit, nI_add, pk_mul]) (by omega) (by decide) rfl ?_
  refine Rn.icmp_ne (pc1 := 38) (pc2 := 25) rfl rfl rfl (fun h22 => ?_) (fun h22 => ?_)
  · refine Rn.step (pc' := 39) rfl rfl ?_
    refine Rn.getf (pc' := 42) rfl rfl rfl rfl rfl ?_
    refine Rn.step (pc' := 43) rfl rfl ?_
    refine Rn.iconst (v := 3) (pc' := 44) rfl (by decide) rfl ?_
    refine Rn.iadd (pc' := 45) rfl rfl ?_
    refine Rn.sald (k := 10 + 6 * b + 3) (pc' := 46) rfl rfl (by simp only [nI_lit, nI_add, pk_mul]) (by omega) (by decide) rfl ?_
    refine Rn.step (pc' := 47) rfl rfl ?_
    refine Rn.step (pc' := 48) rfl rfl ?_
    refine Rn.step (pc' := 49) rfl rfl ?_
    refine Rn.vi (pc' := 52) rfl (by decide) (by omega) rfl rfl rfl (c_M_wetFeet (by omega) (nI b)) ?_
    refine Rn.imul (pc' := 53) rfl rfl ?_
    refine Rn.step (pc' := 54) rfl rfl ?_
    refine Rn.getf (pc' := 57) rfl rfl rfl rfl rfl ?_
    refine Rn.iconst (v := 100) (pc' := 59) rfl (by decide) rfl ?_
    refine Rn.step (pc' := 60) rfl rfl ?_
    refine Rn.getf (pc' := 63) rfl rfl rfl rfl rfl ?_
    refine Rn.step (pc' := 64) rfl rfl ?_
    refine Rn.sald (k := 10 + 6 * b) (pc' := 65) rfl rfl (by simp only [nI_lit, nI_add, pk_mul]) (by omega) (by decide) rfl ?_
    refine Rn.iadd (pc' := 66) rfl rfl ?_
    refine Rn.sald (k := 100 + q) (pc' := 67) rfl rfl (by rw [hq]; simp only [nI_lit, nI_add]) (by omega) (by decide) rfl ?_
    refine Rn.imul (pc' := 68) rfl rfl ?_
    refine Rn.iadd (pc' := 69) rfl rfl ?_
    refine Rn.step (pc' := 71) rfl rfl ?_
    refine Rn.step (pc' := 72) rfl rfl ?_
    refine Rn.getf (pc' := 75) rfl rfl rfl rfl rfl ?_
    refine Rn.step (pc' := 76) rfl rfl ?_
    refine Rn.iconst (v := 3) (pc' := 77) rfl (by decide) rfl ?_
    refine Rn.iadd (pc' := 78) rfl rfl ?_
    refine Rn.step (pc' := 80) rfl rfl ?_
    refine Rn.ifc_ge (pc1 := 87) (pc2 := 83) rfl rfl rfl (fun h80 => ?_) (fun h80 => ?_)
    · refine Rn.step (pc' := 89) rfl rfl ?_
      refine Rn.iconst (v := 99) (pc' := 91) rfl (by decide) rfl ?_
      refine Rn.icmp_le (pc1 := 99) (pc2 := 94) rfl rfl rfl (fun h91 => ?_) (fun h91 => ?_)
      · refine Rn.step (pc' := 101) rfl rfl ?_
        refine Rn.sast (k := 10 + 6 * b + 3) (pc' := 102) rfl rfl (by simp only [nI_lit, nI_add, pk_mul]) (by omega) (by decide) rfl ?_
        refine Rn.step (pc' := 103) rfl rfl ?_
        refine Rn.getf (pc' := 106) rfl rfl rfl rfl rfl ?_
        refine Rn.step (pc' := 107) rfl rfl ?_
        refine Rn.iconst (v := 3) (pc' := 108) rfl (by decide) rfl ?_
        refine Rn.iadd (pc' := 109) rfl rfl ?_
        refine Rn.sald (k := 10 + 6 * b + 3) (pc' := 110) rfl rfl (by simp only [nI_lit, nI_add, pk_mul]) (by omega) (by decide) rfl ?_
        refine Rn.iconst (v := 60) (pc' := 112) rfl (by decide) rfl ?_
        refine Rn.icmp_lt (pc1 := 127) (pc2 := 115) rfl rfl rfl (fun h112 => ?_) (fun h112 => ?_)
        · exact Rn.retv rfl (by
              have hcl : mCl (mCn s (v 23) much b) = (s (10 + 6 * b + 3) + much * mWf s (v 23) (nI b) * s (100 + q)) := by
                have hcn : mCn s (v 23) much b = (s (10 + 6 * b + 3) + much * mWf s (v 23) (nI b) * s (100 + q)) := by
                  unfold mCn
                  rw [if_neg h22, hq, nI_clamp (by omega)]
                rw [hcn]
                unfold mCl
                rw [if_neg (Int32.not_lt.mpr h80), if_neg (Int32.not_lt.mpr h91)]
              rw [upd_s] at h112
              unfold mCh mCz
              rw [hcl, if_pos (Or.inl h112), if_pos (Or.inl h112), upd_id])
        · refine Rn.step (pc' := 116) rfl rfl ?_
          refine Rn.getf (pc' := 119) rfl rfl rfl rfl rfl ?_
          refine Rn.step (pc' := 120) rfl rfl ?_
          refine Rn.iconst (v := 4) (pc' := 121) rfl (by decide) rfl ?_
          refine Rn.iadd (pc' := 122) rfl rfl ?_
          refine Rn.sald (k := 10 + 6 * b + 4) (pc' := 123) rfl rfl (by simp only [nI_lit, nI_add, pk_mul]) (by omega) (by decide) rfl ?_
          refine Rn.iconst (v := 1) (pc' := 124) rfl (by decide) rfl ?_
          refine Rn.icmp_ne (pc1 := 128) (pc2 := 127) rfl rfl rfl (fun h124 => ?_) (fun h124 => ?_)
          · refine Rn.step (pc' := 129) rfl rfl ?_
            refine Rn.getf (pc' := 132) rfl rfl rfl rfl rfl ?_
            refine Rn.step (pc' := 133) rfl rfl ?_
            refine Rn.iconst (v := 4) (pc' := 134) rfl (by decide) rfl ?_
            refine Rn.iadd (pc' := 135) rfl rfl ?_
            refine Rn.iconst (v := 1) (pc' := 136) rfl (by decide) rfl ?_
            refine Rn.sast (k := 10 + 6 * b + 4) (pc' := 137) rfl rfl (by simp only [nI_lit, nI_add, pk_mul]) (by omega) (by decide) rfl ?_
            refine Rn.step (pc' := 138) rfl rfl ?_
            refine Rn.step (pc' := 139) rfl rfl ?_
            refine Rn.getf (pc' := 142) rfl rfl rfl rfl rfl ?_
            refine Rn.iconst (v := 1) (pc' := 143) rfl (by decide) rfl ?_
            refine Rn.iadd (pc' := 144) rfl rfl ?_
            refine Rn.mput (pc' := 147) rfl rfl rfl rfl (by decide) rfl ?_
            exact Rn.retv rfl (by
                have hcl : mCl (mCn s (v 23) much b) = (s (10 + 6 * b + 3) + much * mWf s (v 23) (nI b) * s (100 + q)) := by
                  have hcn : mCn s (v 23) much b = (s (10 + 6 * b + 3) + much * mWf s (v 23) (nI b) * s (100 + q)) := by
                    unfold mCn
                    rw [if_neg h22, hq, nI_clamp (by omega)]
                  rw [hcn]
                  unfold mCl
                  rw [if_neg (Int32.not_lt.mpr h80), if_neg (Int32.not_lt.mpr h91)]
                rw [upd_s] at h112
                rw [upd_n _ _ (show 10 + 6 * b + 4 ≠ 10 + 6 * b + 3 by omega)] at h124
                unfold mCh mCz
                rw [hcl, if_neg (fun z => z.elim h112 h124), if_neg (fun z => z.elim h112 h124)])
          · exact Rn.retv rfl (by
                have hcl : mCl (mCn s (v 23) much b) = (s (10 + 6 * b + 3) + much * mWf s (v 23) (nI b) * s (100 + q)) := by
                  have hcn : mCn s (v 23) much b = (s (10 + 6 * b + 3) + much * mWf s (v 23) (nI b) * s (100 + q)) := by
                    unfold mCn
                    rw [if_neg h22, hq, nI_clamp (by omega)]
                  rw [hcn]
                  unfold mCl
                  rw [if_neg (Int32.not_lt.mpr h80), if_neg (Int32.not_lt.mpr h91)]
                rw [upd_n _ _ (show 10 + 6 * b + 4 ≠ 10 + 6 * b + 3 by omega)] at h124
                unfold mCh mCz
                rw [hcl, if_pos (Or.inr h124), if_pos (Or.inr h124), upd_id])
      · refine Rn.iconst (v := 99) (pc' := 96) rfl (by decide) rfl ?_
        refine Rn.step (pc' := 101) rfl rfl ?_
        refine Rn.sast (k := 10 + 6 * b + 3) (pc' := 102) rfl rfl (by simp only [nI_lit, nI_add, pk_mul]) (by omega) (by decide) rfl ?_
        refine Rn.step (pc' := 103) rfl rfl ?_
        refine Rn.getf (pc' := 106) rfl rfl rfl rfl rfl ?_
        refine Rn.step (pc' := 107) rfl rfl ?_
        refine Rn.iconst (v := 3) (pc' := 108) rfl (by decide) rfl ?_
        refine Rn.iadd (pc' := 109) rfl rfl ?_
        refine Rn.sald (k := 10 + 6 * b + 3) (pc' := 110) rfl rfl (by simp only [nI_lit, nI_add, pk_mul]) (by omega) (by decide) rfl ?_
        refine Rn.iconst (v := 60) (pc' := 112) rfl (by decide) rfl ?_
        refine Rn.icmp_lt (pc1 := 127) (pc2 := 115) rfl rfl rfl (fun h112 => ?_) (fun h112 => ?_)
        · exact Rn.retv rfl (by
              have hcl : mCl (mCn s (v 23) much b) = 99 := by
                have hcn : mCn s (v 23) much b = (s (10 + 6 * b + 3) + much * mWf s (v 23) (nI b) * s (100 + q)) := by
                  unfold mCn
                  rw [if_neg h22, hq, nI_clamp (by omega)]
                rw [hcn]
                unfold mCl
                rw [if_neg (Int32.not_lt.mpr h80), if_pos (Int32.not_le.mp h91)]
              rw [upd_s] at h112
              unfold mCh mCz
              rw [hcl, if_pos (Or.inl h112), if_pos (Or.inl h112), upd_id])
        · refine Rn.step (pc' := 116) rfl rfl ?_
          refine Rn.getf (pc' := 119) rfl rfl rfl rfl rfl ?_
          refine Rn.step (pc' := 120) rfl rfl ?_
          refine Rn.iconst (v := 4) (pc' := 121) rfl (by decide) rfl ?_
          refine Rn.iadd (pc' := 122) rfl rfl ?_
          refine Rn.sald (k := 10 + 6 * b + 4) (pc' := 123) rfl rfl (by simp only [nI_lit, nI_add, pk_mul]) (by omega) (by decide) rfl ?_
          refine Rn.iconst (v := 1) (pc' := 124) rfl (by decide) rfl ?_
          refine Rn.icmp_ne (pc1 := 128) (pc2 := 127) rfl rfl rfl (fun h124 => ?_) (fun h124 => ?_)
          · refine Rn.step (pc' := 129) rfl rfl ?_
            refine Rn.getf (pc' := 132) rfl rfl rfl rfl rfl ?_
            refine Rn.step (pc' := 133) rfl rfl ?_
            refine Rn.iconst (v := 4) (pc' := 134) rfl (by decide) rfl ?_
            refine Rn.iadd (pc' := 135) rfl rfl ?_
            refine Rn.iconst (v := 1) (pc' := 136) rfl (by decide) rfl ?_
            refine Rn.sast (k := 10 + 6 * b + 4) (pc' := 137) rfl rfl (by simp only [nI_lit, nI_add, pk_mul]) (by omega) (by decide) rfl ?_
            refine Rn.step (pc' := 138) rfl rfl ?_
            refine Rn.step (pc' := 139) rfl rfl ?_
            refine Rn.getf (pc' := 142) rfl rfl rfl rfl rfl ?_
            refine Rn.iconst (v := 1) (pc' := 143) rfl (by decide) rfl ?_
            refine Rn.iadd (pc' := 144) rfl rfl ?_
            refine Rn.mput (pc' := 147) rfl rfl rfl rfl (by decide) rfl ?_
            exact Rn.retv rfl (by
                have hcl : mCl (mCn s (v 23) much b) = 99 := by
                  have hcn : mCn s (v 23) much b = (s (10 + 6 * b + 3) + much * mWf s (v 23) (nI b) * s (100 + q)) := by
                    unfold mCn
                    rw [if_neg h22, hq, nI_clamp (by omega)]
                  rw [hcn]
                  unfold mCl
                  rw [if_neg (Int32.not_lt.mpr h80), if_pos (Int32.not_le.mp h91)]
                rw [upd_s] at h112
                rw [upd_n _ _ (show 10 + 6 * b + 4 ≠ 10 + 6 * b + 3 by omega)] at h124
                unfold mCh mCz
                rw [hcl, if_neg (fun z => z.elim h112 h124), if_neg (fun z => z.elim h112 h124)])
          · exact Rn.retv rfl (by
                have hcl : mCl (mCn s (v 23) much b) = 99 := by
                  have hcn : mCn s (v 23) much b = (s (10 + 6 * b + 3) + much * mWf s (v 23) (nI b) * s (100 + q)) := by
                    unfold mCn
                    rw [if_neg h22, hq, nI_clamp (by omega)]
                  rw [hcn]
                  unfold mCl
                  rw [if_neg (Int32.not_lt.mpr h80), if_pos (Int32.not_le.mp h91)]
                rw [upd_n _ _ (show 10 + 6 * b + 4 ≠ 10 + 6 * b + 3 by omega)] at h124
                unfold mCh mCz
                rw [hcl, if_pos (Or.inr h124), if_pos (Or.inr h124), upd_id])
    · refine Rn.iconst (v := 0) (pc' := 84) rfl (by decide) rfl ?_
      refine Rn.step (pc' := 101) rfl rfl ?_
      refine Rn.sast (k := 10 + 6 * b + 3) (pc' := 102) rfl rfl (by simp only [nI_lit, nI_add, pk_mul]) (by omega) (by decide) rfl ?_
      refine Rn.step (pc' := 103) rfl rfl ?_
      refine Rn.getf (pc' := 106) rfl rfl rfl rfl rfl ?_
      refine Rn.step (pc' := 107) rfl rfl ?_
      refine Rn.iconst (v := 3) (pc' := 108) rfl (by decide) rfl ?_
      refine Rn.iadd (pc' := 109) rfl rfl ?_
      refine Rn.sald (k := 10 + 6 * b + 3) (pc' := 110) rfl rfl (by simp only [nI_lit, nI_add, pk_mul]) (by omega) (by decide) rfl ?_
      refine Rn.iconst (v := 60) (pc' := 112) rfl (by decide) rfl ?_
      refine Rn.icmp_lt (pc1 := 127) (pc2 := 115) rfl rfl rfl (fun h112 => ?_) (fun h112 => ?_)
      · exact Rn.retv rfl (by
            have hcl : mCl (mCn s (v 23) much b) = 0 := by
              have hcn : mCn s (v 23) much b = (s (10 + 6 * b + 3) + much * mWf s (v 23) (nI b) * s (100 + q)) := by
                unfold mCn
                rw [if_neg h22, hq, nI_clamp (by omega)]
              rw [hcn]
              unfold mCl
              rw [if_pos (Int32.not_le.mp h80)]
            rw [upd_s] at h112
            unfold mCh mCz
            rw [hcl, if_pos (Or.inl h112), if_pos (Or.inl h112), upd_id])
      · refine Rn.step (pc' := 116) rfl rfl ?_
        refine Rn.getf (pc' := 119) rfl rfl rfl rfl rfl ?_
        refine Rn.step (pc' := 120) rfl rfl ?_
        refine Rn.iconst (v := 4) (pc' := 121) rfl (by decide) rfl ?_
        refine Rn.iadd (pc' := 122) rfl rfl ?_
        refine Rn.sald (k := 10 + 6 * b + 4) (pc' := 123) rfl rfl (by simp only [nI_lit, nI_add, pk_mul]) (by omega) (by decide) rfl ?_
        refine Rn.iconst (v := 1) (pc' := 124) rfl (by decide) rfl ?_
        refine Rn.icmp_ne (pc1 := 128) (pc2 := 127) rfl rfl rfl (fun h124 => ?_) (fun h124 => ?_)
        · refine Rn.step (pc' := 129) rfl rfl ?_
          refine Rn.getf (pc' := 132) rfl rfl rfl rfl rfl ?_
          refine Rn.step (pc' := 133) rfl rfl ?_
          refine Rn.iconst (v := 4) (pc' := 134) rfl (by decide) rfl ?_
          refine Rn.iadd (pc' := 135) rfl rfl ?_
          refine Rn.iconst (v := 1) (pc' := 136) rfl (by decide) rfl ?_
          refine Rn.sast (k := 10 + 6 * b + 4) (pc' := 137) rfl rfl (by simp only [nI_lit, nI_add, pk_mul]) (by omega) (by decide) rfl ?_
          refine Rn.step (pc' := 138) rfl rfl ?_
          refine Rn.step (pc' := 139) rfl rfl ?_
          refine Rn.getf (pc' := 142) rfl rfl rfl rfl rfl ?_
          refine Rn.iconst (v := 1) (pc' := 143) rfl (by decide) rfl ?_
          refine Rn.iadd (pc' := 144) rfl rfl ?_
          refine Rn.mput (pc' := 147) rfl rfl rfl rfl (by decide) rfl ?_
          exact Rn.retv rfl (by
              have hcl : mCl (mCn s (v 23) much b) = 0 := by
                have hcn : mCn s (v 23) much b = (s (10 + 6 * b + 3) + much * mWf s (v 23) (nI b) * s (100 + q)) := by
                  unfold mCn
                  rw [if_neg h22, hq, nI_clamp (by omega)]
                rw [hcn]
                unfold mCl
                rw [if_pos (Int32.not_le.mp h80)]
              rw [upd_s] at h112
              rw [upd_n _ _ (show 10 + 6 * b + 4 ≠ 10 + 6 * b + 3 by omega)] at h124
              unfold mCh mCz
              rw [hcl, if_neg (fun z => z.elim h112 h124), if_neg (fun z => z.elim h112 h124)])
        · exact Rn.retv rfl (by
              have hcl : mCl (mCn s (v 23) much b) = 0 := by
                have hcn : mCn s (v 23) much b = (s (10 + 6 * b + 3) + much * mWf s (v 23) (nI b) * s (100 + q)) := by
                  unfold mCn
                  rw [if_neg h22, hq, nI_clamp (by omega)]
                rw [hcn]
                unfold mCl
                rw [if_pos (Int32.not_le.mp h80)]
              rw [upd_n _ _ (show 10 + 6 * b + 4 ≠ 10 + 6 * b + 3 by omega)] at h124
              unfold mCh mCz
              rw [hcl, if_pos (Or.inr h124), if_pos (Or.inr h124), upd_id])
  · refine Rn.step (pc' := 26) rfl rfl ?_
    refine Rn.getf (pc' := 29) rfl rfl rfl rfl rfl ?_
    refine Rn.step (pc' := 30) rfl rfl ?_
    refine Rn.iconst (v := 3) (pc' := 31) rfl (by decide) rfl ?_
    refine Rn.iadd (pc' := 32) rfl rfl ?_
    refine Rn.sald (k := 10 + 6 * b + 3) (pc' := 33) rfl rfl (by simp only [nI_lit, nI_add, pk_mul]) (by omega) (by decide) rfl ?_
    refine Rn.iconst (v := 4) (pc' := 34) rfl (by decide) rfl ?_
    refine Rn.isub (pc' := 35) rfl rfl ?_
    refine Rn.step (pc' := 69) rfl rfl ?_
    refine Rn.step (pc' := 71) rfl rfl ?_
    refine Rn.step (pc' := 72) rfl rfl ?_
    refine Rn.getf (pc' := 75) rfl rfl rfl rfl rfl ?_
    refine Rn.step (pc' := 76) rfl rfl ?_
    refine Rn.iconst (v := 3) (pc' := 77) rfl (by decide) rfl ?_
    refine Rn.iadd (pc' := 78) rfl rfl ?_
    refine Rn.step (pc' := 80) rfl rfl ?_
    refine Rn.ifc_ge (pc1 := 87) (pc2 := 83) rfl rfl rfl (fun h80 => ?_) (fun h80 => ?_)
    · refine Rn.step (pc' := 89) rfl rfl ?_
      refine Rn.iconst (v := 99) (pc' := 91) rfl (by decide) rfl ?_
      refine Rn.icmp_le (pc1 := 99) (pc2 := 94) rfl rfl rfl (fun h91 => ?_) (fun h91 => ?_)
      · refine Rn.step (pc' := 101) rfl rfl ?_
        refine Rn.sast (k := 10 + 6 * b + 3) (pc' := 102) rfl rfl (by simp only [nI_lit, nI_add, pk_mul]) (by omega) (by decide) rfl ?_
        refine Rn.step (pc' := 103) rfl rfl ?_
        refine Rn.getf (pc' := 106) rfl rfl rfl rfl rfl ?_
        refine Rn.step (pc' := 107) rfl rfl ?_
        refine Rn.iconst (v := 3) (pc' := 108) rfl (by decide) rfl ?_
        refine Rn.iadd (pc' := 109) rfl rfl ?_
        refine Rn.sald (k := 10 + 6 * b + 3) (pc' := 110) rfl rfl (by simp only [nI_lit, nI_add, pk_mul]) (by omega) (by decide) rfl ?_
        refine Rn.iconst (v := 60) (pc' := 112) rfl (by decide) rfl ?_
        refine Rn.icmp_lt (pc1 := 127) (pc2 := 115) rfl rfl rfl (fun h112 => ?_) (fun h112 => ?_)
        · exact Rn.retv rfl (by
              have hcl : mCl (mCn s (v 23) much b) = (s (10 + 6 * b + 3) - 4) := by
                have hcn : mCn s (v 23) much b = (s (10 + 6 * b + 3) - 4) := by
                  unfold mCn
                  rw [if_pos h22]
                rw [hcn]
                unfold mCl
                rw [if_neg (Int32.not_lt.mpr h80), if_neg (Int32.not_lt.mpr h91)]
              rw [upd_s] at h112
              unfold mCh mCz
              rw [hcl, if_pos (Or.inl h112), if_pos (Or.inl h112), upd_id])
        · refine Rn.step (pc' := 116) rfl rfl ?_
          refine Rn.getf (pc' := 119) rfl rfl rfl rfl rfl ?_
          refine Rn.step (pc' := 120) rfl rfl ?_
          refine Rn.iconst (v := 4) (pc' := 121) rfl (by decide) rfl ?_
          refine Rn.iadd (pc' := 122) rfl rfl ?_
          refine Rn.sald (k := 10 + 6 * b + 4) (pc' := 123) rfl rfl (by simp only [nI_lit, nI_add, pk_mul]) (by omega) (by decide) rfl ?_
          refine Rn.iconst (v := 1) (pc' := 124) rfl (by decide) rfl ?_
          refine Rn.icmp_ne (pc1 := 128) (pc2 := 127) rfl rfl rfl (fun h124 => ?_) (fun h124 => ?_)
          · refine Rn.step (pc' := 129) rfl rfl ?_
            refine Rn.getf (pc' := 132) rfl rfl rfl rfl rfl ?_
            refine Rn.step (pc' := 133) rfl rfl ?_
            refine Rn.iconst (v := 4) (pc' := 134) rfl (by decide) rfl ?_
            refine Rn.iadd (pc' := 135) rfl rfl ?_
            refine Rn.iconst (v := 1) (pc' := 136) rfl (by decide) rfl ?_
            refine Rn.sast (k := 10 + 6 * b + 4) (pc' := 137) rfl rfl (by simp only [nI_lit, nI_add, pk_mul]) (by omega) (by decide) rfl ?_
            refine Rn.step (pc' := 138) rfl rfl ?_
            refine Rn.step (pc' := 139) rfl rfl ?_
            refine Rn.getf (pc' := 142) rfl rfl rfl rfl rfl ?_
            refine Rn.iconst (v := 1) (pc' := 143) rfl (by decide) rfl ?_
            refine Rn.iadd (pc' := 144) rfl rfl ?_
            refine Rn.mput (pc' := 147) rfl rfl rfl rfl (by decide) rfl ?_
            exact Rn.retv rfl (by
                have hcl : mCl (mCn s (v 23) much b) = (s (10 + 6 * b + 3) - 4) := by
                  have hcn : mCn s (v 23) much b = (s (10 + 6 * b + 3) - 4) := by
                    unfold mCn
                    rw [if_pos h22]
                  rw [hcn]
                  unfold mCl
                  rw [if_neg (Int32.not_lt.mpr h80), if_neg (Int32.not_lt.mpr h91)]
                rw [upd_s] at h112
                rw [upd_n _ _ (show 10 + 6 * b + 4 ≠ 10 + 6 * b + 3 by omega)] at h124
                unfold mCh mCz
                rw [hcl, if_neg (fun z => z.elim h112 h124), if_neg (fun z => z.elim h112 h124)])
          · exact Rn.retv rfl (by
                have hcl : mCl (mCn s (v 23) much b) = (s (10 + 6 * b + 3) - 4) := by
                  have hcn : mCn s (v 23) much b = (s (10 + 6 * b + 3) - 4) := by
                    unfold mCn
                    rw [if_pos h22]
                  rw [hcn]
                  unfold mCl
                  rw [if_neg (Int32.not_lt.mpr h80), if_neg (Int32.not_lt.mpr h91)]
                rw [upd_n _ _ (show 10 + 6 * b + 4 ≠ 10 + 6 * b + 3 by omega)] at h124
                unfold mCh mCz
                rw [hcl, if_pos (Or.inr h124), if_pos (Or.inr h124), upd_id])
      · refine Rn.iconst (v := 99) (pc' := 96) rfl (by decide) rfl ?_
        refine Rn.step (pc' := 101) rfl rfl ?_
        refine Rn.sast (k := 10 + 6 * b + 3) (pc' := 102) rfl rfl (by simp only [nI_lit, nI_add, pk_mul]) (by omega) (by decide) rfl ?_
        refine Rn.step (pc' := 103) rfl rfl ?_
        refine Rn.getf (pc' := 106) rfl rfl rfl rfl rfl ?_
        refine Rn.step (pc' := 107) rfl rfl ?_
        refine Rn.iconst (v := 3) (pc' := 108) rfl (by decide) rfl ?_
        refine Rn.iadd (pc' := 109) rfl rfl ?_
        refine Rn.sald (k := 10 + 6 * b + 3) (pc' := 110) rfl rfl (by simp only [nI_lit, nI_add, pk_mul]) (by omega) (by decide) rfl ?_
        refine Rn.iconst (v := 60) (pc' := 112) rfl (by decide) rfl ?_
        refine Rn.icmp_lt (pc1 := 127) (pc2 := 115) rfl rfl rfl (fun h112 => ?_) (fun h112 => ?_)
        · exact Rn.retv rfl (by
              have hcl : mCl (mCn s (v 23) much b) = 99 := by
                have hcn : mCn s (v 23) much b = (s (10 + 6 * b + 3) - 4) := by
                  unfold mCn
                  rw [if_pos h22]
                rw [hcn]
                unfold mCl
                rw [if_neg (Int32.not_lt.mpr h80), if_pos (Int32.not_le.mp h91)]
              rw [upd_s] at h112
              unfold mCh mCz
              rw [hcl, if_pos (Or.inl h112), if_pos (Or.inl h112), upd_id])
        · refine Rn.step (pc' := 116) rfl rfl ?_
          refine Rn.getf (pc' := 119) rfl rfl rfl rfl rfl ?_
          refine Rn.step (pc' := 120) rfl rfl ?_
          refine Rn.iconst (v := 4) (pc' := 121) rfl (by decide) rfl ?_
          refine Rn.iadd (pc' := 122) rfl rfl ?_
          refine Rn.sald (k := 10 + 6 * b + 4) (pc' := 123) rfl rfl (by simp only [nI_lit, nI_add, pk_mul]) (by omega) (by decide) rfl ?_
          refine Rn.iconst (v := 1) (pc' := 124) rfl (by decide) rfl ?_
          refine Rn.icmp_ne (pc1 := 128) (pc2 := 127) rfl rfl rfl (fun h124 => ?_) (fun h124 => ?_)
          · refine Rn.step (pc' := 129) rfl rfl ?_
            refine Rn.getf (pc' := 132) rfl rfl rfl rfl rfl ?_
            refine Rn.step (pc' := 133) rfl rfl ?_
            refine Rn.iconst (v := 4) (pc' := 134) rfl (by decide) rfl ?_
            refine Rn.iadd (pc' := 135) rfl rfl ?_
            refine Rn.iconst (v := 1) (pc' := 136) rfl (by decide) rfl ?_
            refine Rn.sast (k := 10 + 6 * b + 4) (pc' := 137) rfl rfl (by simp only [nI_lit, nI_add, pk_mul]) (by omega) (by decide) rfl ?_
            refine Rn.step (pc' := 138) rfl rfl ?_
            refine Rn.step (pc' := 139) rfl rfl ?_
            refine Rn.getf (pc' := 142) rfl rfl rfl rfl rfl ?_
            refine Rn.iconst (v := 1) (pc' := 143) rfl (by decide) rfl ?_
            refine Rn.iadd (pc' := 144) rfl rfl ?_
            refine Rn.mput (pc' := 147) rfl rfl rfl rfl (by decide) rfl ?_
            exact Rn.retv rfl (by
                have hcl : mCl (mCn s (v 23) much b) = 99 := by
                  have hcn : mCn s (v 23) much b = (s (10 + 6 * b + 3) - 4) := by
                    unfold mCn
                    rw [if_pos h22]
                  rw [hcn]
                  unfold mCl
                  rw [if_neg (Int32.not_lt.mpr h80), if_pos (Int32.not_le.mp h91)]
                rw [upd_s] at h112
                rw [upd_n _ _ (show 10 + 6 * b + 4 ≠ 10 + 6 * b + 3 by omega)] at h124
                unfold mCh mCz
                rw [hcl, if_neg (fun z => z.elim h112 h124), if_neg (fun z => z.elim h112 h124)])
          · exact Rn.retv rfl (by
                have hcl : mCl (mCn s (v 23) much b) = 99 := by
                  have hcn : mCn s (v 23) much b = (s (10 + 6 * b + 3) - 4) := by
                    unfold mCn
                    rw [if_pos h22]
                  rw [hcn]
                  unfold mCl
                  rw [if_neg (Int32.not_lt.mpr h80), if_pos (Int32.not_le.mp h91)]
                rw [upd_n _ _ (show 10 + 6 * b + 4 ≠ 10 + 6 * b + 3 by omega)] at h124
                unfold mCh mCz
                rw [hcl, if_pos (Or.inr h124), if_pos (Or.inr h124), upd_id])
    · refine Rn.iconst (v := 0) (pc' := 84) rfl (by decide) rfl ?_
      refine Rn.step (pc' := 101) rfl rfl ?_
      refine Rn.sast (k := 10 + 6 * b + 3) (pc' := 102) rfl rfl (by simp only [nI_lit, nI_add, pk_mul]) (by omega) (by decide) rfl ?_
      refine Rn.step (pc' := 103) rfl rfl ?_
      refine Rn.getf (pc' := 106) rfl rfl rfl rfl rfl ?_
      refine Rn.step (pc' := 107) rfl rfl ?_
      refine Rn.iconst (v := 3) (pc' := 108) rfl (by decide) rfl ?_
      refine Rn.iadd (pc' := 109) rfl rfl ?_
      refine Rn.sald (k := 10 + 6 * b + 3) (pc' := 110) rfl rfl (by simp only [nI_lit, nI_add, pk_mul]) (by omega) (by decide) rfl ?_
      refine Rn.iconst (v := 60) (pc' := 112) rfl (by decide) rfl ?_
      refine Rn.icmp_lt (pc1 := 127) (pc2 := 115) rfl rfl rfl (fun h112 => ?_) (fun h112 => ?_)
      · exact Rn.retv rfl (by
            have hcl : mCl (mCn s (v 23) much b) = 0 := by
              have hcn : mCn s (v 23) much b = (s (10 + 6 * b + 3) - 4) := by
                unfold mCn
                rw [if_pos h22]
              rw [hcn]
              unfold mCl
              rw [if_pos (Int32.not_le.mp h80)]
            rw [upd_s] at h112
            unfold mCh mCz
            rw [hcl, if_pos (Or.inl h112), if_pos (Or.inl h112), upd_id])
      · refine Rn.step (pc' := 116) rfl rfl ?_
        refine Rn.getf (pc' := 119) rfl rfl rfl rfl rfl ?_
        refine Rn.step (pc' := 120) rfl rfl ?_
        refine Rn.iconst (v := 4) (pc' := 121) rfl (by decide) rfl ?_
        refine Rn.iadd (pc' := 122) rfl rfl ?_
        refine Rn.sald (k := 10 + 6 * b + 4) (pc' := 123) rfl rfl (by simp only [nI_lit, nI_add, pk_mul]) (by omega) (by decide) rfl ?_
        refine Rn.iconst (v := 1) (pc' := 124) rfl (by decide) rfl ?_
        refine Rn.icmp_ne (pc1 := 128) (pc2 := 127) rfl rfl rfl (fun h124 => ?_) (fun h124 => ?_)
        · refine Rn.step (pc' := 129) rfl rfl ?_
          refine Rn.getf (pc' := 132) rfl rfl rfl rfl rfl ?_
          refine Rn.step (pc' := 133) rfl rfl ?_
          refine Rn.iconst (v := 4) (pc' := 134) rfl (by decide) rfl ?_
          refine Rn.iadd (pc' := 135) rfl rfl ?_
          refine Rn.iconst (v := 1) (pc' := 136) rfl (by decide) rfl ?_
          refine Rn.sast (k := 10 + 6 * b + 4) (pc' := 137) rfl rfl (by simp only [nI_lit, nI_add, pk_mul]) (by omega) (by decide) rfl ?_
          refine Rn.step (pc' := 138) rfl rfl ?_
          refine Rn.step (pc' := 139) rfl rfl ?_
          refine Rn.getf (pc' := 142) rfl rfl rfl rfl rfl ?_
          refine Rn.iconst (v := 1) (pc' := 143) rfl (by decide) rfl ?_
          refine Rn.iadd (pc' := 144) rfl rfl ?_
          refine Rn.mput (pc' := 147) rfl rfl rfl rfl (by decide) rfl ?_
          exact Rn.retv rfl (by
              have hcl : mCl (mCn s (v 23) much b) = 0 := by
                have hcn : mCn s (v 23) much b = (s (10 + 6 * b + 3) - 4) := by
                  unfold mCn
                  rw [if_pos h22]
                rw [hcn]
                unfold mCl
                rw [if_pos (Int32.not_le.mp h80)]
              rw [upd_s] at h112
              rw [upd_n _ _ (show 10 + 6 * b + 4 ≠ 10 + 6 * b + 3 by omega)] at h124
              unfold mCh mCz
              rw [hcl, if_neg (fun z => z.elim h112 h124), if_neg (fun z => z.elim h112 h124)])
        · exact Rn.retv rfl (by
              have hcl : mCl (mCn s (v 23) much b) = 0 := by
                have hcn : mCn s (v 23) much b = (s (10 + 6 * b + 3) - 4) := by
                  unfold mCn
                  rw [if_pos h22]
                rw [hcn]
                unfold mCl
                rw [if_pos (Int32.not_le.mp h80)]
              rw [upd_n _ _ (show 10 + 6 * b + 4 ≠ 10 + 6 * b + 3 by omega)] at h124
              unfold mCh mCz
              rw [hcl, if_pos (Or.inr h124), if_pos (Or.inr h124), upd_id])
theorem c_M_goesHome {d : Nat} (b : Nat) (hb : b < 6) : Cl d j_M_goesHome [.ref 50, .int (nI b)] (MS m0 v dx A LA s) (Pv (MS m0 v dx A LA (upd (upd (upd s (10 + 6 * b) (s (10 + 6 * b + 1))) (10 + 6 * b + 3) 0) (10 + 6 * b + 4) 0))) := by
  show Rn d j_M_goesHome 0 _ _ _ _
  refine Rn.iconst (v := 10) (pc' := 2) rfl (by decide) rfl ?_
  refine Rn.iconst (v := 6) (pc' := 4) rfl (by decide) rfl ?_
  refine Rn.step (pc' := 5) rfl rfl ?_
  refine Rn.imul (pc' := 6) rfl rfl ?_
  refine Rn.iadd (pc' := 7) rfl rfl ?_
  refine Rn.step (pc' := 8) rfl rfl ?_
  refine Rn.step (pc' := 9) rfl rfl ?_
  refine Rn.getf (pc' := 12) rfl rfl rfl rfl rfl ?_
  refine Rn.step (pc' := 13) rfl rfl ?_
  refine Rn.step (pc' := 14) rfl rfl ?_
  refine Rn.getf (pc' := 17) rfl rfl rfl rfl rfl ?_
  refine Rn.step (pc' := 18) rfl rfl ?_
  refine Rn.iconst (v := 1) (pc' := 19) rfl (by decide) rfl ?_
  refine Rn.iadd (pc' := 20) rfl rfl ?_
  refine Rn.sald (k := 10 + 6 * b + 1) (pc' := 21) rfl rfl (by simp only [nI_lit, nI_add, pk_mul]) (by omega) (by decide) rfl ?_
  refine Rn.sast (k := 10 + 6 * b) (pc' := 22) rfl rfl (by simp only [nI_lit, nI_add, pk_mul]) (by omega) (by decide) rfl ?_
  refine Rn.step (pc' := 23) rfl rfl ?_
  refine Rn.getf (pc' := 26) rfl rfl rfl rfl rfl ?_
  refine Rn.step (pc' := 27) rfl rfl ?_
  refine Rn.iconst (v := 3) (pc' := 28) rfl (by decide) rfl ?_
  refine Rn.iadd (pc' := 29) rfl rfl ?_
  refine Rn.iconst (v := 0) (pc' := 30) rfl (by decide) rfl ?_
  refine Rn.sast (k := 10 + 6 * b + 3) (pc' := 31) rfl rfl (by simp only [nI_lit, nI_add, pk_mul]) (by omega) (by decide) rfl ?_
  refine Rn.step (pc' := 32) rfl rfl ?_
  refine Rn.getf (pc' := 35) rfl rfl rfl rfl rfl ?_
  refine Rn.step (pc' := 36) rfl rfl ?_
  refine Rn.iconst (v := 4) (pc' := 37) rfl (by decide) rfl ?_
  refine Rn.iadd (pc' := 38) rfl rfl ?_
  refine Rn.iconst (v := 0) (pc' := 39) rfl (by decide) rfl ?_
  refine Rn.sast (k := 10 + 6 * b + 4) (pc' := 40) rfl rfl (by simp only [nI_lit, nI_add, pk_mul]) (by omega) (by decide) rfl ?_
  exact Rn.retv rfl (rfl)
end MH
end
section
/-! THE MODEL: rules reckoned. -/
section MR
variable {m0 : xM} {v : Nat → Int32} {dx : Int64} {A : Nat → Nat → Int32} {LA : Nat → Nat → Int64} {s : Nat → Int32}
section MLR
variable {d j pc len pc' : Nat} {ls st : List Value} {Q : Option Value → xM → Prop}
theorem Rn.mlald {a n k : Nat} {i : Int32} (hG : xG j pc = some (.laload, len)) (ha : mL a = some n) (hi : i = nI k) (hk : k < n) (hn : n < 2147483648) (hp : pc + len = pc') (kk : Rn d j pc' ls (.long (LA a k) :: st) (MM m0 v dx A LA) Q) : Rn d j pc ls (.int i :: .ref a :: st) (MM m0 v dx A LA) Q := by
  subst hi
  refine Rn.lald hG (MM_L ha) (vp_in_nI hk hn) hp ?_
  rw [nI_clamp (by omega)]
  exact kk
theorem Rn.mlast {a n k : Nat} {i : Int32} {x : Int64} (hG : xG j pc = some (.lastore, len)) (ha : mL a = some n) (hi : i = nI k) (hk : k < n) (hn : n < 2147483648) (hp : pc + len = pc') (kk : Rn d j pc' ls st (MM m0 v dx A (va_up LA a (vp_updL (LA a) k x))) Q) : Rn d j pc ls (.long x :: .int i :: .ref a :: st) (MM m0 v dx A LA) Q := by
  subst hi
  obtain ⟨h1, h2, -, -⟩ := mL_in ha
  refine Rn.last hG (by unfold xS; omega) (MM_L ha) (vp_in_nI hk hn) hp ?_
  rw [nI_clamp (by omega), MM_setL ha]
  exact kk
end MLR
theorem upd_u (f : Nat → Int32) (k : Nat) (x y : Int32) : upd (upd f k x) k y = upd f k y := by
  funext j
  by_cases h : j = k <;> simp [upd, h]
/-- the model's memory with n numbers on its stack f -/
abbrev MT (m0 : xM) (v : Nat → Int32) (dx : Int64) (A : Nat → Nat → Int32) (LA : Nat → Nat → Int64) (s : Nat → Int32) (n : Nat) (f : Nat → Int64) : xM := MS m0 (upd v 18 (nI n)) dx A (va_up LA 58 f) s
variable {f : Nat → Int64}
theorem MT_MT {n : Nat} {x : Int32} {g : Nat → Int64} : MT m0 (upd v 18 x) dx A (va_up LA 58 f) s n g = MT m0 v dx A LA s n g := by
  show MM _ _ _ _ _ = MM _ _ _ _ _
  rw [upd_u, up_up]
theorem MT_0 : MM m0 (upd v 18 0) dx (va_up A 60 s) LA = MT m0 v dx A LA s 0 (LA 58) := by
  show _ = MM m0 (upd v 18 (nI 0)) dx (va_up A 60 s) (va_up LA 58 (LA 58))
  rw [up_id]
  rfl
theorem c_M_push {d : Nat} {n : Nat} (x : Int64) (hn : n < 64) : Cl d j_M_push [.ref 50, .long x] (MT m0 v dx A LA s n f) (Pv (MT m0 v dx A LA s (n + 1) (vp_updL f n x))) := by
  show Rn d j_M_push 0 _ _ _ _
  refine Rn.step (pc' := 1) rfl rfl ?_
  refine Rn.getf (pc' := 4) rfl rfl rfl rfl rfl ?_
  refine Rn.step (pc' := 5) rfl rfl ?_
  refine Rn.getf (pc' := 8) rfl rfl rfl rfl rfl ?_
  refine Rn.step (pc' := 9) rfl rfl ?_
  refine Rn.mlast (k := n) (pc' := 10) rfl rfl (upd_s _ _ _) (hn) (by decide) rfl ?_
  refine Rn.step (pc' := 11) rfl rfl ?_
  refine Rn.step (pc' := 12) rfl rfl ?_
  refine Rn.getf (pc' := 15) rfl rfl rfl rfl rfl ?_
  refine Rn.iconst (v := 1) (pc' := 16) rfl (by decide) rfl ?_
  refine Rn.iadd (pc' := 17) rfl rfl ?_
  refine Rn.mput (pc' := 20) rfl rfl rfl rfl (by decide) rfl ?_
  exact Rn.retv rfl (by rw [up_up, va_up_self, upd_u, upd_s, nI_1])
theorem c_M_pop {d : Nat} {n : Nat} (hn : n < 64) : Cl d j_M_pop [.ref 50] (MT m0 v dx A LA s (n + 1) f) (Pg (f n) (MT m0 v dx A LA s n f)) := by
  show Rn d j_M_pop 0 _ _ _ _
  refine Rn.step (pc' := 1) rfl rfl ?_
  refine Rn.step (pc' := 2) rfl rfl ?_
  refine Rn.getf (pc' := 5) rfl rfl rfl rfl rfl ?_
  refine Rn.iconst (v := 1) (pc' := 6) rfl (by decide) rfl ?_
  refine Rn.isub (pc' := 7) rfl rfl ?_
  refine Rn.mput (pc' := 10) rfl rfl rfl rfl (by decide) rfl ?_
  refine Rn.step (pc' := 11) rfl rfl ?_
  refine Rn.getf (pc' := 14) rfl rfl rfl rfl rfl ?_
  refine Rn.step (pc' := 15) rfl rfl ?_
  refine Rn.getf (pc' := 18) rfl rfl rfl rfl rfl ?_
  refine Rn.mlald (k := n) (pc' := 19) rfl rfl (by rw [upd_s, upd_s]; exact nI_pred n) (hn) (by decide) rfl ?_
  exact Rn.retl rfl (by rw [va_up_self]) (by rw [upd_u, upd_s]; exact congrArg (fun z => MS m0 (upd v 18 z) dx A (va_up LA 58 f) s) (nI_pred n))
/-- what a sign of two numbers answers -/
def opr (c : Nat) (x y : Int64) : Int64 := match c with
  | 2 => x + y
  | 3 => x - y
  | 4 => x * y
  | 5 => if y = 0 then 0 else x / y
  | 6 => if x < y then 1 else 0
  | 7 => if x ≤ y then 1 else 0
  | 8 => if x = y then 1 else 0
  | 9 => if y ≤ x then 1 else 0
  | 10 => if y < x then 1 else 0
  | 12 => x &&& y
  | 14 => if y = 0 then 0 else x - x / y * y
  | _ => x ||| y
theorem Rn.tsw {d j pc len : Nat} {ls st : List Value} {m : xM} {Q : Option Value → xM → Prop} {dd lo hi : Int} {offs : Array Int} {x : Int32} {t : Int} {pc1 : Nat} (hG : xG j pc = some (.tableswitch dd lo hi offs, len)) (h1 : ¬ (x.toInt < lo ∨ hi < x.toInt)) (h2 : offs[(x.toInt - lo).toNat]? = some t) (h3 : t.toNat = pc1) (kk : Rn d j pc1 ls st m Q) : Rn d j pc ls (.int x :: st) m Q := by
  subst h3
  exact Rn.step hG (by simp only [xs, if_neg h1, h2]) kk
theorem Rn.tsd {d j pc len : Nat} {ls st : List Value} {m : xM} {Q : Option Value → xM → Prop} {dd lo hi : Int} {offs : Array Int} {x : Int32} {pc1 : Nat} (hG : xG j pc = some (.tableswitch dd lo hi offs, len)) (h1 : x.toInt < lo ∨ hi < x.toInt) (h3 : dd.toNat = pc1) (kk : Rn d j pc1 ls st m Q) : Rn d j pc ls (.int x :: st) m Q := by
  subst h3
  exact Rn.step hG (by simp only [xs, if_pos h1]) kk
theorem c_M_one {d : Nat} {m : xM} (c : Nat) (hc : 2 ≤ c ∧ c < 15 ∧ c ≠ 11) (x y : Int64) : Cl d j_M_one [.int (nI c), .long x, .long y] m (Pg (opr c x y) m) := by
  show Rn d j_M_one 0 _ _ _ _
  refine Rn.step (pc' := 1) rfl rfl ?_
  match c, hc with
  | 0, hc => omega
  | 1, hc => omega
  | 11, hc => omega
  | 2, _ =>
    refine Rn.tsw (pc1 := 68) rfl (by decide) rfl rfl ?_
    refine Rn.step (pc' := 69) rfl rfl ?_
    refine Rn.step (pc' := 70) rfl rfl ?_
    refine Rn.ladd (pc' := 71) rfl rfl ?_
    exact Rn.retl rfl (rfl) (rfl)
  | 3, _ =>
    refine Rn.tsw (pc1 := 72) rfl (by decide) rfl rfl ?_
    refine Rn.step (pc' := 73) rfl rfl ?_
    refine Rn.step (pc' := 74) rfl rfl ?_
    refine Rn.lsub (pc' := 75) rfl rfl ?_
    exact Rn.retl rfl (rfl) (rfl)
  | 4, _ =>
    refine Rn.tsw (pc1 := 76) rfl (by decide) rfl rfl ?_
    refine Rn.step (pc' := 77) rfl rfl ?_
    refine Rn.step (pc' := 78) rfl rfl ?_
    refine Rn.lmul (pc' := 79) rfl rfl ?_
    exact Rn.retl rfl (rfl) (rfl)
  | 5, _ =>
    refine Rn.tsw (pc1 := 80) rfl (by decide) rfl rfl ?_
    refine Rn.step (pc' := 81) rfl rfl ?_
    refine Rn.ldc2 (v := 0) (pc' := 82) rfl (by decide) rfl ?_
    refine Rn.lcmp (pc' := 83) rfl rfl ?_
    refine Rn.ifc_ne (pc1 := 90) (pc2 := 86) rfl rfl rfl (fun h83 => ?_) (fun h83 => ?_)
    · refine Rn.step (pc' := 91) rfl rfl ?_
      refine Rn.step (pc' := 92) rfl rfl ?_
      refine Rn.ldiv (pc' := 93) rfl (fun e => h83 ((lg_cmp_eq _ _).mpr e)) rfl ?_
      exact Rn.retl rfl ((if_neg (fun e => h83 ((lg_cmp_eq _ _).mpr e))).symm) (rfl)
    · refine Rn.ldc2 (v := 0) (pc' := 87) rfl (by decide) rfl ?_
      refine Rn.step (pc' := 93) rfl rfl ?_
      exact Rn.retl rfl ((if_pos ((lg_cmp_eq _ _).mp h83)).symm) (rfl)
  | 6, _ =>
    refine Rn.tsw (pc1 := 108) rfl (by decide) rfl rfl ?_
    refine Rn.step (pc' := 109) rfl rfl ?_
    refine Rn.step (pc' := 110) rfl rfl ?_
    refine Rn.lcmp (pc' := 111) rfl rfl ?_
    refine Rn.ifc_ge (pc1 := 118) (pc2 := 114) rfl rfl rfl (fun h111 => ?_) (fun h111 => ?_)
    · refine Rn.ldc2 (v := 0) (pc' := 119) rfl (by decide) rfl ?_
      exact Rn.retl rfl ((if_neg (Int64.not_lt.mpr ((lg_cmp_ge _ _).mp h111))).symm) (rfl)
    · refine Rn.ldc2 (v := 1) (pc' := 115) rfl (by decide) rfl ?_
      refine Rn.step (pc' := 119) rfl rfl ?_
      exact Rn.retl rfl ((if_pos (Int64.not_le.mp fun e => h111 ((lg_cmp_ge _ _).mpr e))).symm) (rfl)
  | 7, _ =>
    refine Rn.tsw (pc1 := 120) rfl (by decide) rfl rfl ?_
    refine Rn.step (pc' := 121) rfl rfl ?_
    refine Rn.step (pc' := 122) rfl rfl ?_
    refine Rn.lcmp (pc' := 123) rfl rfl ?_
    refine Rn.ifc_gt (pc1 := 130) (pc2 := 126) rfl rfl rfl (fun h123 => ?_) (fun h123 => ?_)
    · refine Rn.ldc2 (v := 0) (pc' := 131) rfl (by decide) rfl ?_
      exact Rn.retl rfl ((if_neg (Int64.not_le.mpr ((lg_cmp_gt _ _).mp h123))).symm) (rfl)
    · refine Rn.ldc2 (v := 1) (pc' := 127) rfl (by decide) rfl ?_
      refine Rn.step (pc' := 131) rfl rfl ?_
      exact Rn.retl rfl ((if_pos (Int64.not_lt.mp fun e => h123 ((lg_cmp_gt _ _).mpr e))).symm) (rfl)
  | 8, _ =>
    refine Rn.tsw (pc1 := 132) rfl (by decide) rfl rfl ?_
    refine Rn.step (pc' := 133) rfl rfl ?_
    refine Rn.step (pc' := 134) rfl rfl ?_
    refine Rn.lcmp (pc' := 135) rfl rfl ?_
    refine Rn.ifc_ne (pc1 := 142) (pc2 := 138) rfl rfl rfl (fun h135 => ?_) (fun h135 => ?_)
    · refine Rn.ldc2 (v := 0) (pc' := 143) rfl (by decide) rfl ?_
      exact Rn.retl rfl ((if_neg (fun e => h135 ((lg_cmp_eq _ _).mpr e))).symm) (rfl)
    · refine Rn.ldc2 (v := 1) (pc' := 139) rfl (by decide) rfl ?_
      refine Rn.step (pc' := 143) rfl rfl ?_
      exact Rn.retl rfl ((if_pos ((lg_cmp_eq _ _).mp h135)).symm) (rfl)
  | 9, _ =>
    refine Rn.tsw (pc1 := 144) rfl (by decide) rfl rfl ?_
    refine Rn.step (pc' := 145) rfl rfl ?_
    refine Rn.step (pc' := 146) rfl rfl ?_
    refine Rn.lcmp (pc' := 147) rfl rfl ?_
    refine Rn.ifc_lt (pc1 := 154) (pc2 := 150) rfl rfl rfl (fun h147 => ?_) (fun h147 => ?_)
    · refine Rn.ldc2 (v := 0) (pc' := 155) rfl (by decide) rfl ?_
      exact Rn.retl rfl ((if_neg (Int64.not_le.mpr ((lg_cmp_lt _ _).mp h147))).symm) (rfl)
    · refine Rn.ldc2 (v := 1) (pc' := 151) rfl (by decide) rfl ?_
      refine Rn.step (pc' := 155) rfl rfl ?_
      exact Rn.retl rfl ((if_pos (Int64.not_lt.mp fun e => h147 ((lg_cmp_lt _ _).mpr e))).symm) (rfl)
  | 10, _ =>
    refine Rn.tsw (pc1 := 156) rfl (by decide) rfl rfl ?_
    refine Rn.step (pc' := 157) rfl rfl ?_
    refine Rn.step (pc' := 158) rfl rfl ?_
    refine Rn.lcmp (pc' := 159) rfl rfl ?_
    refine Rn.ifc_le (pc1 := 166) (pc2 := 162) rfl rfl rfl (fun h159 => ?_) (fun h159 => ?_)
    · refine Rn.ldc2 (v := 0) (pc' := 167) rfl (by decide) rfl ?_
      exact Rn.retl rfl ((if_neg (Int64.not_lt.mpr ((lg_cmp_le _ _).mp h159))).symm) (rfl)
    · refine Rn.ldc2 (v := 1) (pc' := 163) rfl (by decide) rfl ?_
      refine Rn.step (pc' := 167) rfl rfl ?_
      exact Rn.retl rfl ((if_pos (Int64.not_le.mp fun e => h159 ((lg_cmp_le _ _).mpr e))).symm) (rfl)
  | 12, _ =>
    refine Rn.tsw (pc1 := 168) rfl (by decide) rfl rfl ?_
    refine Rn.step (pc' := 169) rfl rfl ?_
    refine Rn.step (pc' := 170) rfl rfl ?_
    refine Rn.land (pc' := 171) rfl rfl ?_
    exact Rn.retl rfl (rfl) (rfl)
  | 13, _ =>
    refine Rn.tsw (pc1 := 172) rfl (by decide) rfl rfl ?_
    refine Rn.step (pc' := 173) rfl rfl ?_
    refine Rn.step (pc' := 174) rfl rfl ?_
    refine Rn.lor (pc' := 175) rfl rfl ?_
    exact Rn.retl rfl (rfl) (rfl)
  | 14, _ =>
    refine Rn.tsw (pc1 := 94) rfl (by decide) rfl rfl ?_
    refine Rn.step (pc' := 95) rfl rfl ?_
    refine Rn.ldc2 (v := 0) (pc' := 96) rfl (by decide) rfl ?_
    refine Rn.lcmp (pc' := 97) rfl rfl ?_
    refine Rn.ifc_ne (pc1 := 104) (pc2 := 100) rfl rfl rfl (fun h97 => ?_) (fun h97 => ?_)
    · refine Rn.step (pc' := 105) rfl rfl ?_
      refine Rn.step (pc' := 106) rfl rfl ?_
      refine Rn.lrem (pc' := 107) rfl (fun e => h97 ((lg_cmp_eq _ _).mpr e)) rfl ?_
      exact Rn.retl rfl ((if_neg (fun e => h97 ((lg_cmp_eq _ _).mpr e))).symm) (rfl)
    · refine Rn.ldc2 (v := 0) (pc' := 101) rfl (by decide) rfl ?_
      refine Rn.step (pc' := 107) rfl rfl ?_
      exact Rn.retl rfl ((if_pos ((lg_cmp_eq _ _).mp h97)).symm) (rfl)
  | c + 15, hc => omega
/-- a token: its sign, its value; what it does to a stack -/
def tkx (wd : Nat → Int64) (t : Nat × Nat) (st : List Int64) : List Int64 :=
  if t.1 = 0 then (nI t.2).toInt64 :: st else if t.1 = 1 then wd t.2 :: st else if t.1 = 11 then (match st with
    | x :: r => (1 - x) :: r
    | [] => []) else match st with
    | y :: x :: r => opr t.1 x y :: r
    | _ => []
def tkd (t : Nat × Nat) (n : Nat) : Option Nat :=
  if t.1 = 0 ∨ t.1 = 1 then (if n < 40 then some (n + 1) else none) else if t.1 = 11 then (if 1 ≤ n then some n else none) else if 2 ≤ n then some (n - 1) else none
def stk (wd : Nat → Int64) (ts : Nat → Nat × Nat) (b : Nat) : Nat → List Int64
  | 0 => []
  | n + 1 => tkx wd (ts (b + n)) (stk wd ts b n)
def dpt (ts : Nat → Nat × Nat) (b : Nat) : Nat → Option Nat
  | 0 => some 0
  | n + 1 => (dpt ts b n).bind (tkd (ts (b + n)))
def tOk (t : Nat × Nat) : Prop := t.1 < 15 ∧ (t.1 = 1 → t.2 < 15) ∧ t.2 < 100000
theorem tkd_le {t : Nat × Nat} {n k : Nat} (hn : n ≤ 40) (h : tkd t n = some k) : k ≤ 40 := by
  unfold tkd at h
  repeat' (split at h)
  all_goals (first | (cases h; omega) | cases h)
theorem dpt_le {ts : Nat → Nat × Nat} {b : Nat} : ∀ {n k : Nat}, dpt ts b n = some k → k ≤ 40
  | 0, k, h => by cases h; omega
  | n + 1, k, h => by
    obtain ⟨q, h1, h2⟩ := Option.bind_eq_some_iff.mp h
    exact tkd_le (dpt_le h1) h2
theorem dpt_pre {ts : Nat → Nat × Nat} {b n N r : Nat} (h : n ≤ N) (hN : dpt ts b N = some r) : ∃ k, dpt ts b n = some k := by
  induction N generalizing r with
  | zero => exact ⟨0, by rw [Nat.le_zero.mp h]; rfl⟩
  | succ N ih =>
    by_cases he : n = N + 1
    · exact ⟨r, by rw [he]; exact hN⟩
    · obtain ⟨q, h1, h2⟩ := Option.bind_eq_some_iff.mp hN
      exact ih (by omega) h1
theorem tkx_len {wd : Nat → Int64} {t : Nat × Nat} {st : List Int64} {k : Nat} (h : tkd t st.length = some k) : (tkx wd t st).length = k := by
  unfold tkd at h
  unfold tkx
  split at h
  · rename_i h0
    split at h
    · cases h
      rcases h0 with h0 | h0
      · rw [if_pos h0]; rfl
      · rw [if_neg (by omega), if_pos h0]; rfl
    · cases h
  · rename_i h0
    rw [if_neg (fun e => h0 (Or.inl e)), if_neg (fun e => h0 (Or.inr e))]
    split at h
    · rename_i h11
      rw [if_pos h11]
      split at h
      · cases h
        cases st with
        | nil => rename_i h1; simp at h1
        | cons x r => rfl
      · cases h
    · rename_i h11
      rw [if_neg h11]
      split at h
      · cases h
        rename_i h2
        match st, h2 with
        | y :: x :: r, _ => simp
      · cases h
theorem stk_len {wd : Nat → Int64} {ts : Nat → Nat × Nat} {b : Nat} : ∀ {n k : Nat}, dpt ts b n = some k → (stk wd ts b n).length = k
  | 0, k, h => by cases h; rfl
  | n + 1, k, h => by
    obtain ⟨q, h1, h2⟩ := Option.bind_eq_some_iff.mp h
    have := stk_len (wd := wd) h1
    subst this
    exact tkx_len h2
/-- the array f holds the stack st, its bottom first -/
def SR (f : Nat → Int64) (st : List Int64) : Prop := ∀ p x, st.reverse[p]? = some x → f p = x
theorem SR.push {st : List Int64} {x : Int64} (h : SR f st) : SR (vp_updL f st.length x) (x :: st) := by
  intro p y hy
  rw [List.reverse_cons] at hy
  by_cases hp : p < st.length
  · rw [List.getElem?_append_left (by simpa using hp)] at hy
    have : p ≠ st.length := by omega
    simp only [vp_updL, if_neg this]
    exact h p y hy
  · have hp2 : p = st.length := by
      have := (List.getElem?_eq_some_iff.mp hy).1
      simp at this
      omega
    subst hp2
    rw [List.getElem?_append_right (by simp)] at hy
    simp at hy
    simp [vp_updL, hy]
theorem SR.top {st : List Int64} {x : Int64} (h : SR f (x :: st)) : f st.length = x := h _ _ (by rw [List.reverse_cons, List.getElem?_append_right (by simp)]; simp)
theorem SR.pop {st : List Int64} {x : Int64} (h : SR f (x :: st)) : SR f st := by
  intro p y hy
  refine h p y ?_
  rw [List.reverse_cons, List.getElem?_append_left (List.getElem?_eq_some_iff.mp hy).1]
  exact hy
theorem tk_c {c q : Nat} (hc : c < 15) (hq : q < 100000) : nI (c + 16 * q) &&& 15 = nI c := by
  rw [pk_andN (n := c + 16 * q) (by omega) (m := 15) 4 (by decide)]
  congr 1
  omega
theorem tk_v {c q : Nat} (hc : c < 15) (hq : q < 100000) : nI (c + 16 * q) >>> ((4 : Int32) &&& 31) = nI q := by
  rw [pk_shrN (n := c + 16 * q) (by omega) _ 4 (by decide)]
  congr 1
  omega
theorem l_M_reckons {d t b e : Nat} {ts : Nat → Nat × Nat} (hts : ∀ i, b ≤ i → i < e → A 52 (400 * t + i) = nI ((ts i).1 + 16 * (ts i).2) ∧ tOk (ts i)) (ht : t < 6) (he : e ≤ 400) (hdp : dpt ts b (e - b) = some 1) (hd : 1 ≤ d) (n k : Nat) (f : Nat → Int64) (x5 x6 x7 x8 x9 x10 : Value) (hn : b + n ≤ e) (hk : dpt ts b n = some k) (hs : SR f (stk (LA 59) ts b n)) : Rn d j_M_reckons 8 [.ref 50, .int (nI t), .int (nI b), .int (nI e), .int (nI (b + n)), x5, x6, x7, x8, x9, x10] [] (MT m0 v dx A LA s k f) (fun r m2 => r = some (.long ((stk (LA 59) ts b (e - b)).headD 0)) ∧ ∃ f2, m2 = MT m0 v dx A LA s 0 f2) := by
  refine Rn.step (pc' := 10) rfl rfl ?_
  refine Rn.step (pc' := 11) rfl rfl ?_
  refine Rn.icmp_ge (pc1 := 135) (pc2 := 14) rfl rfl rfl (fun h11 => ?_) (fun h11 => ?_)
  · have hne : b + n = e := by
      have := (nI_leI (a := e) (b := b + n) (by omega) (by omega)).mp h11
      omega
    obtain rfl : n = e - b := by omega
    obtain rfl : k = 0 + 1 := Option.some.inj (hk.symm.trans hdp)
    refine Rn.step (pc' := 136) rfl rfl ?_
    refine Rn.vg (pc' := 139) rfl (by decide) (by omega) rfl rfl rfl (c_M_pop (n := 0) (by omega)) ?_
    exact Rn.lret rfl (⟨congrArg (fun z => some (Value.long z)) (by
        have hl := stk_len (wd := LA 59) hk
        match hstk : stk (LA 59) ts b (e - b), hl with
        | [z], _ => rw [hstk] at hs; exact hs.top), _, rfl⟩)
  · have hlt : b + n < e := by
      have := mt (nI_leI (a := e) (b := b + n) (by omega) (by omega)).mpr h11
      omega
    obtain ⟨hsg, hok⟩ := hts (b + n) (by omega) hlt
    have hk40 := dpt_le hk
    have hlen := stk_len (wd := LA 59) hk
    obtain ⟨k2, hk2⟩ := dpt_pre (n := n + 1) (by omega) hdp
    have hd2 : tkd (ts (b + n)) k = some k2 := by
      have := hk2
      rw [dpt, hk] at this
      exact this
    have hlen2 := stk_len (wd := LA 59) hk2
    refine Rn.step (pc' := 15) rfl rfl ?_
    refine Rn.getf (pc' := 18) rfl rfl rfl rfl rfl ?_
    refine Rn.iconst (v := 400) (pc' := 21) rfl (by decide) rfl ?_
    refine Rn.step (pc' := 22) rfl rfl ?_
    refine Rn.imul (pc' := 23) rfl rfl ?_
    refine Rn.step (pc' := 25) rfl rfl ?_
    refine Rn.iadd (pc' := 26) rfl rfl ?_
    refine Rn.mald (k := 400 * t + (b + n)) (pc' := 27) rfl rfl (by simp only [nI_lit, nI_add, pk_mul]) (by omega) (by decide) rfl ?_
    refine Rn.iconst (v := 15) (pc' := 29) rfl (by decide) rfl ?_
    refine Rn.iand (pc' := 30) rfl rfl ?_
    refine Rn.step (pc' := 32) rfl rfl ?_
    refine Rn.step (pc' := 33) rfl rfl ?_
    refine Rn.getf (pc' := 36) rfl rfl rfl rfl rfl ?_
    refine Rn.iconst (v := 400) (pc' := 39) rfl (by decide) rfl ?_
    refine Rn.step (pc' := 40) rfl rfl ?_
    refine Rn.imul (pc' := 41) rfl rfl ?_
    refine Rn.step (pc' := 43) rfl rfl ?_
    refine Rn.iadd (pc' := 44) rfl rfl ?_
    refine Rn.mald (k := 400 * t + (b + n)) (pc' := 45) rfl rfl (by simp only [nI_lit, nI_add, pk_mul]) (by omega) (by decide) rfl ?_
    refine Rn.iconst (v := 4) (pc' := 46) rfl (by decide) rfl ?_
    refine Rn.ishr (pc' := 47) rfl rfl ?_
    refine Rn.step (pc' := 49) rfl rfl ?_
    refine Rn.ls11 (b5 := .int (nI (ts (b + n)).1)) (b6 := .int (nI (ts (b + n)).2)) rfl rfl rfl rfl rfl (congrArg Value.int (by rw [show va_up A 60 s 52 (400 * t + (b + n)) = nI ((ts (b + n)).1 + 16 * (ts (b + n)).2) from hsg]; exact tk_c hok.1 hok.2.2)) (congrArg Value.int (by rw [show va_up A 60 s 52 (400 * t + (b + n)) = nI ((ts (b + n)).1 + 16 * (ts (b + n)).2) from hsg]; exact tk_v hok.1 hok.2.2)) rfl rfl rfl rfl ?_
    refine Rn.step (pc' := 51) rfl rfl ?_
    refine Rn.ifc_ne (pc1 := 64) (pc2 := 54) rfl rfl rfl (fun h51 => ?_) (fun h51 => ?_)
    · refine Rn.step (pc' := 66) rfl rfl ?_
      refine Rn.iconst (v := 1) (pc' := 67) rfl (by decide) rfl ?_
      refine Rn.icmp_ne (pc1 := 84) (pc2 := 70) rfl rfl rfl (fun h67 => ?_) (fun h67 => ?_)
      · refine Rn.step (pc' := 86) rfl rfl ?_
        refine Rn.iconst (v := 11) (pc' := 88) rfl (by decide) rfl ?_
        refine Rn.icmp_ne (pc1 := 104) (pc2 := 91) rfl rfl rfl (fun h88 => ?_) (fun h88 => ?_)
        · have hcb : 2 ≤ (ts (b + n)).1 ∧ (ts (b + n)).1 < 15 ∧ (ts (b + n)).1 ≠ 11 := by
            have h0 : (ts (b + n)).1 ≠ 0 := fun z => h51 (congrArg nI z)
            have h1 : (ts (b + n)).1 ≠ 1 := fun z => h67 (congrArg nI z)
            have h2 : (ts (b + n)).1 ≠ 11 := fun z => h88 (congrArg nI z)
            have := hok.1
            omega
          obtain ⟨y, x, st, hst⟩ : ∃ y x st, stk (LA 59) ts b n = y :: x :: st := by
            unfold tkd at hd2
            rw [if_neg (by omega), if_neg (by omega)] at hd2
            split at hd2
            · rename_i h2
              match hstk : stk (LA 59) ts b n, hlen with
              | [], hl => simp at hl; omega
              | [_], hl => simp at hl; omega
              | y :: x :: st, _ => exact ⟨y, x, st, rfl⟩
            · cases hd2
          rw [hst] at hlen hs
          obtain rfl : k = st.length + 1 + 1 := by simpa using hlen.symm
          refine Rn.step (pc' := 105) rfl rfl ?_
          refine Rn.vg (pc' := 108) rfl (by decide) (by omega) rfl rfl rfl (c_M_pop (n := st.length + 1) (by omega)) ?_
          refine Rn.step (pc' := 110) rfl rfl ?_
          refine Rn.step (pc' := 111) rfl rfl ?_
          refine Rn.vg (pc' := 114) rfl (by decide) (by omega) rfl rfl rfl (c_M_pop (n := st.length) (by omega)) ?_
          refine Rn.step (pc' := 116) rfl rfl ?_
          refine Rn.step (pc' := 117) rfl rfl ?_
          refine Rn.step (pc' := 119) rfl rfl ?_
          refine Rn.step (pc' := 121) rfl rfl ?_
          refine Rn.step (pc' := 123) rfl rfl ?_
          refine Rn.sg (pc' := 126) rfl (by decide) (by omega) rfl rfl (c_M_one _ hcb _ _) ?_
          refine Rn.vv (pc' := 129) rfl (by decide) (by omega) rfl rfl rfl (c_M_push (n := st.length) _ (by omega)) ?_
          refine Rn.step (pc' := 132) rfl rfl ?_
          refine Rn.step (pc' := 8) rfl rfl ?_
          refine Rn.ls11 rfl rfl rfl rfl (congrArg Value.int (nI_i1 (b + n))) rfl rfl rfl rfl rfl rfl (l_M_reckons hts ht he hdp hd (n + 1) (st.length + 1) _ _ _ _ _ _ _ (by omega) (by rw [hk2]; refine congrArg some ?_; rw [← hlen2, stk, hst, tkx, if_neg (by omega), if_neg (by omega), if_neg hcb.2.2]; rfl) ?_)
          rw [stk, hst, tkx, if_neg (by omega), if_neg (by omega), if_neg hcb.2.2]
          have e1 := hs.top
          have e2 := hs.pop.top
          rw [List.length_cons] at e1
          rw [e1, e2]
          exact hs.pop.pop.push
        · have hc11 : (ts (b + n)).1 = 11 := (nI_eq (b := 11) (by have := hok.1; omega) (by decide)).mp h88
          obtain ⟨z, st, hst⟩ : ∃ z st, stk (LA 59) ts b n = z :: st := by
            unfold tkd at hd2
            rw [if_neg (by omega), if_pos hc11] at hd2
            split at hd2
            · cases hstk : stk (LA 59) ts b n with
              | nil => rw [hstk] at hlen; simp at hlen; omega
              | cons z st => exact ⟨z, st, rfl⟩
            · cases hd2
          rw [hst] at hlen hs
          obtain rfl : k = st.length + 1 := by simpa using hlen.symm
          refine Rn.step (pc' := 92) rfl rfl ?_
          refine Rn.ldc2 (v := 1) (pc' := 93) rfl (by decide) rfl ?_
          refine Rn.step (pc' := 94) rfl rfl ?_
          refine Rn.vg (pc' := 97) rfl (by decide) (by omega) rfl rfl rfl (c_M_pop (n := st.length) (by omega)) ?_
          refine Rn.lsub (pc' := 98) rfl rfl ?_
          refine Rn.vv (pc' := 101) rfl (by decide) (by omega) rfl rfl rfl (c_M_push (n := st.length) _ (by omega)) ?_
          refine Rn.step (pc' := 129) rfl rfl ?_
          refine Rn.step (pc' := 132) rfl rfl ?_
          refine Rn.step (pc' := 8) rfl rfl ?_
          refine Rn.ls11 rfl rfl rfl rfl (congrArg Value.int (nI_i1 (b + n))) rfl rfl rfl rfl rfl rfl (l_M_reckons hts ht he hdp hd (n + 1) (st.length + 1) _ _ _ _ _ _ _ (by omega) (by rw [hk2]; refine congrArg some ?_; rw [← hlen2, stk, hst, tkx, if_neg (by omega), if_neg (by omega), if_pos hc11]; rfl) ?_)
          rw [stk, hst, tkx, if_neg (by omega), if_neg (by omega), if_pos hc11]
          rw [hs.top]
          exact hs.pop.push
      · have hc1 : (ts (b + n)).1 = 1 := (nI_eq (b := 1) (by have := hok.1; omega) (by decide)).mp h67
        have hk3 : k < 40 ∧ k2 = k + 1 := by
          unfold tkd at hd2
          rw [if_pos (Or.inr hc1)] at hd2
          split at hd2
          · cases hd2; omega
          · cases hd2
        refine Rn.step (pc' := 71) rfl rfl ?_
        refine Rn.step (pc' := 72) rfl rfl ?_
        refine Rn.getf (pc' := 75) rfl rfl rfl rfl rfl ?_
        refine Rn.step (pc' := 77) rfl rfl ?_
        refine Rn.mlald (k := (ts (b + n)).2) (pc' := 78) rfl rfl (rfl) (hok.2.1 hc1) (by decide) rfl ?_
        refine Rn.vv (pc' := 81) rfl (by decide) (by omega) rfl rfl rfl (c_M_push (n := k) _ (by omega)) ?_
        refine Rn.step (pc' := 129) rfl rfl ?_
        refine Rn.step (pc' := 132) rfl rfl ?_
        refine Rn.step (pc' := 8) rfl rfl ?_
        refine Rn.ls11 rfl rfl rfl rfl (congrArg Value.int (nI_i1 (b + n))) rfl rfl rfl rfl rfl rfl (l_M_reckons hts ht he hdp hd (n + 1) (k + 1) _ _ _ _ _ _ _ (by omega) (by rw [hk2, hk3.2]) ?_)
        rw [stk, tkx.eq_def, if_neg (by omega), if_pos hc1]
        have := hs.push (x := LA 59 (ts (b + n)).2)
        rw [hlen] at this
        exact this
    · have hc0 : (ts (b + n)).1 = 0 := (nI_eq (b := 0) (by have := hok.1; omega) (by decide)).mp h51
      have hk3 : k < 40 ∧ k2 = k + 1 := by
        unfold tkd at hd2
        rw [if_pos (Or.inl hc0)] at hd2
        split at hd2
        · cases hd2; omega
        · cases hd2
      refine Rn.step (pc' := 55) rfl rfl ?_
      refine Rn.step (pc' := 57) rfl rfl ?_
      refine Rn.i2l (pc' := 58) rfl rfl ?_
      refine Rn.vv (pc' := 61) rfl (by decide) (by omega) rfl rfl rfl (c_M_push (n := k) _ (by omega)) ?_
      refine Rn.step (pc' := 129) rfl rfl ?_
      refine Rn.step (pc' := 132) rfl rfl ?_
      refine Rn.step (pc' := 8) rfl rfl ?_
      refine Rn.ls11 rfl rfl rfl rfl (congrArg Value.int (nI_i1 (b + n))) rfl rfl rfl rfl rfl rfl (l_M_reckons hts ht he hdp hd (n + 1) (k + 1) _ _ _ _ _ _ _ (by omega) (by rw [hk2, hk3.2]) ?_)
      rw [stk, tkx.eq_def, if_pos hc0]
      have := hs.push (x := (nI (ts (b + n)).2).toInt64)
      rw [hlen] at this
      exact this
termination_by e - (b + n)
theorem c_M_reckons {d t b e : Nat} {ts : Nat → Nat × Nat} (hts : ∀ i, b ≤ i → i < e → A 52 (400 * t + i) = nI ((ts i).1 + 16 * (ts i).2) ∧ tOk (ts i)) (ht : t < 6) (hbe : b ≤ e) (he : e ≤ 400) (hdp : dpt ts b (e - b) = some 1) (hd : 1 ≤ d) : Cl d j_M_reckons [.ref 50, .int (nI t), .int (nI b), .int (nI e)] (MS m0 v dx A LA s) (fun r m2 => r = some (.long ((stk (LA 59) ts b (e - b)).headD 0)) ∧ ∃ f2, m2 = MT m0 v dx A LA s 0 f2) := by
  show Rn d j_M_reckons 0 _ _ _ _
  refine Rn.step (pc' := 1) rfl rfl ?_
  refine Rn.iconst (v := 0) (pc' := 2) rfl (by decide) rfl ?_
  refine Rn.mput (pc' := 5) rfl rfl rfl rfl (by decide) rfl ?_
  refine Rn.step (pc' := 6) rfl rfl ?_
  refine Rn.step (pc' := 8) rfl rfl ?_
  exact Rn.mm (m2 := MT m0 v dx A LA s 0 (LA 58)) MT_0 (l_M_reckons hts ht he hdp hd 0 0 (LA 58) _ _ _ _ _ _ hbe rfl (fun p x h => by simp [stk] at h))
/-- a rule: its clauses, told by where their sums and tests stand; what it answers -/
abbrev xCl4 : Type := Nat × Nat × Option Nat × Nat
def smb (wd : Nat → Int64) (ts : Nat → Nat × Nat) : List xCl4 → Int64
  | [] => 0
  | q :: r => if q.2.2.1 = none ∨ (stk wd ts (q.2.2.1.getD 0) (q.2.2.2 - q.2.2.1.getD 0)).headD 0 = 1 then (stk wd ts q.1 (q.2.1 - q.1)).headD 0 else smb wd ts r
def ClW (A : Nat → Nat → Int32) (r : Nat) (ts : Nat → Nat × Nat) (N c : Nat) (q : xCl4) : Prop := A 54 (48 * r + 4 * c) = nI q.1 ∧ A 54 (48 * r + 4 * c + 1) = nI q.2.1 ∧ A 54 (48 * r + 4 * c + 2) = eO q.2.2.1 ∧ A 54 (48 * r + 4 * c + 3) = nI q.2.2.2 ∧ q.1 ≤ q.2.1 ∧ q.2.1 ≤ N ∧ dpt ts q.1 (q.2.1 - q.1) = some 1 ∧ ∀ t, q.2.2.1 = some t → t ≤ q.2.2.2 ∧ q.2.2.2 ≤ N ∧ dpt ts t (q.2.2.2 - t) = some 1
/-- the model's arrays hold rule r -/
def RuW (A : Nat → Nat → Int32) (r : Nat) (ts : Nat → Nat × Nat) (N : Nat) (L : List xCl4) : Prop := A 55 r = nI L.length ∧ L.length ≤ 12 ∧ N ≤ 400 ∧ (∀ i, i < N → A 52 (400 * r + i) = nI ((ts i).1 + 16 * (ts i).2) ∧ tOk (ts i)) ∧ ∀ c q, L[c]? = some q → ClW A r ts N c q
theorem l_M_summedBy {d r N : Nat} {ts : Nat → Nat × Nat} {L : List xCl4} (hr : r < 6) (hR : RuW A r ts N L) (hd : 2 ≤ d) (c n : Nat) (f : Nat → Int64) (x : Value) (hc : c ≤ L.length) : Rn d j_M_summedBy 2 [.ref 50, .int (nI r), .int (nI c), x] [] (MT m0 v dx A LA s n f) (fun r m2 => r = some (.long (smb (LA 59) ts (L.drop c))) ∧ ∃ n2 f2, m2 = MT m0 v dx A LA s n2 f2) := by
  obtain ⟨hL, hL12, hN, htk, hcl⟩ := hR
  refine Rn.step (pc' := 3) rfl rfl ?_
  refine Rn.step (pc' := 4) rfl rfl ?_
  refine Rn.getf (pc' := 7) rfl rfl rfl rfl rfl ?_
  refine Rn.step (pc' := 8) rfl rfl ?_
  refine Rn.mald (k := r) (pc' := 9) rfl rfl (rfl) (by omega) (by decide) rfl ?_
  refine Rn.icmp_ge (pc1 := 84) (pc2 := 12) rfl rfl rfl (fun h9 => ?_) (fun h9 => ?_)
  · have hce : c = L.length := by
      have := (nI_leI (a := L.length) (b := c) (by omega) (by omega)).mp (hL ▸ h9)
      omega
    subst hce
    refine Rn.ldc2 (v := 0) (pc' := 85) rfl (by decide) rfl ?_
    exact Rn.lret rfl (⟨by rw [List.drop_length]; rfl, _, _, rfl⟩)
  · have hlt : c < L.length := by
      have := mt (nI_leI (a := L.length) (b := c) (by omega) (by omega)).mpr (hL ▸ h9)
      omega
    obtain ⟨q, hq⟩ : ∃ q, L[c]? = some q := ⟨_, List.getElem?_eq_getElem hlt⟩
    obtain ⟨g1, g2, g3, g4, g5, g6, g7, g8⟩ := hcl c q hq
    have hdr : L.drop c = q :: L.drop (c + 1) := by
      rw [List.drop_eq_getElem_cons hlt]
      rw [List.getElem?_eq_getElem hlt] at hq
      rw [Option.some.inj hq]
    refine Rn.iconst (v := 48) (pc' := 14) rfl (by decide) rfl ?_
    refine Rn.step (pc' := 15) rfl rfl ?_
    refine Rn.imul (pc' := 16) rfl rfl ?_
    refine Rn.iconst (v := 4) (pc' := 17) rfl (by decide) rfl ?_
    refine Rn.step (pc' := 18) rfl rfl ?_
    refine Rn.imul (pc' := 19) rfl rfl ?_
    refine Rn.iadd (pc' := 20) rfl rfl ?_
    refine Rn.step (pc' := 21) rfl rfl ?_
    refine Rn.step (pc' := 22) rfl rfl ?_
    refine Rn.getf (pc' := 25) rfl rfl rfl rfl rfl ?_
    refine Rn.step (pc' := 26) rfl rfl ?_
    refine Rn.iconst (v := 2) (pc' := 27) rfl (by decide) rfl ?_
    refine Rn.iadd (pc' := 28) rfl rfl ?_
    refine Rn.mald (k := 48 * r + 4 * c + 2) (pc' := 29) rfl rfl (by simp only [nI_lit, nI_add, pk_mul]) (by omega) (by decide) rfl ?_
    refine Rn.ifc_lt (pc1 := 58) (pc2 := 32) rfl rfl rfl (fun h29 => ?_) (fun h29 => ?_)
    · have hsm : smb (LA 59) ts (L.drop c) = (stk (LA 59) ts q.1 (q.2.1 - q.1)).headD 0 := by
        rw [hdr, smb, if_pos]
        left
        cases hqt : q.2.2.1 with
        | none => rfl
        | some t =>
          have h9 : eO q.2.2.1 < 0 := by rw [← g3]; exact h29
          rw [hqt] at h9
          obtain ⟨k1, k2, -⟩ := g8 t hqt
          exact absurd h9 (nI_pos (by omega))
      refine Rn.step (pc' := 59) rfl rfl ?_
      refine Rn.step (pc' := 60) rfl rfl ?_
      refine Rn.step (pc' := 61) rfl rfl ?_
      refine Rn.getf (pc' := 64) rfl rfl rfl rfl rfl ?_
      refine Rn.step (pc' := 65) rfl rfl ?_
      refine Rn.mald (k := 48 * r + 4 * c) (pc' := 66) rfl rfl (by simp only [nI_lit, nI_add, pk_mul]) (by omega) (by decide) rfl ?_
      refine Rn.step (pc' := 67) rfl rfl ?_
      refine Rn.getf (pc' := 70) rfl rfl rfl rfl rfl ?_
      refine Rn.step (pc' := 71) rfl rfl ?_
      refine Rn.iconst (v := 1) (pc' := 72) rfl (by decide) rfl ?_
      refine Rn.iadd (pc' := 73) rfl rfl ?_
      refine Rn.mald (k := 48 * r + 4 * c + 1) (pc' := 74) rfl rfl (by simp only [nI_lit, nI_add, pk_mul]) (by omega) (by decide) rfl ?_
      refine Rn.callV (pc' := 77) rfl (by decide) (by omega) rfl rfl rfl ((by
          rw [show va_up A 60 s 54 (48 * r + 4 * c) = nI q.1 from g1, show va_up A 60 s 54 (48 * r + 4 * c + 1) = nI q.2.1 from g2]
          exact c_M_reckons (b := q.1) (e := q.2.1) (ts := ts) (fun i _ hi => htk i (by omega)) hr g5 (by omega) g7 (by omega))) (fun r_ m_ hc_ => ?_)
      obtain ⟨rfl, f3, rfl⟩ := hc_
      exact Rn.lret rfl (⟨by rw [hsm]; rfl, 0, f3, by simp only [MT_MT]⟩)
    · obtain ⟨t, ht⟩ := eO_neg (fun z => h29 (by rw [show va_up A 60 s 54 (48 * r + 4 * c + 2) = eO q.2.2.1 from g3]; exact z))
      obtain ⟨g9, g10, g11⟩ := g8 t ht
      refine Rn.step (pc' := 33) rfl rfl ?_
      refine Rn.step (pc' := 34) rfl rfl ?_
      refine Rn.step (pc' := 35) rfl rfl ?_
      refine Rn.getf (pc' := 38) rfl rfl rfl rfl rfl ?_
      refine Rn.step (pc' := 39) rfl rfl ?_
      refine Rn.iconst (v := 2) (pc' := 40) rfl (by decide) rfl ?_
      refine Rn.iadd (pc' := 41) rfl rfl ?_
      refine Rn.mald (k := 48 * r + 4 * c + 2) (pc' := 42) rfl rfl (by simp only [nI_lit, nI_add, pk_mul]) (by omega) (by decide) rfl ?_
      refine Rn.step (pc' := 43) rfl rfl ?_
      refine Rn.getf (pc' := 46) rfl rfl rfl rfl rfl ?_
      refine Rn.step (pc' := 47) rfl rfl ?_
      refine Rn.iconst (v := 3) (pc' := 48) rfl (by decide) rfl ?_
      refine Rn.iadd (pc' := 49) rfl rfl ?_
      refine Rn.mald (k := 48 * r + 4 * c + 3) (pc' := 50) rfl rfl (by simp only [nI_lit, nI_add, pk_mul]) (by omega) (by decide) rfl ?_
      refine Rn.callV (pc' := 53) rfl (by decide) (by omega) rfl rfl rfl ((by
          rw [show va_up A 60 s 54 (48 * r + 4 * c + 2) = nI t from g3.trans (by rw [ht]; rfl), show va_up A 60 s 54 (48 * r + 4 * c + 3) = nI q.2.2.2 from g4]
          exact c_M_reckons (b := t) (e := q.2.2.2) (ts := ts) (fun i _ hi => htk i (by omega)) hr g9 (by omega) g11 (by omega))) (fun r_ m_ hc_ => ?_)
      obtain ⟨rfl, f2, rfl⟩ := hc_
      refine Rn.ldc2 (v := 1) (pc' := 54) rfl (by decide) rfl ?_
      refine Rn.lcmp (pc' := 55) rfl rfl ?_
      refine Rn.ifc_ne (pc1 := 78) (pc2 := 58) rfl rfl rfl (fun h55 => ?_) (fun h55 => ?_)
      · refine Rn.step (pc' := 81) rfl rfl ?_
        refine Rn.step (pc' := 2) rfl rfl ?_
        have hsm : smb (LA 59) ts (L.drop c) = smb (LA 59) ts (L.drop (c + 1)) := by
          rw [hdr, smb, if_neg]
          rintro (z | z)
          · rw [ht] at z; cases z
          · rw [ht] at z; exact h55 ((lg_cmp_eq _ _).mpr z)
        rw [hsm]
        exact Rn.mm (m2 := MT m0 v dx A LA s 0 f2) MT_MT (Rn.ls4 rfl rfl (congrArg Value.int (nI_i1 c)) rfl (l_M_summedBy hr ⟨hL, hL12, hN, htk, hcl⟩ hd (c + 1) _ _ _ (by omega)))
      · have hsm : smb (LA 59) ts (L.drop c) = (stk (LA 59) ts q.1 (q.2.1 - q.1)).headD 0 := by
          rw [hdr, smb, if_pos]
          right
          rw [ht]
          exact (lg_cmp_eq _ _).mp h55
        refine Rn.step (pc' := 59) rfl rfl ?_
        refine Rn.step (pc' := 60) rfl rfl ?_
        refine Rn.step (pc' := 61) rfl rfl ?_
        refine Rn.getf (pc' := 64) rfl rfl rfl rfl rfl ?_
        refine Rn.step (pc' := 65) rfl rfl ?_
        refine Rn.mald (k := 48 * r + 4 * c) (pc' := 66) rfl rfl (by simp only [nI_lit, nI_add, pk_mul]) (by omega) (by decide) rfl ?_
        refine Rn.step (pc' := 67) rfl rfl ?_
        refine Rn.getf (pc' := 70) rfl rfl rfl rfl rfl ?_
        refine Rn.step (pc' := 71) rfl rfl ?_
        refine Rn.iconst (v := 1) (pc' := 72) rfl (by decide) rfl ?_
        refine Rn.iadd (pc' := 73) rfl rfl ?_
        refine Rn.mald (k := 48 * r + 4 * c + 1) (pc' := 74) rfl rfl (by simp only [nI_lit, nI_add, pk_mul]) (by omega) (by decide) rfl ?_
        refine Rn.callV (pc' := 77) rfl (by decide) (by omega) rfl rfl rfl ((by
            rw [show va_up A 60 s 54 (48 * r + 4 * c) = nI q.1 from g1, show va_up A 60 s 54 (48 * r + 4 * c + 1) = nI q.2.1 from g2]
            exact c_M_reckons (b := q.1) (e := q.2.1) (ts := ts) (fun i _ hi => htk i (by omega)) hr g5 (by omega) g7 (by omega))) (fun r_ m_ hc_ => ?_)
        obtain ⟨rfl, f3, rfl⟩ := hc_
        exact Rn.lret rfl (⟨by rw [hsm]; rfl, 0, f3, by simp only [MT_MT]⟩)
termination_by L.length - c
theorem c_M_summedBy {d r N : Nat} {ts : Nat → Nat × Nat} {L : List xCl4} (hr : r < 6) (hR : RuW A r ts N L) (hd : 2 ≤ d) (n : Nat) (f : Nat → Int64) : Cl d j_M_summedBy [.ref 50, .int (nI r)] (MT m0 v dx A LA s n f) (fun r m2 => r = some (.long (smb (LA 59) ts L)) ∧ ∃ n2 f2, m2 = MT m0 v dx A LA s n2 f2) := by
  show Rn d j_M_summedBy 0 _ _ _ _
  refine Rn.iconst (v := 0) (pc' := 1) rfl (by decide) rfl ?_
  refine Rn.step (pc' := 2) rfl rfl ?_
  exact l_M_summedBy hr hR hd 0 n f _ (Nat.zero_le _)
end MR
end
section
/-! THE MODEL: words, the way of a brother. -/
section MY
variable {m0 : xM} {v : Nat → Int32} {dx : Int64} {A : Nat → Nat → Int32} {LA : Nat → Nat → Int64} {s : Nat → Int32}
section MLW
variable {d j pc len pc' : Nat} {ls st : List Value} {Q : Option Value → xM → Prop} {g : Nat → Int64}
theorem Rn.wast {n k : Nat} {i : Int32} {x : Int64} (hG : xG j pc = some (.lastore, len)) (ha : mL 59 = some n) (hi : i = nI k) (hk : k < 15) (hn : (15 : Nat) < 2147483648) (hp : pc + len = pc') (kk : Rn d j pc' ls st (MS m0 v dx A (va_up LA 59 (vp_updL g k x)) s) Q) : Rn d j pc ls (.long x :: .int i :: .ref 59 :: st) (MS m0 v dx A (va_up LA 59 g) s) Q := by
  refine Rn.mlast (a := 59) (n := 15) (k := k) hG rfl hi hk hn hp ?_
  rw [show va_up LA 59 g 59 = g from va_up_self LA 59 g, up_up]
  exact kk
end MLW
/-- the words of b -/
def mWd (s : Nat → Int32) (sec fd : Int32) (Bn Fn Wn b : Nat) : Nat → Int64
  | 0 => (nI b).toInt64
  | 1 => (s (10 + 6 * b + 0)).toInt64
  | 2 => (s (10 + 6 * b + 1)).toInt64
  | 3 => (s (10 + 6 * b + 2)).toInt64
  | 4 => (s 5).toInt64
  | 5 => (s 6).toInt64
  | 6 => (mGo s b Wn).toInt64
  | 7 => match nxw s b Wn with
    | none => 0
    | some q => (s (60 + 4 * q + 3)).toInt64
  | 8 => match nxw s b Wn with
    | none => 0
    | some q => (s (60 + 4 * q + 2) - s 5).toInt64
  | 9 => (s (100 + (s (10 + 6 * b + 0)).toNatClampNeg)).toInt64
  | 10 => if mFr s fd Fn = 0 then 0 else 1
  | 11 => (mBM s sec (nI b)).toInt64
  | 12 => (s (10 + 6 * b + 3)).toInt64
  | 13 => (mOt s b Bn).toInt64
  | _ => ((if s 46 < 0 ∧ mPl s 0 = s (10 + 6 * b + 0) then 1 else 0) + (if s 49 < 0 ∧ mPl s 1 = s (10 + 6 * b + 0) then 1 else 0) : Int32).toInt64
def Wg (W g : Nat → Int64) (k : Nat) : Prop := ∀ i, i < k → g i = W i
theorem Wg.put {W g : Nat → Int64} {k : Nat} {x : Int64} (h : Wg W g k) (hx : x = W k) : Wg W (vp_updL g k x) (k + 1) := by
  intro i hi
  by_cases e : i = k
  · subst e; simp [vp_updL, hx]
  · simp only [vp_updL, if_neg e]; exact h i (by omega)
/-- what words() needs: the numbers of brothers, frosts, wants; where b stands; who wears the boots -/
def mOkB (v s : Nat → Int32) (Bn Fn Wn b : Nat) : Prop := s 2 = nI Bn ∧ Bn ≤ 6 ∧ s 3 = nI Fn ∧ Fn ≤ 4 ∧ s 4 = nI Wn ∧ Wn ≤ 10 ∧ b < 6 ∧ (v 24 = 0 ∨ v 24 = 1) ∧ (∃ q, q < 10 ∧ s (10 + 6 * b + 0) = nI q) ∧ ∀ k, k < 2 → s (46 + 3 * k) < 0 ∨ ∃ c, c < 6 ∧ s (46 + 3 * k) = nI c
theorem sx1 (a : Nat → Int32) (c : Prop) [Decidable c] (x y z : Int32) (h : x = y) : x + z = y + z := by rw [h]
theorem w_286 {d : Nat} {Bn Fn Wn b : Nat} (hok : mOkB v s Bn Fn Wn b) (hd : 2 ≤ d) {g : Nat → Int64} (x0 x1 : Int32) (h0 : x0 = (if s 46 < 0 ∧ mPl s 0 = s (10 + 6 * b + 0) then (1 : Int32) else 0)) (h1 : x1 = (if s 49 < 0 ∧ mPl s 1 = s (10 + 6 * b + 0) then (1 : Int32) else 0)) (hg : Wg (mWd s (v 23) (v 24) Bn Fn Wn b) g 14) : Rn d j_M_words 286 [.ref 50, .int (nI b), .int (eO (nxw s b Wn)), .int (s (10 + 6 * b + 0))] [.int x1, .int x0, .int 14, .ref 59] (MS m0 v dx A (va_up LA 59 g) s) (fun r m2 => r = none ∧ ∃ g2, m2 = MS m0 v dx A (va_up LA 59 g2) s ∧ Wg (mWd s (v 23) (v 24) Bn Fn Wn b) g2 15) := by
  have hok0 := hok
  obtain ⟨hB, hB6, hF, hF4, hW, hW10, hb, hfd, ⟨q0, hq10, hq0⟩, hwr⟩ := hok
  refine Rn.iadd (pc' := 287) rfl rfl ?_
  refine Rn.i2l (pc' := 288) rfl rfl ?_
  refine Rn.wast (k := 14) (pc' := 289) rfl rfl (rfl) (by omega) (by decide) rfl ?_
  exact Rn.vret rfl (⟨rfl, _, rfl, hg.put (by rw [h0, h1]; rfl)⟩)
theorem w_264 {d : Nat} {Bn Fn Wn b : Nat} (hok : mOkB v s Bn Fn Wn b) (hd : 2 ≤ d) {g : Nat → Int64} (x0 : Int32) (h0 : x0 = (if s 46 < 0 ∧ mPl s 0 = s (10 + 6 * b + 0) then (1 : Int32) else 0)) (hg : Wg (mWd s (v 23) (v 24) Bn Fn Wn b) g 14) : Rn d j_M_words 264 [.ref 50, .int (nI b), .int (eO (nxw s b Wn)), .int (s (10 + 6 * b + 0))] [.int x0, .int 14, .ref 59] (MS m0 v dx A (va_up LA 59 g) s) (fun r m2 => r = none ∧ ∃ g2, m2 = MS m0 v dx A (va_up LA 59 g2) s ∧ Wg (mWd s (v 23) (v 24) Bn Fn Wn b) g2 15) := by
  have hok0 := hok
  obtain ⟨hB, hB6, hF, hF4, hW, hW10, hb, hfd, ⟨q0, hq10, hq0⟩, hwr⟩ := hok
  refine Rn.step (pc' := 265) rfl rfl ?_
  refine Rn.iconst (v := 1) (pc' := 266) rfl (by decide) rfl ?_
  refine Rn.vi (pc' := 269) rfl (by decide) (by omega) rfl rfl rfl (c_M_wearerOf 1 (by decide)) ?_
  refine Rn.ifc_ge (pc1 := 285) (pc2 := 272) rfl rfl rfl (fun h269 => ?_) (fun h269 => ?_)
  · refine Rn.iconst (v := 0) (pc' := 286) rfl (by decide) rfl ?_
    exact w_286 hok0 hd x0 _ h0 ((if_neg fun z => Int32.not_lt.mpr h269 z.1).symm) hg
  · refine Rn.step (pc' := 273) rfl rfl ?_
    refine Rn.iconst (v := 1) (pc' := 274) rfl (by decide) rfl ?_
    refine Rn.vi (pc' := 277) rfl (by decide) (by omega) rfl rfl rfl (c_M_placeOf (by omega) 1 (by decide) (hwr 1 (by decide))) ?_
    refine Rn.step (pc' := 278) rfl rfl ?_
    refine Rn.icmp_ne (pc1 := 285) (pc2 := 281) rfl rfl rfl (fun h278 => ?_) (fun h278 => ?_)
    · refine Rn.iconst (v := 0) (pc' := 286) rfl (by decide) rfl ?_
      exact w_286 hok0 hd x0 _ h0 ((if_neg fun z => h278 z.2).symm) hg
    · refine Rn.iconst (v := 1) (pc' := 282) rfl (by decide) rfl ?_
      refine Rn.step (pc' := 286) rfl rfl ?_
      exact w_286 hok0 hd x0 _ h0 ((if_pos ⟨Int32.not_le.mp h269, h278⟩).symm) hg
theorem w_195 {d : Nat} {Bn Fn Wn b : Nat} (hok : mOkB v s Bn Fn Wn b) (hd : 2 ≤ d) {g : Nat → Int64} (x : Int64) (h0 : x = (mWd s (v 23) (v 24) Bn Fn Wn b) 10) (hg : Wg (mWd s (v 23) (v 24) Bn Fn Wn b) g 10) : Rn d j_M_words 195 [.ref 50, .int (nI b), .int (eO (nxw s b Wn)), .int (s (10 + 6 * b + 0))] [.long x, .int 10, .ref 59] (MS m0 v dx A (va_up LA 59 g) s) (fun r m2 => r = none ∧ ∃ g2, m2 = MS m0 v dx A (va_up LA 59 g2) s ∧ Wg (mWd s (v 23) (v 24) Bn Fn Wn b) g2 15) := by
  have hok0 := hok
  obtain ⟨hB, hB6, hF, hF4, hW, hW10, hb, hfd, ⟨q0, hq10, hq0⟩, hwr⟩ := hok
  refine Rn.wast (k := 10) (pc' := 196) rfl rfl (rfl) (by omega) (by decide) rfl ?_
  refine Rn.step (pc' := 197) rfl rfl ?_
  refine Rn.getf (pc' := 200) rfl rfl rfl rfl rfl ?_
  refine Rn.iconst (v := 11) (pc' := 202) rfl (by decide) rfl ?_
  refine Rn.step (pc' := 203) rfl rfl ?_
  refine Rn.step (pc' := 204) rfl rfl ?_
  refine Rn.vi (pc' := 207) rfl (by decide) (by omega) rfl rfl rfl (c_M_bootsMany (by omega) (nI b)) ?_
  refine Rn.i2l (pc' := 208) rfl rfl ?_
  refine Rn.wast (k := 11) (pc' := 209) rfl rfl (rfl) (by omega) (by decide) rfl ?_
  refine Rn.step (pc' := 210) rfl rfl ?_
  refine Rn.getf (pc' := 213) rfl rfl rfl rfl rfl ?_
  refine Rn.iconst (v := 12) (pc' := 215) rfl (by decide) rfl ?_
  refine Rn.step (pc' := 216) rfl rfl ?_
  refine Rn.step (pc' := 217) rfl rfl ?_
  refine Rn.iconst (v := 3) (pc' := 218) rfl (by decide) rfl ?_
  refine Rn.vi (pc' := 221) rfl (by decide) (by omega) rfl rfl rfl (c_M_brotherOf b 3 (by omega)) ?_
  refine Rn.i2l (pc' := 222) rfl rfl ?_
  refine Rn.wast (k := 12) (pc' := 223) rfl rfl (rfl) (by omega) (by decide) rfl ?_
  refine Rn.step (pc' := 224) rfl rfl ?_
  refine Rn.getf (pc' := 227) rfl rfl rfl rfl rfl ?_
  refine Rn.iconst (v := 13) (pc' := 229) rfl (by decide) rfl ?_
  refine Rn.step (pc' := 230) rfl rfl ?_
  refine Rn.step (pc' := 231) rfl rfl ?_
  refine Rn.vi (pc' := 234) rfl (by decide) (by omega) rfl rfl rfl (c_M_othersAt hB hB6 hb (by omega)) ?_
  refine Rn.i2l (pc' := 235) rfl rfl ?_
  refine Rn.wast (k := 13) (pc' := 236) rfl rfl (rfl) (by omega) (by decide) rfl ?_
  refine Rn.step (pc' := 237) rfl rfl ?_
  refine Rn.getf (pc' := 240) rfl rfl rfl rfl rfl ?_
  refine Rn.iconst (v := 14) (pc' := 242) rfl (by decide) rfl ?_
  refine Rn.step (pc' := 243) rfl rfl ?_
  refine Rn.iconst (v := 0) (pc' := 244) rfl (by decide) rfl ?_
  refine Rn.vi (pc' := 247) rfl (by decide) (by omega) rfl rfl rfl (c_M_wearerOf 0 (by decide)) ?_
  refine Rn.ifc_ge (pc1 := 263) (pc2 := 250) rfl rfl rfl (fun h247 => ?_) (fun h247 => ?_)
  · refine Rn.iconst (v := 0) (pc' := 264) rfl (by decide) rfl ?_
    exact w_264 hok0 hd _ ((if_neg fun z => Int32.not_lt.mpr h247 z.1).symm) ((((hg.put h0).put rfl).put rfl).put rfl)
  · refine Rn.step (pc' := 251) rfl rfl ?_
    refine Rn.iconst (v := 0) (pc' := 252) rfl (by decide) rfl ?_
    refine Rn.vi (pc' := 255) rfl (by decide) (by omega) rfl rfl rfl (c_M_placeOf (by omega) 0 (by decide) (hwr 0 (by decide))) ?_
    refine Rn.step (pc' := 256) rfl rfl ?_
    refine Rn.icmp_ne (pc1 := 263) (pc2 := 259) rfl rfl rfl (fun h256 => ?_) (fun h256 => ?_)
    · refine Rn.iconst (v := 0) (pc' := 264) rfl (by decide) rfl ?_
      exact w_264 hok0 hd _ ((if_neg fun z => h256 z.2).symm) ((((hg.put h0).put rfl).put rfl).put rfl)
    · refine Rn.iconst (v := 1) (pc' := 260) rfl (by decide) rfl ?_
      refine Rn.step (pc' := 264) rfl rfl ?_
      exact w_264 hok0 hd _ ((if_pos ⟨Int32.not_le.mp h247, h256⟩).symm) ((((hg.put h0).put rfl).put rfl).put rfl)
theorem w_159 {d : Nat} {Bn Fn Wn b : Nat} (hok : mOkB v s Bn Fn Wn b) (hd : 2 ≤ d) {g : Nat → Int64} (x : Int64) (h0 : x = (mWd s (v 23) (v 24) Bn Fn Wn b) 8) (hg : Wg (mWd s (v 23) (v 24) Bn Fn Wn b) g 8) : Rn d j_M_words 159 [.ref 50, .int (nI b), .int (eO (nxw s b Wn)), .int (s (10 + 6 * b + 0))] [.long x, .int 8, .ref 59] (MS m0 v dx A (va_up LA 59 g) s) (fun r m2 => r = none ∧ ∃ g2, m2 = MS m0 v dx A (va_up LA 59 g2) s ∧ Wg (mWd s (v 23) (v 24) Bn Fn Wn b) g2 15) := by
  have hok0 := hok
  obtain ⟨hB, hB6, hF, hF4, hW, hW10, hb, hfd, ⟨q0, hq10, hq0⟩, hwr⟩ := hok
  refine Rn.wast (k := 8) (pc' := 160) rfl rfl (rfl) (by omega) (by decide) rfl ?_
  refine Rn.step (pc' := 161) rfl rfl ?_
  refine Rn.getf (pc' := 164) rfl rfl rfl rfl rfl ?_
  refine Rn.iconst (v := 9) (pc' := 166) rfl (by decide) rfl ?_
  refine Rn.step (pc' := 167) rfl rfl ?_
  refine Rn.getf (pc' := 170) rfl rfl rfl rfl rfl ?_
  refine Rn.iconst (v := 100) (pc' := 172) rfl (by decide) rfl ?_
  refine Rn.step (pc' := 173) rfl rfl ?_
  refine Rn.iadd (pc' := 174) rfl rfl ?_
  refine Rn.sald (k := 100 + q0) (pc' := 175) rfl rfl (by rw [hq0]; simp only [nI_lit, nI_add]) (by omega) (by decide) rfl ?_
  refine Rn.i2l (pc' := 176) rfl rfl ?_
  refine Rn.wast (k := 9) (pc' := 177) rfl rfl (rfl) (by omega) (by decide) rfl ?_
  refine Rn.step (pc' := 178) rfl rfl ?_
  refine Rn.getf (pc' := 181) rfl rfl rfl rfl rfl ?_
  refine Rn.iconst (v := 10) (pc' := 183) rfl (by decide) rfl ?_
  refine Rn.step (pc' := 184) rfl rfl ?_
  refine Rn.vi (pc' := 187) rfl (by decide) (by omega) rfl rfl rfl (c_M_isFrost hF hF4 hfd) ?_
  refine Rn.ifc_eq (pc1 := 194) (pc2 := 190) rfl rfl rfl (fun h187 => ?_) (fun h187 => ?_)
  · refine Rn.ldc2 (v := 0) (pc' := 195) rfl (by decide) rfl ?_
    exact w_195 hok0 hd _ ((if_pos h187).symm) ((hg.put h0).put (by show _ = (s (100 + (s (10 + 6 * b + 0)).toNatClampNeg)).toInt64; rw [hq0, nI_clamp (by omega)]))
  · refine Rn.ldc2 (v := 1) (pc' := 191) rfl (by decide) rfl ?_
    refine Rn.step (pc' := 195) rfl rfl ?_
    exact w_195 hok0 hd _ ((if_neg h187).symm) ((hg.put h0).put (by show _ = (s (100 + (s (10 + 6 * b + 0)).toNatClampNeg)).toInt64; rw [hq0, nI_clamp (by omega)]))
theorem w_123 {d : Nat} {Bn Fn Wn b : Nat} (hok : mOkB v s Bn Fn Wn b) (hd : 2 ≤ d) {g : Nat → Int64} (x : Int64) (h0 : x = (mWd s (v 23) (v 24) Bn Fn Wn b) 7) (hg : Wg (mWd s (v 23) (v 24) Bn Fn Wn b) g 7) : Rn d j_M_words 123 [.ref 50, .int (nI b), .int (eO (nxw s b Wn)), .int (s (10 + 6 * b + 0))] [.long x, .int 7, .ref 59] (MS m0 v dx A (va_up LA 59 g) s) (fun r m2 => r = none ∧ ∃ g2, m2 = MS m0 v dx A (va_up LA 59 g2) s ∧ Wg (mWd s (v 23) (v 24) Bn Fn Wn b) g2 15) := by
  have hok0 := hok
  obtain ⟨hB, hB6, hF, hF4, hW, hW10, hb, hfd, ⟨q0, hq10, hq0⟩, hwr⟩ := hok
  refine Rn.wast (k := 7) (pc' := 124) rfl rfl (rfl) (by omega) (by decide) rfl ?_
  refine Rn.step (pc' := 125) rfl rfl ?_
  refine Rn.getf (pc' := 128) rfl rfl rfl rfl rfl ?_
  refine Rn.iconst (v := 8) (pc' := 130) rfl (by decide) rfl ?_
  refine Rn.step (pc' := 131) rfl rfl ?_
  refine Rn.ifc_ge (pc1 := 138) (pc2 := 134) rfl rfl rfl (fun h131 => ?_) (fun h131 => ?_)
  · obtain ⟨q, hq⟩ := eO_neg (Int32.not_lt.mpr h131)
    have hqk := nxw_lt hq
    refine Rn.step (pc' := 139) rfl rfl ?_
    refine Rn.getf (pc' := 142) rfl rfl rfl rfl rfl ?_
    refine Rn.iconst (v := 60) (pc' := 144) rfl (by decide) rfl ?_
    refine Rn.iconst (v := 4) (pc' := 145) rfl (by decide) rfl ?_
    refine Rn.step (pc' := 146) rfl rfl ?_
    refine Rn.imul (pc' := 147) rfl rfl ?_
    refine Rn.iadd (pc' := 148) rfl rfl ?_
    refine Rn.iconst (v := 2) (pc' := 149) rfl (by decide) rfl ?_
    refine Rn.iadd (pc' := 150) rfl rfl ?_
    refine Rn.sald (k := 60 + 4 * q + 2) (pc' := 151) rfl rfl (by rw [hq]; simp only [eO, nI_lit, nI_add, pk_mul]) (by omega) (by decide) rfl ?_
    refine Rn.step (pc' := 152) rfl rfl ?_
    refine Rn.getf (pc' := 155) rfl rfl rfl rfl rfl ?_
    refine Rn.iconst (v := 5) (pc' := 156) rfl (by decide) rfl ?_
    refine Rn.sald (k := 5) (pc' := 157) rfl rfl (by simp only [nI_lit, nI_add, pk_mul]) (by omega) (by decide) rfl ?_
    refine Rn.isub (pc' := 158) rfl rfl ?_
    refine Rn.i2l (pc' := 159) rfl rfl ?_
    exact w_159 hok0 hd _ (by show _ = (match nxw s b Wn with
        | none => 0
        | some q => (s (60 + 4 * q + 2) - s 5).toInt64); rw [hq]) (hg.put h0)
  · have hq : nxw s b Wn = none := by
      cases hn : nxw s b Wn with
      | none => rfl
      | some q =>
        have := nxw_lt hn
        rw [hn] at h131
        exact absurd (eO_pos (by omega)) h131
    refine Rn.ldc2 (v := 0) (pc' := 135) rfl (by decide) rfl ?_
    refine Rn.step (pc' := 159) rfl rfl ?_
    exact w_159 hok0 hd _ (by show _ = (match nxw s b Wn with
        | none => 0
        | some q => (s (60 + 4 * q + 2) - s 5).toInt64); rw [hq]) (hg.put h0)
theorem c_M_words {d : Nat} {Bn Fn Wn b : Nat} (hok : mOkB v s Bn Fn Wn b) (hd : 2 ≤ d) {g : Nat → Int64} : Cl d j_M_words [.ref 50, .int (nI b)] (MS m0 v dx A (va_up LA 59 g) s) (fun r m2 => r = none ∧ ∃ g2, m2 = MS m0 v dx A (va_up LA 59 g2) s ∧ Wg (mWd s (v 23) (v 24) Bn Fn Wn b) g2 15) := by
  show Rn d j_M_words 0 _ _ _ _
  have hok0 := hok
  obtain ⟨hB, hB6, hF, hF4, hW, hW10, hb, hfd, ⟨q0, hq10, hq0⟩, hwr⟩ := hok
  have hg0 : Wg (mWd s (v 23) (v 24) Bn Fn Wn b) g 0 := fun i hi => by omega
  refine Rn.step (pc' := 1) rfl rfl ?_
  refine Rn.step (pc' := 2) rfl rfl ?_
  refine Rn.vi (pc' := 5) rfl (by decide) (by omega) rfl rfl rfl (c_M_nextWant hW hW10) ?_
  refine Rn.step (pc' := 6) rfl rfl ?_
  refine Rn.step (pc' := 7) rfl rfl ?_
  refine Rn.step (pc' := 8) rfl rfl ?_
  refine Rn.iconst (v := 0) (pc' := 9) rfl (by decide) rfl ?_
  refine Rn.vi (pc' := 12) rfl (by decide) (by omega) rfl rfl rfl (c_M_brotherOf b 0 (by omega)) ?_
  refine Rn.step (pc' := 13) rfl rfl ?_
  refine Rn.step (pc' := 14) rfl rfl ?_
  refine Rn.getf (pc' := 17) rfl rfl rfl rfl rfl ?_
  refine Rn.iconst (v := 0) (pc' := 18) rfl (by decide) rfl ?_
  refine Rn.step (pc' := 19) rfl rfl ?_
  refine Rn.i2l (pc' := 20) rfl rfl ?_
  refine Rn.wast (k := 0) (pc' := 21) rfl rfl (rfl) (by omega) (by decide) rfl ?_
  refine Rn.step (pc' := 22) rfl rfl ?_
  refine Rn.getf (pc' := 25) rfl rfl rfl rfl rfl ?_
  refine Rn.iconst (v := 1) (pc' := 26) rfl (by decide) rfl ?_
  refine Rn.step (pc' := 27) rfl rfl ?_
  refine Rn.i2l (pc' := 28) rfl rfl ?_
  refine Rn.wast (k := 1) (pc' := 29) rfl rfl (rfl) (by omega) (by decide) rfl ?_
  refine Rn.step (pc' := 30) rfl rfl ?_
  refine Rn.getf (pc' := 33) rfl rfl rfl rfl rfl ?_
  refine Rn.iconst (v := 2) (pc' := 34) rfl (by decide) rfl ?_
  refine Rn.step (pc' := 35) rfl rfl ?_
  refine Rn.step (pc' := 36) rfl rfl ?_
  refine Rn.iconst (v := 1) (pc' := 37) rfl (by decide) rfl ?_
  refine Rn.vi (pc' := 40) rfl (by decide) (by omega) rfl rfl rfl (c_M_brotherOf b 1 (by omega)) ?_
  refine Rn.i2l (pc' := 41) rfl rfl ?_
  refine Rn.wast (k := 2) (pc' := 42) rfl rfl (rfl) (by omega) (by decide) rfl ?_
  refine Rn.step (pc' := 43) rfl rfl ?_
  refine Rn.getf (pc' := 46) rfl rfl rfl rfl rfl ?_
  refine Rn.iconst (v := 3) (pc' := 47) rfl (by decide) rfl ?_
  refine Rn.step (pc' := 48) rfl rfl ?_
  refine Rn.step (pc' := 49) rfl rfl ?_
  refine Rn.iconst (v := 2) (pc' := 50) rfl (by decide) rfl ?_
  refine Rn.vi (pc' := 53) rfl (by decide) (by omega) rfl rfl rfl (c_M_brotherOf b 2 (by omega)) ?_
  refine Rn.i2l (pc' := 54) rfl rfl ?_
  refine Rn.wast (k := 3) (pc' := 55) rfl rfl (rfl) (by omega) (by decide) rfl ?_
  refine Rn.step (pc' := 56) rfl rfl ?_
  refine Rn.getf (pc' := 59) rfl rfl rfl rfl rfl ?_
  refine Rn.iconst (v := 4) (pc' := 60) rfl (by decide) rfl ?_
  refine Rn.step (pc' := 61) rfl rfl ?_
  refine Rn.getf (pc' := 64) rfl rfl rfl rfl rfl ?_
  refine Rn.iconst (v := 5) (pc' := 65) rfl (by decide) rfl ?_
  refine Rn.sald (k := 5) (pc' := 66) rfl rfl (by simp only [nI_lit, nI_add, pk_mul]) (by omega) (by decide) rfl ?_
  refine Rn.i2l (pc' := 67) rfl rfl ?_
  refine Rn.wast (k := 4) (pc' := 68) rfl rfl (rfl) (by omega) (by decide) rfl ?_
  refine Rn.step (pc' := 69) rfl rfl ?_
  refine Rn.getf (pc' := 72) rfl rfl rfl rfl rfl ?_
  refine Rn.iconst (v := 5) (pc' := 73) rfl (by decide) rfl ?_
  refine Rn.step (pc' := 74) rfl rfl ?_
  refine Rn.getf (pc' := 77) rfl rfl rfl rfl rfl ?_
  refine Rn.iconst (v := 6) (pc' := 79) rfl (by decide) rfl ?_
  refine Rn.sald (k := 6) (pc' := 80) rfl rfl (by simp only [nI_lit, nI_add, pk_mul]) (by omega) (by decide) rfl ?_
  refine Rn.i2l (pc' := 81) rfl rfl ?_
  refine Rn.wast (k := 5) (pc' := 82) rfl rfl (rfl) (by omega) (by decide) rfl ?_
  refine Rn.step (pc' := 83) rfl rfl ?_
  refine Rn.getf (pc' := 86) rfl rfl rfl rfl rfl ?_
  refine Rn.iconst (v := 6) (pc' := 88) rfl (by decide) rfl ?_
  refine Rn.step (pc' := 89) rfl rfl ?_
  refine Rn.step (pc' := 90) rfl rfl ?_
  refine Rn.vi (pc' := 93) rfl (by decide) (by omega) rfl rfl rfl (c_M_goalOf (by omega) hW hW10 b hb) ?_
  refine Rn.i2l (pc' := 94) rfl rfl ?_
  refine Rn.wast (k := 6) (pc' := 95) rfl rfl (rfl) (by omega) (by decide) rfl ?_
  refine Rn.step (pc' := 96) rfl rfl ?_
  refine Rn.getf (pc' := 99) rfl rfl rfl rfl rfl ?_
  refine Rn.iconst (v := 7) (pc' := 101) rfl (by decide) rfl ?_
  refine Rn.step (pc' := 102) rfl rfl ?_
  refine Rn.ifc_ge (pc1 := 109) (pc2 := 105) rfl rfl rfl (fun h102 => ?_) (fun h102 => ?_)
  · obtain ⟨q, hq⟩ := eO_neg (Int32.not_lt.mpr h102)
    have hqk := nxw_lt hq
    refine Rn.step (pc' := 110) rfl rfl ?_
    refine Rn.getf (pc' := 113) rfl rfl rfl rfl rfl ?_
    refine Rn.iconst (v := 60) (pc' := 115) rfl (by decide) rfl ?_
    refine Rn.iconst (v := 4) (pc' := 116) rfl (by decide) rfl ?_
    refine Rn.step (pc' := 117) rfl rfl ?_
    refine Rn.imul (pc' := 118) rfl rfl ?_
    refine Rn.iadd (pc' := 119) rfl rfl ?_
    refine Rn.iconst (v := 3) (pc' := 120) rfl (by decide) rfl ?_
    refine Rn.iadd (pc' := 121) rfl rfl ?_
    refine Rn.sald (k := 60 + 4 * q + 3) (pc' := 122) rfl rfl (by rw [hq]; simp only [eO, nI_lit, nI_add, pk_mul]) (by omega) (by decide) rfl ?_
    refine Rn.i2l (pc' := 123) rfl rfl ?_
    exact w_123 hok0 hd _ (by show _ = (match nxw s b Wn with
        | none => 0
        | some q => (s (60 + 4 * q + 3)).toInt64); rw [hq]) (((((((hg0.put rfl).put rfl).put rfl).put rfl).put rfl).put rfl).put rfl)
  · have hq : nxw s b Wn = none := by
      cases hn : nxw s b Wn with
      | none => rfl
      | some q =>
        have := nxw_lt hn
        rw [hn] at h102
        exact absurd (eO_pos (by omega)) h102
    refine Rn.ldc2 (v := 0) (pc' := 106) rfl (by decide) rfl ?_
    refine Rn.step (pc' := 123) rfl rfl ?_
    exact w_123 hok0 hd _ (by show _ = (match nxw s b Wn with
        | none => 0
        | some q => (s (60 + 4 * q + 3)).toInt64); rw [hq]) (((((((hg0.put rfl).put rfl).put rfl).put rfl).put rfl).put rfl).put rfl)
end MY
end
section
/-! THE MODEL: a brother walks. -/
section MK
variable {m0 : xM} {v : Nat → Int32} {dx : Int64} {A : Nat → Nat → Int32} {LA : Nat → Nat → Int64} {s : Nat → Int32}
theorem up_cm {α : Type} (A : Nat → α) {i j : Nat} (h : i ≠ j) (x y : α) : va_up (va_up A i x) j y = va_up (va_up A j y) i x := by
  funext k
  by_cases h1 : k = i
  · subst h1
    simp [va_up, h]
  · by_cases h2 : k = j
    · subst h2
      simp [va_up, h1]
    · simp [va_up, h1, h2]
theorem MT_W {n : Nat} {f g : Nat → Int64} : MT m0 v dx A (va_up LA 59 g) s n f = MS m0 (upd v 18 (nI n)) dx A (va_up (va_up LA 58 f) 59 g) s := by
  show MM _ _ _ _ _ = MM _ _ _ _ _
  rw [up_cm LA (show 59 ≠ 58 by decide)]
/-- the model's memory but for what is on its stack and in its words -/
def ME (m0 : xM) (v : Nat → Int32) (dx : Int64) (A : Nat → Nat → Int32) (LA : Nat → Nat → Int64) (s : Nat → Int32) (m : xM) : Prop := ∃ (n : Nat) (f g : Nat → Int64), m = MT m0 v dx A (va_up LA 59 g) s n f
theorem stk_congr {wd wd' : Nat → Int64} {ts : Nat → Nat × Nat} {b : Nat} (hw : ∀ i, i < 15 → wd i = wd' i) : ∀ n, (∀ i, b ≤ i → i < b + n → tOk (ts i)) → stk wd ts b n = stk wd' ts b n
  | 0, _ => rfl
  | n + 1, h => by
    rw [stk, stk, stk_congr hw n (fun i h1 h2 => h i h1 (by omega))]
    unfold tkx
    by_cases h1 : (ts (b + n)).1 = 1
    · have := (h (b + n) (by omega) (by omega)).2.1 h1
      rw [hw _ this]
    · simp only [if_neg h1]
theorem smb_congr {wd wd' : Nat → Int64} {ts : Nat → Nat × Nat} {N : Nat} (hw : ∀ i, i < 15 → wd i = wd' i) (ht : ∀ i, i < N → tOk (ts i)) : ∀ (L : List xCl4), (∀ q ∈ L, q.2.1 ≤ N ∧ q.1 ≤ q.2.1 ∧ ∀ t, q.2.2.1 = some t → t ≤ q.2.2.2 ∧ q.2.2.2 ≤ N) → smb wd ts L = smb wd' ts L
  | [], _ => rfl
  | q :: r, h => by
    obtain ⟨h1, h2, h3⟩ := h q List.mem_cons_self
    have ih := smb_congr hw ht r (fun q hq => h q (List.mem_cons_of_mem _ hq))
    have e1 : stk wd ts q.1 (q.2.1 - q.1) = stk wd' ts q.1 (q.2.1 - q.1) := stk_congr hw _ (fun i a b => ht i (by omega))
    have e2 : q.2.2.1 = none ∨ stk wd ts (q.2.2.1.getD 0) (q.2.2.2 - q.2.2.1.getD 0) = stk wd' ts (q.2.2.1.getD 0) (q.2.2.2 - q.2.2.1.getD 0) := by
      cases hq : q.2.2.1 with
      | none => exact Or.inl rfl
      | some t =>
        obtain ⟨a, b⟩ := h3 t hq
        exact Or.inr (stk_congr hw _ (fun i c e => ht i (by simp at c e; omega)))
    rw [smb, smb, e1, ih]
    rcases e2 with e2 | e2
    · simp only [e2, true_or, if_true]
    · rw [e2]
/-- rules, told by their tokens, their lengths, their clauses -/
abbrev xRl : Type := Nat → (Nat → Nat × Nat) × Nat × List xCl4
def mRu (v : Nat → Int32) (A : Nat → Nat → Int32) (rl : xRl) : Prop := v 21 < 0 ∨ ∃ r, r < 6 ∧ v 21 = nI r ∧ RuW A r (rl r).1 (rl r).2.1 (rl r).2.2
/-- the way of b -/
def mWy (fo : Int32) (rl : xRl) (s : Nat → Int32) (sec fd : Int32) (Bn Fn Wn b : Nat) : Int64 := if fo < 0 then (mGo s b Wn - s (10 + 6 * b + 0)).toInt64 else smb (mWd s sec fd Bn Fn Wn b) (rl fo.toNatClampNeg).1 (rl fo.toNatClampNeg).2.2
theorem c_M_wayOf {d : Nat} {rl : xRl} {Bn Fn Wn b : Nat} (hok : mOkB v s Bn Fn Wn b) (hru : mRu v A rl) (hd : 3 ≤ d) {m : xM} (hm : ME m0 v dx A LA s m) : Cl d j_M_wayOf [.ref 50, .int (nI b)] m (fun r m2 => r = some (.long (mWy (v 21) rl s (v 23) (v 24) Bn Fn Wn b)) ∧ ME m0 v dx A LA s m2) := by
  show Rn d j_M_wayOf 0 _ _ _ _
  obtain ⟨n, f, g, rfl⟩ := hm
  have hok0 : mOkB (upd v 18 (nI n)) s Bn Fn Wn b := hok
  obtain ⟨hB, hB6, hF, hF4, hW, hW10, hb, hfd, ⟨q0, hq10, hq0⟩, hwr⟩ := hok
  refine Rn.step (pc' := 1) rfl rfl ?_
  refine Rn.getf (pc' := 4) rfl rfl rfl rfl rfl ?_
  refine Rn.ifc_ge (pc1 := 21) (pc2 := 7) rfl rfl rfl (fun h4 => ?_) (fun h4 => ?_)
  · have h4 : 0 ≤ v 21 := h4
    obtain ⟨r, hr6, hr1, hR⟩ := hru.resolve_left (Int32.not_lt.mpr h4)
    refine Rn.mm (m2 := MS m0 (upd v 18 (nI n)) dx A (va_up (va_up LA 58 f) 59 g) s) MT_W ?_
    refine Rn.step (pc' := 22) rfl rfl ?_
    refine Rn.step (pc' := 23) rfl rfl ?_
    refine Rn.callV (pc' := 26) rfl (by decide) (by omega) rfl rfl rfl (c_M_words (v := upd v 18 (nI n)) (LA := va_up LA 58 f) (g := g) hok0 (by omega)) (fun r_ m_ hc_ => ?_)
    obtain ⟨rfl, g2, rfl, hg2⟩ := hc_
    refine Rn.mm (m2 := MT m0 v dx A (va_up LA 59 g2) s n f) MT_W.symm ?_
    refine Rn.step (pc' := 27) rfl rfl ?_
    refine Rn.step (pc' := 28) rfl rfl ?_
    refine Rn.getf (pc' := 31) rfl rfl rfl rfl rfl ?_
    refine Rn.callV (pc' := 34) rfl (by decide) (by omega) rfl rfl rfl ((by
        rw [show (upd v 18 (nI n)) 21 = nI r from hr1]
        exact c_M_summedBy (LA := va_up LA 59 g2) hr6 hR (by omega) n f)) (fun r_ m_ hc_ => ?_)
    obtain ⟨rfl, n2, f2, rfl⟩ := hc_
    exact Rn.lret rfl (⟨by
        unfold mWy
        rw [if_neg (Int32.not_lt.mpr h4), hr1, nI_clamp (by omega), va_up_self]
        exact congrArg (fun z => some (Value.long z)) (smb_congr hg2 (fun i hi => (hR.2.2.2.1 i hi).2) _ (fun q hq => by
          obtain ⟨c, hc⟩ := List.getElem?_of_mem hq
          obtain ⟨-, -, -, -, a1, a2, -, a3⟩ := hR.2.2.2.2 c q hc
          exact ⟨a2, a1, fun t ht => ⟨(a3 t ht).1, (a3 t ht).2.1⟩⟩)), n2, f2, g2, rfl⟩)
  · have h4 : ¬ 0 ≤ v 21 := h4
    refine Rn.step (pc' := 8) rfl rfl ?_
    refine Rn.step (pc' := 9) rfl rfl ?_
    refine Rn.vi (pc' := 12) rfl (by decide) (by omega) rfl rfl rfl (c_M_goalOf (by omega) hW hW10 b hb) ?_
    refine Rn.step (pc' := 13) rfl rfl ?_
    refine Rn.step (pc' := 14) rfl rfl ?_
    refine Rn.iconst (v := 0) (pc' := 15) rfl (by decide) rfl ?_
    refine Rn.vi (pc' := 18) rfl (by decide) (by omega) rfl rfl rfl (c_M_brotherOf b 0 (by omega)) ?_
    refine Rn.isub (pc' := 19) rfl rfl ?_
    refine Rn.i2l (pc' := 20) rfl rfl ?_
    exact Rn.lret rfl (⟨by unfold mWy; rw [if_pos (Int32.not_le.mp h4)], n, f, g, rfl⟩)
def sg64 (x : Int64) : Int32 := if x < 0 then -1 else if 0 < x then 1 else 0
def mW9 (x : Int32) : Int32 := if 999 < x then 999 else x
/-- the boots wear: the first k of them -/
def mWo (s : Nat → Int32) (x wear : Int32) : Nat → Nat → Int32
  | 0 => s
  | k + 1 => if mWo s x wear k (46 + 3 * k) = x then upd (mWo s x wear k) (46 + 3 * k + 2) (mW9 (mWo s x wear k (46 + 3 * k + 2) + wear)) else mWo s x wear k
theorem mWo_s (s : Nat → Int32) (x wear : Int32) (k : Nat) : mWo s x wear (k + 1) = if mWo s x wear k (46 + 3 * k) = x then upd (mWo s x wear k) (46 + 3 * k + 2) (mW9 (mWo s x wear k (46 + 3 * k + 2) + wear)) else mWo s x wear k := rfl
/-- b walks by a way -/
def mWl (s : Nat → Int32) (b : Nat) (wear : Int32) (way : Int64) : Nat → Int32 :=
  if s (10 + 6 * b + 4) = 1 then s else if (¬ s (10 + 6 * b + 0) + sg64 way < 0 ∧ ¬ s 0 ≤ s (10 + 6 * b + 0) + sg64 way) ∧ ¬ s (10 + 6 * b + 0) + sg64 way = s (10 + 6 * b + 0) then mWo (upd s (10 + 6 * b) (s (10 + 6 * b + 0) + sg64 way)) (nI b) wear 2 else s
theorem l_M_walks {d b : Nat} {wear to : Int32} {way : Int64} {x4 : Value} (hd : 1 ≤ d) (k : Nat) (x7 : Value) (hk : k ≤ 2) : Rn d j_M_walks 85 [.ref 50, .int (nI b), .int wear, .long way, x4, .int to, .int (nI k), x7] [] (MS m0 v dx A LA (mWo s (nI b) wear k)) (Pv (MS m0 v dx A LA (mWo s (nI b) wear 2))) := by
  refine Rn.step (pc' := 87) rfl rfl ?_
  refine Rn.iconst (v := 2) (pc' := 88) rfl (by decide) rfl ?_
  refine Rn.icmp_ge (pc1 := 150) (pc2 := 91) rfl rfl rfl (fun h88 => ?_) (fun h88 => ?_)
  · have hk2 : k = 2 := by
      have := (nI_leI (a := 2) (b := k) (by omega) (by omega)).mp h88
      omega
    subst hk2
    exact Rn.retv rfl (rfl)
  · have hk2 : k < 2 := by
      have := mt (nI_leI (a := 2) (b := k) (by omega) (by omega)).mpr h88
      omega
    refine Rn.step (pc' := 92) rfl rfl ?_
    refine Rn.step (pc' := 94) rfl rfl ?_
    refine Rn.vi (pc' := 97) rfl (by decide) (by omega) rfl rfl rfl (c_M_wearerOf k (by omega)) ?_
    refine Rn.step (pc' := 98) rfl rfl ?_
    refine Rn.icmp_eq (pc1 := 104) (pc2 := 101) rfl rfl rfl (fun h98 => ?_) (fun h98 => ?_)
    · refine Rn.step (pc' := 105) rfl rfl ?_
      refine Rn.step (pc' := 107) rfl rfl ?_
      refine Rn.vi (pc' := 110) rfl (by decide) (by omega) rfl rfl rfl (c_M_wornOf k (by omega)) ?_
      refine Rn.step (pc' := 111) rfl rfl ?_
      refine Rn.iadd (pc' := 112) rfl rfl ?_
      refine Rn.step (pc' := 114) rfl rfl ?_
      refine Rn.step (pc' := 115) rfl rfl ?_
      refine Rn.getf (pc' := 118) rfl rfl rfl rfl rfl ?_
      refine Rn.iconst (v := 46) (pc' := 120) rfl (by decide) rfl ?_
      refine Rn.iconst (v := 3) (pc' := 121) rfl (by decide) rfl ?_
      refine Rn.step (pc' := 123) rfl rfl ?_
      refine Rn.imul (pc' := 124) rfl rfl ?_
      refine Rn.iadd (pc' := 125) rfl rfl ?_
      refine Rn.iconst (v := 2) (pc' := 126) rfl (by decide) rfl ?_
      refine Rn.iadd (pc' := 127) rfl rfl ?_
      refine Rn.step (pc' := 129) rfl rfl ?_
      refine Rn.iconst (v := 999) (pc' := 132) rfl (by decide) rfl ?_
      refine Rn.icmp_le (pc1 := 141) (pc2 := 135) rfl rfl rfl (fun h132 => ?_) (fun h132 => ?_)
      · refine Rn.step (pc' := 143) rfl rfl ?_
        refine Rn.sast (k := 46 + 3 * k + 2) (pc' := 144) rfl rfl (by simp only [nI_lit, nI_add, pk_mul]) (by omega) (by decide) rfl ?_
        refine Rn.step (pc' := 147) rfl rfl ?_
        refine Rn.step (pc' := 85) rfl rfl ?_
        refine Rn.mm (m2 := MS m0 v dx A LA (mWo s (nI b) wear (k + 1))) ?_ (Rn.ls8 rfl rfl rfl rfl rfl rfl (congrArg Value.int (nI_i1 k)) rfl (l_M_walks hd (k + 1) _ (by omega)))
        rw [mWo_s, if_pos h98, mW9, if_neg (Int32.not_lt.mpr h132)]
      · refine Rn.iconst (v := 999) (pc' := 138) rfl (by decide) rfl ?_
        refine Rn.step (pc' := 143) rfl rfl ?_
        refine Rn.sast (k := 46 + 3 * k + 2) (pc' := 144) rfl rfl (by simp only [nI_lit, nI_add, pk_mul]) (by omega) (by decide) rfl ?_
        refine Rn.step (pc' := 147) rfl rfl ?_
        refine Rn.step (pc' := 85) rfl rfl ?_
        refine Rn.mm (m2 := MS m0 v dx A LA (mWo s (nI b) wear (k + 1))) ?_ (Rn.ls8 rfl rfl rfl rfl rfl rfl (congrArg Value.int (nI_i1 k)) rfl (l_M_walks hd (k + 1) _ (by omega)))
        rw [mWo_s, if_pos h98, mW9, if_pos (Int32.not_le.mp h132)]
    · refine Rn.step (pc' := 144) rfl rfl ?_
      refine Rn.step (pc' := 147) rfl rfl ?_
      refine Rn.step (pc' := 85) rfl rfl ?_
      refine Rn.mm (m2 := MS m0 v dx A LA (mWo s (nI b) wear (k + 1))) ?_ (Rn.ls8 rfl rfl rfl rfl rfl rfl (congrArg Value.int (nI_i1 k)) rfl (l_M_walks hd (k + 1) _ (by omega)))
      rw [mWo_s, if_neg h98]
termination_by 2 - k
theorem w_44 {d b n : Nat} {f g : Nat → Int64} {wear : Int32} {way : Int64} (hb : b < 6) (hfz : ¬ s (10 + 6 * b + 4) = 1) (hd : 1 ≤ d) {x5 x6 x7 : Value} : Rn d j_M_walks 44 [.ref 50, .int (nI b), .int wear, .long way, xb, x5, x6, x7] [.int (sg64 way), .int (s (10 + 6 * b + 0))] (MT m0 v dx A (va_up LA 59 g) s n f) (fun r m2 => r = none ∧ ME m0 v dx A LA (mWl s b wear way) m2) := by
  refine Rn.iadd (pc' := 45) rfl rfl ?_
  refine Rn.step (pc' := 47) rfl rfl ?_
  refine Rn.step (pc' := 48) rfl rfl ?_
  refine Rn.step (pc' := 50) rfl rfl ?_
  refine Rn.vi (pc' := 53) rfl (by decide) (by omega) rfl rfl rfl (c_M_isPlace _) ?_
  refine Rn.ifc_eq (pc1 := 67) (pc2 := 56) rfl rfl rfl (fun h53 => ?_) (fun h53 => ?_)
  · exact Rn.vret rfl (⟨rfl, n, f, g, by
        unfold mWl
        rw [if_neg hfz, if_neg]
        intro z
        rw [if_pos z.1] at h53
        exact absurd h53 (by decide)⟩)
  · refine Rn.step (pc' := 58) rfl rfl ?_
    refine Rn.step (pc' := 59) rfl rfl ?_
    refine Rn.step (pc' := 60) rfl rfl ?_
    refine Rn.iconst (v := 0) (pc' := 61) rfl (by decide) rfl ?_
    refine Rn.vi (pc' := 64) rfl (by decide) (by omega) rfl rfl rfl (c_M_brotherOf b 0 (by omega)) ?_
    refine Rn.icmp_ne (pc1 := 68) (pc2 := 67) rfl rfl rfl (fun h64 => ?_) (fun h64 => ?_)
    · refine Rn.step (pc' := 69) rfl rfl ?_
      refine Rn.getf (pc' := 72) rfl rfl rfl rfl rfl ?_
      refine Rn.iconst (v := 10) (pc' := 74) rfl (by decide) rfl ?_
      refine Rn.iconst (v := 6) (pc' := 76) rfl (by decide) rfl ?_
      refine Rn.step (pc' := 77) rfl rfl ?_
      refine Rn.imul (pc' := 78) rfl rfl ?_
      refine Rn.iadd (pc' := 79) rfl rfl ?_
      refine Rn.step (pc' := 81) rfl rfl ?_
      refine Rn.sast (k := 10 + 6 * b) (pc' := 82) rfl rfl (by simp only [nI_lit, nI_add, pk_mul]) (by omega) (by decide) rfl ?_
      refine Rn.iconst (v := 0) (pc' := 83) rfl (by decide) rfl ?_
      refine Rn.step (pc' := 85) rfl rfl ?_
      refine (l_M_walks (v := upd v 18 (nI n)) (LA := va_up (va_up LA 59 g) 58 f) (s := upd s (10 + 6 * b) (s (10 + 6 * b + 0) + sg64 way)) (by omega) 0 _ (by omega)).conseq (fun r2 m2 hq => ?_)
      obtain ⟨rfl, rfl⟩ := hq
      refine ⟨rfl, n, f, g, ?_⟩
      unfold mWl
      rw [if_neg hfz, if_pos]
      refine ⟨?_, h64⟩
      by_cases hz : ¬ s (10 + 6 * b + 0) + sg64 way < 0 ∧ ¬ s 0 ≤ s (10 + 6 * b + 0) + sg64 way
      · exact hz
      · rw [if_neg hz] at h53
        exact absurd rfl h53
    · exact Rn.vret rfl (⟨rfl, n, f, g, by
          unfold mWl
          rw [if_neg hfz, if_neg]
          exact fun z => z.2 h64⟩)
theorem c_M_walks {d : Nat} {rl : xRl} {Bn Fn Wn b : Nat} {wear : Int32} (hok : mOkB v s Bn Fn Wn b) (hru : mRu v A rl) (hd : 4 ≤ d) {m : xM} (hm : ME m0 v dx A LA s m) : Cl d j_M_walks [.ref 50, .int (nI b), .int wear] m (fun r m2 => r = none ∧ ME m0 v dx A LA (mWl s b wear (mWy (v 21) rl s (v 23) (v 24) Bn Fn Wn b)) m2) := by
  show Rn d j_M_walks 0 _ _ _ _
  obtain ⟨n, f, g, rfl⟩ := hm
  have hb : b < 6 := hok.2.2.2.2.2.2.1
  refine Rn.step (pc' := 1) rfl rfl ?_
  refine Rn.step (pc' := 2) rfl rfl ?_
  refine Rn.iconst (v := 4) (pc' := 3) rfl (by decide) rfl ?_
  refine Rn.vi (pc' := 6) rfl (by decide) (by omega) rfl rfl rfl (c_M_brotherOf b 4 (by omega)) ?_
  refine Rn.iconst (v := 1) (pc' := 7) rfl (by decide) rfl ?_
  refine Rn.icmp_ne (pc1 := 11) (pc2 := 10) rfl rfl rfl (fun h7 => ?_) (fun h7 => ?_)
  · refine Rn.step (pc' := 12) rfl rfl ?_
    refine Rn.step (pc' := 13) rfl rfl ?_
    refine Rn.callV (pc' := 16) rfl (by decide) (by omega) rfl rfl rfl (c_M_wayOf hok hru (by omega) ⟨n, f, g, rfl⟩) (fun r_ m_ hc_ => ?_)
    obtain ⟨rfl, n2, f2, g2, rfl⟩ := hc_
    refine Rn.step (pc' := 17) rfl rfl ?_
    refine Rn.step (pc' := 18) rfl rfl ?_
    refine Rn.step (pc' := 19) rfl rfl ?_
    refine Rn.iconst (v := 0) (pc' := 20) rfl (by decide) rfl ?_
    refine Rn.vi (pc' := 23) rfl (by decide) (by omega) rfl rfl rfl (c_M_brotherOf b 0 (by omega)) ?_
    refine Rn.step (pc' := 24) rfl rfl ?_
    refine Rn.ldc2 (v := 0) (pc' := 25) rfl (by decide) rfl ?_
    refine Rn.lcmp (pc' := 26) rfl rfl ?_
    refine Rn.ifc_ge (pc1 := 33) (pc2 := 29) rfl rfl rfl (fun h26 => ?_) (fun h26 => ?_)
    · refine Rn.step (pc' := 34) rfl rfl ?_
      refine Rn.ldc2 (v := 0) (pc' := 35) rfl (by decide) rfl ?_
      refine Rn.lcmp (pc' := 36) rfl rfl ?_
      refine Rn.ifc_le (pc1 := 43) (pc2 := 39) rfl rfl rfl (fun h36 => ?_) (fun h36 => ?_)
      · refine Rn.iconst (v := 0) (pc' := 44) rfl (by decide) rfl ?_
        have hsg : sg64 (mWy (v 21) rl s (v 23) (v 24) Bn Fn Wn b) = 0 := by
          unfold sg64
          rw [if_neg (Int64.not_lt.mpr ((lg_cmp_ge _ _).mp h26)), if_neg (Int64.not_lt.mpr ((lg_cmp_le _ _).mp h36))]
        have := w_44 (m0 := m0) (v := v) (dx := dx) (A := A) (LA := LA) (s := s) (d := d) (wear := wear) (way := mWy (v 21) rl s (v 23) (v 24) Bn Fn Wn b) (n := n2) (f := f2) (g := g2) (x5 := xb) (x6 := xb) (x7 := xb) hb h7 (by omega)
        rw [hsg] at this
        exact this
      · refine Rn.iconst (v := 1) (pc' := 40) rfl (by decide) rfl ?_
        refine Rn.step (pc' := 44) rfl rfl ?_
        have hsg : sg64 (mWy (v 21) rl s (v 23) (v 24) Bn Fn Wn b) = 1 := by
          unfold sg64
          rw [if_neg (Int64.not_lt.mpr ((lg_cmp_ge _ _).mp h26)), if_pos ((lg_cmp_gt _ _).mp (Int32.not_le.mp h36))]
        have := w_44 (m0 := m0) (v := v) (dx := dx) (A := A) (LA := LA) (s := s) (d := d) (wear := wear) (way := mWy (v 21) rl s (v 23) (v 24) Bn Fn Wn b) (n := n2) (f := f2) (g := g2) (x5 := xb) (x6 := xb) (x7 := xb) hb h7 (by omega)
        rw [hsg] at this
        exact this
    · refine Rn.iconst (v := (-1)) (pc' := 30) rfl (by decide) rfl ?_
      refine Rn.step (pc' := 44) rfl rfl ?_
      have hsg : sg64 (mWy (v 21) rl s (v 23) (v 24) Bn Fn Wn b) = -1 := by
        unfold sg64
        rw [if_pos ((lg_cmp_lt _ _).mp (Int32.not_le.mp h26))]
      have := w_44 (m0 := m0) (v := v) (dx := dx) (A := A) (LA := LA) (s := s) (d := d) (wear := wear) (way := mWy (v 21) rl s (v 23) (v 24) Bn Fn Wn b) (n := n2) (f := f2) (g := g2) (x5 := xb) (x6 := xb) (x7 := xb) hb h7 (by omega)
      rw [hsg] at this
      exact this
  · exact Rn.vret rfl (⟨rfl, n, f, g, by unfold mWl; rw [if_pos h7]⟩)
end MK
end
section
/-! THE MODEL: an hour passes. -/
section MP
variable {m0 : xM} {v : Nat → Int32} {dx : Int64} {A : Nat → Nat → Int32} {LA : Nat → Nat → Int64} {s : Nat → Int32}
/-- what is told of the lane -/
abbrev WL (P Bn Fn Wn : Nat) (s : Nat → Int32) : Prop := (s 0 = nI P) ∧ (2 ≤ P) ∧ (P ≤ 10) ∧ (s 2 = nI Bn) ∧ (Bn ≤ 6) ∧ (s 3 = nI Fn) ∧ (Fn ≤ 4) ∧ (s 4 = nI Wn) ∧ (Wn ≤ 10) ∧ (∀ b, b < Bn → ∃ q, q < P ∧ s (10 + 6 * b + 1) = nI q) ∧ (∀ k, k < Wn → ∃ c, c < Bn ∧ s (60 + 4 * k) = nI c) ∧ (∀ k, k < Wn → ∃ h, h < 24 ∧ s (60 + 4 * k + 2) = nI h) ∧ (∀ q, q < P → ∃ z, z < 10 ∧ s (100 + q) = nI z)
theorem WL.p {P Bn Fn Wn : Nat} {s : Nat → Int32} (h : WL P Bn Fn Wn s) : s 0 = nI P := h.1
theorem WL.p2 {P Bn Fn Wn : Nat} {s : Nat → Int32} (h : WL P Bn Fn Wn s) : 2 ≤ P := h.2.1
theorem WL.p10 {P Bn Fn Wn : Nat} {s : Nat → Int32} (h : WL P Bn Fn Wn s) : P ≤ 10 := h.2.2.1
theorem WL.b {P Bn Fn Wn : Nat} {s : Nat → Int32} (h : WL P Bn Fn Wn s) : s 2 = nI Bn := h.2.2.2.1
theorem WL.b6 {P Bn Fn Wn : Nat} {s : Nat → Int32} (h : WL P Bn Fn Wn s) : Bn ≤ 6 := h.2.2.2.2.1
theorem WL.f {P Bn Fn Wn : Nat} {s : Nat → Int32} (h : WL P Bn Fn Wn s) : s 3 = nI Fn := h.2.2.2.2.2.1
theorem WL.f4 {P Bn Fn Wn : Nat} {s : Nat → Int32} (h : WL P Bn Fn Wn s) : Fn ≤ 4 := h.2.2.2.2.2.2.1
theorem WL.w {P Bn Fn Wn : Nat} {s : Nat → Int32} (h : WL P Bn Fn Wn s) : s 4 = nI Wn := h.2.2.2.2.2.2.2.1
theorem WL.w10 {P Bn Fn Wn : Nat} {s : Nat → Int32} (h : WL P Bn Fn Wn s) : Wn ≤ 10 := h.2.2.2.2.2.2.2.2.1
theorem WL.hm {P Bn Fn Wn : Nat} {s : Nat → Int32} (h : WL P Bn Fn Wn s) : ∀ b, b < Bn → ∃ q, q < P ∧ s (10 + 6 * b + 1) = nI q := h.2.2.2.2.2.2.2.2.2.1
theorem WL.wb {P Bn Fn Wn : Nat} {s : Nat → Int32} (h : WL P Bn Fn Wn s) : ∀ k, k < Wn → ∃ c, c < Bn ∧ s (60 + 4 * k) = nI c := h.2.2.2.2.2.2.2.2.2.2.1
theorem WL.wh {P Bn Fn Wn : Nat} {s : Nat → Int32} (h : WL P Bn Fn Wn s) : ∀ k, k < Wn → ∃ h, h < 24 ∧ s (60 + 4 * k + 2) = nI h := h.2.2.2.2.2.2.2.2.2.2.2.1
theorem WL.we {P Bn Fn Wn : Nat} {s : Nat → Int32} (h : WL P Bn Fn Wn s) : ∀ q, q < P → ∃ z, z < 10 ∧ s (100 + q) = nI z := h.2.2.2.2.2.2.2.2.2.2.2.2
/-- what changes by the hour -/
abbrev WD (P Bn : Nat) (s : Nat → Int32) : Prop := (∃ h, h < 24 ∧ s 5 = nI h) ∧ (∀ b, b < Bn → ∃ q, q < P ∧ s (10 + 6 * b) = nI q) ∧ (∀ b, b < Bn → ∃ q, q < 100 ∧ s (10 + 6 * b + 3) = nI q ∧ (q < 60 ∨ s (10 + 6 * b + 4) = 1)) ∧ (∀ b, b < Bn → s (10 + 6 * b + 4) = 0 ∨ s (10 + 6 * b + 4) = 1) ∧ (∀ k, k < 2 → s (46 + 3 * k) = -1 ∨ ∃ c, c < Bn ∧ s (46 + 3 * k) = nI c)
theorem WD.hr {P Bn : Nat} {s : Nat → Int32} (h : WD P Bn s) : ∃ h, h < 24 ∧ s 5 = nI h := h.1
theorem WD.pl {P Bn : Nat} {s : Nat → Int32} (h : WD P Bn s) : ∀ b, b < Bn → ∃ q, q < P ∧ s (10 + 6 * b) = nI q := h.2.1
theorem WD.ch {P Bn : Nat} {s : Nat → Int32} (h : WD P Bn s) : ∀ b, b < Bn → ∃ q, q < 100 ∧ s (10 + 6 * b + 3) = nI q ∧ (q < 60 ∨ s (10 + 6 * b + 4) = 1) := h.2.2.1
theorem WD.fz {P Bn : Nat} {s : Nat → Int32} (h : WD P Bn s) : ∀ b, b < Bn → s (10 + 6 * b + 4) = 0 ∨ s (10 + 6 * b + 4) = 1 := h.2.2.2.1
theorem WD.wr {P Bn : Nat} {s : Nat → Int32} (h : WD P Bn s) : ∀ k, k < 2 → s (46 + 3 * k) = -1 ∨ ∃ c, c < Bn ∧ s (46 + 3 * k) = nI c := h.2.2.2.2
def fxc (i : Nat) : Prop := i < 5 ∨ i = 8 ∨ i = 9 ∨ (10 ≤ i ∧ i < 46 ∧ ((i - 10) % 6 = 1 ∨ (i - 10) % 6 = 2)) ∨ 52 ≤ i
/-- no cell of the lane changes -/
def FX (s t : Nat → Int32) : Prop := ∀ i, fxc i → t i = s i
theorem FX.refl (s : Nat → Int32) : FX s s := fun _ _ => rfl
theorem FX.trans {s t u : Nat → Int32} (h : FX s t) (g : FX t u) : FX s u := fun i hi => (g i hi).trans (h i hi)
theorem FX.up (s : Nat → Int32) (k : Nat) (x : Int32) (h : ¬ fxc k) : FX s (upd s k x) := fun i hi => upd_n s x (fun e => h (e ▸ hi))
theorem WL.fx {P Bn Fn Wn : Nat} {s t : Nat → Int32} (h : WL P Bn Fn Wn s) (g : FX s t) : WL P Bn Fn Wn t := ⟨
  (g 0 (by unfold fxc; omega)).trans h.p,
  h.p2,
  h.p10,
  (g 2 (by unfold fxc; omega)).trans h.b,
  h.b6,
  (g 3 (by unfold fxc; omega)).trans h.f,
  h.f4,
  (g 4 (by unfold fxc; omega)).trans h.w,
  h.w10,
  (fun b hb => by
    obtain ⟨q, hq, e⟩ := h.hm b hb
    have := h.b6
    exact ⟨q, hq, (g _ (by unfold fxc; omega)).trans e⟩),
  (fun k hk => by
    obtain ⟨q, hq, e⟩ := h.wb k hk
    exact ⟨q, hq, (g _ (by unfold fxc; omega)).trans e⟩),
  (fun k hk => by
    obtain ⟨q, hq, e⟩ := h.wh k hk
    exact ⟨q, hq, (g _ (by unfold fxc; omega)).trans e⟩),
  (fun k hk => by
    obtain ⟨q, hq, e⟩ := h.we k hk
    exact ⟨q, hq, (g _ (by unfold fxc; omega)).trans e⟩)⟩
def wdc (i : Nat) : Prop := i = 5 ∨ (10 ≤ i ∧ i < 46 ∧ ((i - 10) % 6 = 0 ∨ (i - 10) % 6 = 3 ∨ (i - 10) % 6 = 4)) ∨ i = 46 ∨ i = 49
theorem WD.ext {P Bn : Nat} {s t : Nat → Int32} (h : WD P Bn s) (hB : Bn ≤ 6) (g : ∀ i, wdc i → t i = s i) : WD P Bn t := ⟨
  (by
    rw [g 5 (by unfold wdc; omega)]
    exact h.hr),
  (fun b hb => by
    rw [g _ (by unfold wdc; omega)]
    exact h.pl b hb),
  (fun b hb => by
    rw [g _ (by unfold wdc; omega), g _ (by unfold wdc; omega)]
    exact h.ch b hb),
  (fun b hb => by
    rw [g _ (by unfold wdc; omega)]
    exact h.fz b hb),
  (fun k hk => by
    rw [g _ (by unfold wdc; omega)]
    exact h.wr k hk)⟩
theorem WD.up {P Bn : Nat} {s : Nat → Int32} (h : WD P Bn s) (hB : Bn ≤ 6) (k : Nat) (x : Int32) (hk : ¬ wdc k) : WD P Bn (upd s k x) := h.ext hB (fun i hi => upd_n s x (fun e => hk (e ▸ hi)))
theorem WL.okb {P Bn Fn Wn b : Nat} {v s : Nat → Int32} (h : WL P Bn Fn Wn s) (g : WD P Bn s) (hv : v 24 = 0 ∨ v 24 = 1) (hb : b < Bn) : mOkB v s Bn Fn Wn b := by
  refine ⟨h.b, h.b6, h.f, h.f4, h.w, h.w10, Nat.lt_of_lt_of_le hb h.b6, hv, ?_, fun k hk => ?_⟩
  · obtain ⟨q, hq, e⟩ := g.pl b hb
    exact ⟨q, Nat.lt_of_lt_of_le hq h.p10, e⟩
  · rcases g.wr k hk with e | ⟨c, hc, e⟩
    · exact Or.inl (by rw [e]; decide)
    · exact Or.inr ⟨c, Nat.lt_of_lt_of_le hc h.b6, e⟩
theorem mPy_fx {P Bn Fn Wn : Nat} {s : Nat → Int32} (h : WL P Bn Fn Wn s) : FX s (mPy s Wn).1 := fun i hi => mPy_out (fun k hk => by
  obtain ⟨c, hc, e⟩ := h.wb k hk
  exact ⟨c, Nat.lt_of_lt_of_le hc h.b6, e⟩) Wn (Nat.le_refl _) i (fun b hb e => by unfold fxc at hi; omega)
theorem mPy_wd {P Bn Fn Wn : Nat} {s : Nat → Int32} (h : WL P Bn Fn Wn s) (g : WD P Bn s) : WD P Bn (mPy s Wn).1 := g.ext h.b6 (fun i hi => mPy_out (fun k hk => by
  obtain ⟨c, hc, e⟩ := h.wb k hk
  exact ⟨c, Nat.lt_of_lt_of_le hc h.b6, e⟩) Wn (Nat.le_refl _) i (fun b hb e => by unfold wdc at hi; omega))
theorem mWo_out (s : Nat → Int32) (x wear : Int32) : ∀ k, ∀ i, (∀ j, j < k → i ≠ 48 + 3 * j) → mWo s x wear k i = s i
  | 0, _, _ => rfl
  | k + 1, i, h => by
    have ih := mWo_out s x wear k i (fun j hj => h j (by omega))
    rw [mWo_s]
    split
    · rw [upd_n _ _ (by have := h k (by omega); omega)]
      exact ih
    · exact ih
theorem mWl_fx {P Bn Fn Wn b : Nat} {s : Nat → Int32} (h : WL P Bn Fn Wn s) (hb : b < Bn) (wear : Int32) (way : Int64) : FX s (mWl s b wear way) := by
  have := h.b6
  unfold mWl
  split
  · exact FX.refl s
  · split
    · refine FX.trans (FX.up s (10 + 6 * b) _ (by unfold fxc; omega)) (fun i hi => mWo_out _ _ _ 2 i (fun j hj e => by unfold fxc at hi; omega))
    · exact FX.refl s
theorem pl_in {x : Int32} {P : Nat} (hP : P ≤ 10) (h1 : ¬ x < 0) (h2 : ¬ nI P ≤ x) : ∃ q, q < P ∧ x = nI q := by
  obtain ⟨q, hq, rfl⟩ := nI_of h1
  exact ⟨q, (nI_ltI hq (by omega)).mp (Int32.not_le.mp h2), rfl⟩
theorem mWl_wd {P Bn Fn Wn b : Nat} {s : Nat → Int32} (h : WL P Bn Fn Wn s) (g : WD P Bn s) (hb : b < Bn) (wear : Int32) (way : Int64) : WD P Bn (mWl s b wear way) := by
  have hb6 := h.b6
  unfold mWl
  split
  · exact g
  · split
    · rename_i hh
      refine WD.ext (s := upd s (10 + 6 * b) (s (10 + 6 * b + 0) + sg64 way)) ?_ h.b6 (fun i hi => mWo_out _ _ _ 2 i (fun j hj e => by unfold wdc at hi; omega))
      obtain ⟨⟨h1, h2⟩, -⟩ := hh
      rw [h.p] at h2
      have hq := pl_in h.p10 h1 h2
      refine ⟨?_, fun c hc => ?_, fun c hc => ?_, fun c hc => ?_, fun k hk => ?_⟩
      · rw [upd_n _ _ (by omega)]
        exact g.hr
      · by_cases e : c = b
        · subst e
          rw [upd_s]
          exact hq
        · rw [upd_n _ _ (by omega)]
          exact g.pl c hc
      · rw [upd_n _ _ (by omega), upd_n _ _ (by omega)]
        exact g.ch c hc
      · rw [upd_n _ _ (by omega)]
        exact g.fz c hc
      · rw [upd_n _ _ (by omega)]
        exact g.wr k hk
    · exact g
theorem mCl_in (n : Int32) : ∃ q, q < 100 ∧ mCl n = nI q := by
  unfold mCl
  split
  · exact ⟨0, by omega, rfl⟩
  · split
    · exact ⟨99, by omega, rfl⟩
    · rename_i h1 h2
      obtain ⟨q, hq, e⟩ := nI_of2 (M := 99) (n := 99) (by decide) h1 (Int32.not_lt.mp h2)
      exact ⟨q, by omega, e⟩
theorem mCh_fx {P Bn Fn Wn b : Nat} {s : Nat → Int32} (h : WL P Bn Fn Wn s) (hb : b < Bn) (sec much : Int32) : FX s (mCh s sec much b) := by
  have := h.b6
  unfold mCh
  split
  · exact FX.up s _ _ (by unfold fxc; omega)
  · exact (FX.up s _ _ (by unfold fxc; omega)).trans (FX.up _ _ _ (by unfold fxc; omega))
theorem mCh_wd {P Bn Fn Wn b : Nat} {s : Nat → Int32} (h : WL P Bn Fn Wn s) (g : WD P Bn s) (hb : b < Bn) (sec much : Int32) : WD P Bn (mCh s sec much b) := by
  have hb6 := h.b6
  obtain ⟨q, hq, eq⟩ := mCl_in (mCn s sec much b)
  unfold mCh
  rw [eq]
  split
  · rename_i h6
    refine ⟨?_, fun c hc => ?_, fun c hc => ?_, fun c hc => ?_, fun k hk => ?_⟩
    · rw [upd_n _ _ (by omega)]
      exact g.hr
    · rw [upd_n _ _ (by omega)]
      exact g.pl c hc
    · by_cases e : c = b
      · subst e
        rw [upd_s, upd_n _ _ (by omega)]
        refine ⟨q, hq, rfl, ?_⟩
        rcases h6 with h6 | h6
        · exact Or.inl (by
            have := (nI_ltI (a := q) (b := 60) (by omega) (by omega)).mp h6
            exact this)
        · exact Or.inr h6
      · rw [upd_n _ _ (by omega), upd_n _ _ (by omega)]
        exact g.ch c hc
    · rw [upd_n _ _ (by omega)]
      exact g.fz c hc
    · rw [upd_n _ _ (by omega)]
      exact g.wr k hk
  · refine ⟨?_, fun c hc => ?_, fun c hc => ?_, fun c hc => ?_, fun k hk => ?_⟩
    · rw [upd_n _ _ (by omega), upd_n _ _ (by omega)]
      exact g.hr
    · rw [upd_n _ _ (by omega), upd_n _ _ (by omega)]
      exact g.pl c hc
    · by_cases e : c = b
      · subst e
        rw [upd_n _ _ (by omega), upd_s, upd_s]
        exact ⟨q, hq, rfl, Or.inr rfl⟩
      · rw [upd_n _ _ (by omega), upd_n _ _ (by omega), upd_n _ _ (by omega), upd_n _ _ (by omega)]
        exact g.ch c hc
    · by_cases e : c = b
      · subst e
        rw [upd_s]
        exact Or.inr rfl
      · rw [upd_n _ _ (by omega), upd_n _ _ (by omega)]
        exact g.fz c hc
    · rw [upd_n _ _ (by omega), upd_n _ _ (by omega)]
      exact g.wr k hk
def gHm (s : Nat → Int32) (b : Nat) : Nat → Int32 := upd (upd (upd s (10 + 6 * b) (s (10 + 6 * b + 1))) (10 + 6 * b + 3) 0) (10 + 6 * b + 4) 0
theorem gHm_fx {b : Nat} (s : Nat → Int32) (hb : b < 6) : FX s (gHm s b) := (FX.up s _ _ (by unfold fxc; omega)).trans ((FX.up _ _ _ (by unfold fxc; omega)).trans (FX.up _ _ _ (by unfold fxc; omega)))
theorem gHm_wd {P Bn Fn Wn b : Nat} {s : Nat → Int32} (h : WL P Bn Fn Wn s) (g : WD P Bn s) (hb : b < Bn) : WD P Bn (gHm s b) := by
  have hb6 := h.b6
  unfold gHm
  refine ⟨?_, fun c hc => ?_, fun c hc => ?_, fun c hc => ?_, fun k hk => ?_⟩
  · rw [upd_n _ _ (by omega), upd_n _ _ (by omega), upd_n _ _ (by omega)]
    exact g.hr
  · rw [upd_n _ _ (by omega), upd_n _ _ (by omega)]
    by_cases e : c = b
    · subst e
      rw [upd_s]
      exact h.hm c hc
    · rw [upd_n _ _ (by omega)]
      exact g.pl c hc
  · by_cases e : c = b
    · subst e
      rw [upd_n _ _ (by omega), upd_s, upd_s]
      exact ⟨0, by omega, rfl, Or.inl (by omega)⟩
    · rw [upd_n _ _ (by omega), upd_n _ _ (by omega), upd_n _ _ (by omega), upd_n _ _ (by omega), upd_n _ _ (by omega), upd_n _ _ (by omega)]
      exact g.ch c hc
  · by_cases e : c = b
    · subst e
      rw [upd_s]
      exact Or.inl rfl
    · rw [upd_n _ _ (by omega), upd_n _ _ (by omega), upd_n _ _ (by omega)]
      exact g.fz c hc
  · rw [upd_n _ _ (by omega), upd_n _ _ (by omega), upd_n _ _ (by omega)]
    exact g.wr k hk

/-- what an hour depends on beside what is said: the rule in force, the rules, who has a second pair, a frost drawn -/
abbrev xEv : Type := (Int32) × (xRl) × (Int32) × (Int32) × (Nat) × (Nat) × (Nat)
abbrev xEv.fo (E : xEv) : Int32 := E.1
abbrev xEv.rl (E : xEv) : xRl := E.2.1
abbrev xEv.sec (E : xEv) : Int32 := E.2.2.1
abbrev xEv.fd (E : xEv) : Int32 := E.2.2.2.1
abbrev xEv.Bn (E : xEv) : Nat := E.2.2.2.2.1
abbrev xEv.Fn (E : xEv) : Nat := E.2.2.2.2.2.1
abbrev xEv.Wn (E : xEv) : Nat := E.2.2.2.2.2.2
def pWk (E : xEv) (much : Int32) (s : Nat → Int32) : Nat → Nat → Int32
  | 0 => s
  | k + 1 => mWl (pWk E much s k) k much (mWy E.fo E.rl (pWk E much s k) E.sec E.fd E.Bn E.Fn E.Wn k)
theorem pWk_s (E : xEv) (much : Int32) (s : Nat → Int32) (k : Nat) : pWk E much s (k + 1) = mWl (pWk E much s k) k much (mWy E.fo E.rl (pWk E much s k) E.sec E.fd E.Bn E.Fn E.Wn k) := rfl
def pCh (sec much : Int32) (s : Nat → Int32) (z : Int32) : Nat → (Nat → Int32) × Int32
  | 0 => (s, z)
  | k + 1 => (mCh (pCh sec much s z k).1 sec much k, mCz (pCh sec much s z k).1 sec much k (pCh sec much s z k).2)
theorem pCh_s (sec much : Int32) (s : Nat → Int32) (z : Int32) (k : Nat) : pCh sec much s z (k + 1) = (mCh (pCh sec much s z k).1 sec much k, mCz (pCh sec much s z k).1 sec much k (pCh sec much s z k).2) := rfl
def pHm (s : Nat → Int32) : Nat → Nat → Int32
  | 0 => s
  | k + 1 => gHm (pHm s k) k
theorem pHm_s (s : Nat → Int32) (k : Nat) : pHm s (k + 1) = gHm (pHm s k) k := rfl
theorem pWk_w {P : Nat} {E : xEv} {s : Nat → Int32} (much : Int32) (h : WL P E.Bn E.Fn E.Wn s) (g : WD P E.Bn s) : ∀ k, k ≤ E.Bn → FX s (pWk E much s k) ∧ WD P E.Bn (pWk E much s k)
  | 0, _ => ⟨FX.refl s, g⟩
  | k + 1, hk => by
    obtain ⟨f1, g1⟩ := pWk_w much h g k (by omega)
    rw [pWk_s]
    exact ⟨f1.trans (mWl_fx (h.fx f1) (by omega) _ _), mWl_wd (h.fx f1) g1 (by omega) _ _⟩
theorem pCh_w {P Bn Fn Wn : Nat} {s : Nat → Int32} (sec much z : Int32) (h : WL P Bn Fn Wn s) (g : WD P Bn s) : ∀ k, k ≤ Bn → FX s (pCh sec much s z k).1 ∧ WD P Bn (pCh sec much s z k).1
  | 0, _ => ⟨FX.refl s, g⟩
  | k + 1, hk => by
    obtain ⟨f1, g1⟩ := pCh_w sec much z h g k (by omega)
    rw [pCh_s]
    exact ⟨f1.trans (mCh_fx (h.fx f1) (by omega) _ _), mCh_wd (h.fx f1) g1 (by omega) _ _⟩
theorem pHm_w {P Bn Fn Wn : Nat} {s : Nat → Int32} (h : WL P Bn Fn Wn s) (g : WD P Bn s) : ∀ k, k ≤ Bn → FX s (pHm s k) ∧ WD P Bn (pHm s k)
  | 0, _ => ⟨FX.refl s, g⟩
  | k + 1, hk => by
    obtain ⟨f1, g1⟩ := pHm_w h g k (by omega)
    have := h.b6
    rw [pHm_s]
    exact ⟨f1.trans (gHm_fx _ (by omega)), gHm_wd (h.fx f1) g1 (by omega)⟩
def eMu (E : xEv) (s : Nat → Int32) : Int32 := if mFr s E.fd E.Fn = 0 then 1 else 2
/-- ahead of the clock -/
def pB (E : xEv) (s : Nat → Int32) (z : Int32) : (Nat → Int32) × Int32 := pCh E.sec (eMu E s) (pWk E (eMu E s) (mPy s E.Wn).1 E.Bn) z E.Bn
def pTn (Bn : Nat) (s : Nat → Int32) : Nat → Int32 := if upd s 5 (s 5 + 1) 5 < 24 then upd s 5 (s 5 + 1) else pHm (upd (upd (upd s 5 (s 5 + 1)) 5 0) 6 (upd (upd s 5 (s 5 + 1)) 5 0 6 + 1)) Bn
/-- an hour: what is said then, who became frozen, what is earned -/
def mPs (E : xEv) (s : Nat → Int32) (z : Int32) : (Nat → Int32) × Int32 × Int32 := (pTn E.Bn (pB E s z).1, (pB E s z).2, (mPy s E.Wn).2)
theorem pB_w {P : Nat} {E : xEv} {s : Nat → Int32} (z : Int32) (h : WL P E.Bn E.Fn E.Wn s) (g : WD P E.Bn s) : FX s (pB E s z).1 ∧ WD P E.Bn (pB E s z).1 := by
  have f1 := mPy_fx h
  have g1 := mPy_wd h g
  obtain ⟨f2, g2⟩ := pWk_w (eMu E s) (h.fx f1) g1 E.Bn (Nat.le_refl _)
  obtain ⟨f3, g3⟩ := pCh_w E.sec (eMu E s) z ((h.fx f1).fx f2) g2 E.Bn (Nat.le_refl _)
  exact ⟨f1.trans (f2.trans f3), g3⟩
theorem WD.h5 {P Bn : Nat} {s : Nat → Int32} (g : WD P Bn s) (hB : Bn ≤ 6) {h : Nat} (hh : h < 24) : WD P Bn (upd s 5 (nI h)) := by
  refine ⟨⟨h, hh, upd_s _ _ _⟩, fun c hc => ?_, fun c hc => ?_, fun c hc => ?_, fun k hk => ?_⟩
  · rw [upd_n _ _ (by omega)]
    exact g.pl c hc
  · rw [upd_n _ _ (by omega), upd_n _ _ (by omega)]
    exact g.ch c hc
  · rw [upd_n _ _ (by omega)]
    exact g.fz c hc
  · rw [upd_n _ _ (by omega)]
    exact g.wr k hk
theorem pTn_w {P Bn Fn Wn : Nat} {s : Nat → Int32} (h : WL P Bn Fn Wn s) (g : WD P Bn s) : FX s (pTn Bn s) ∧ WD P Bn (pTn Bn s) := by
  obtain ⟨q, hq, e⟩ := g.hr
  have hb6 := h.b6
  unfold pTn
  rw [upd_s, upd_u, upd_n _ _ (show 6 ≠ 5 by decide), e, nI_1]
  split
  · rename_i h5
    have : q + 1 < 24 := (nI_ltI (a := q + 1) (b := 24) (by omega) (by omega)).mp h5
    exact ⟨FX.up s _ _ (by unfold fxc; omega), g.h5 h.b6 this⟩
  · have f1 : FX s (upd (upd s 5 0) 6 (s 6 + 1)) := (FX.up s 5 _ (by unfold fxc; omega)).trans (FX.up _ _ _ (by unfold fxc; omega))
    obtain ⟨f2, g2⟩ := pHm_w (h.fx f1) ((g.h5 h.b6 (show 0 < 24 by omega)).up h.b6 6 (s 6 + 1) (by unfold wdc; omega)) Bn (Nat.le_refl _)
    exact ⟨f1.trans f2, g2⟩
theorem mPs_w {P : Nat} {E : xEv} {s : Nat → Int32} (z : Int32) (h : WL P E.Bn E.Fn E.Wn s) (g : WD P E.Bn s) : FX s (mPs E s z).1 ∧ WD P E.Bn (mPs E s z).1 := by
  obtain ⟨f1, g1⟩ := pB_w z h g
  obtain ⟨f2, g2⟩ := pTn_w (h.fx f1) g1
  exact ⟨f1.trans f2, g2⟩
theorem ME.same {z : Int32} {m : xM} {a : Nat} (e : v a = z) (h : ME m0 v dx A LA s m) : ME m0 (upd v a z) dx A LA s m := by
  rw [← e, upd_id]
  exact h
theorem upd_cm (f : Nat → Int32) {i j : Nat} (h : i ≠ j) (x y : Int32) : upd (upd f i x) j y = upd (upd f j y) i x := by
  funext k
  by_cases h1 : k = i
  · subst h1
    simp [upd, h]
  · by_cases h2 : k = j
    · subst h2
      simp [upd, h1]
    · simp [upd, h1, h2]

theorem l_M_pass3 {d P Bn Fn Wn : Nat} {much all : Int32} (hl : WL P Bn Fn Wn s) (hw : WD P Bn s) (hd : 1 ≤ d) (k : Nat) (hk : k ≤ Bn) {m : xM} (hm : ME m0 v dx A LA (pHm s k) m) : Rn d j_M_passes 109 [.ref 50, .int much, .int all, .int (nI k)] [] m (fun r m2 => r = some (.int all) ∧ ME m0 v dx A LA (pHm s Bn) m2) := by
  obtain ⟨n, f, g, rfl⟩ := hm
  have hs2 : (pHm s k) 2 = nI Bn := ((pHm_w hl hw k hk).1 2 (by unfold fxc; omega)).trans hl.b
  have hb6 := hl.b6
  refine Rn.step (pc' := 110) rfl rfl ?_
  refine Rn.step (pc' := 111) rfl rfl ?_
  refine Rn.getf (pc' := 114) rfl rfl rfl rfl rfl ?_
  refine Rn.iconst (v := 2) (pc' := 115) rfl (by decide) rfl ?_
  refine Rn.sald (k := 2) (pc' := 116) rfl rfl (by simp only [nI_lit, nI_add, pk_mul]) (by omega) (by decide) rfl ?_
  refine Rn.icmp_ge (pc1 := 130) (pc2 := 119) rfl rfl rfl (fun h116 => ?_) (fun h116 => ?_)
  · have hk2 : k = Bn := by
      have := (nI_leI (by omega) (by omega)).mp (hs2 ▸ h116)
      omega
    subst hk2
    refine Rn.step (pc' := 131) rfl rfl ?_
    exact Rn.iret rfl (rfl) (⟨rfl, n, f, g, rfl⟩)
  · have hk2 : k < Bn := by
      have := mt (nI_leI (a := Bn) (b := k) (by omega) (by omega)).mpr (hs2 ▸ h116)
      omega
    refine Rn.step (pc' := 120) rfl rfl ?_
    refine Rn.step (pc' := 121) rfl rfl ?_
    refine Rn.vv (pc' := 124) rfl (by decide) (by omega) rfl rfl rfl (c_M_goesHome k (by omega)) ?_
    refine Rn.step (pc' := 127) rfl rfl ?_
    refine Rn.step (pc' := 109) rfl rfl ?_
    exact Rn.ls4 rfl rfl rfl (congrArg Value.int (nI_i1 k)) (l_M_pass3 hl hw hd (k + 1) (by omega) ⟨n, f, g, rfl⟩)
termination_by Bn - k
theorem l_M_pass2 {d P Bn Fn Wn : Nat} {much all : Int32} (hl : WL P Bn Fn Wn s) (hw : WD P Bn s) (hd : 4 ≤ d) (k : Nat) (hk : k ≤ Bn) {m : xM} (hm : ME m0 (upd v 25 (pCh (v 23) much s (v 25) k).2) dx A LA (pCh (v 23) much s (v 25) k).1 m) : Rn d j_M_passes 44 [.ref 50, .int much, .int all, .int (nI k)] [] m (fun r m2 => r = some (.int all) ∧ ME m0 (upd v 25 (pCh (v 23) much s (v 25) Bn).2) dx A LA (pTn Bn (pCh (v 23) much s (v 25) Bn).1) m2) := by
  obtain ⟨n, f, g, rfl⟩ := hm
  have hs2 : ((pCh (v 23) much s (v 25) k).1) 2 = nI Bn := ((pCh_w (v 23) much (v 25) hl hw k hk).1 2 (by unfold fxc; omega)).trans hl.b
  have hb6 := hl.b6
  refine Rn.step (pc' := 45) rfl rfl ?_
  refine Rn.step (pc' := 46) rfl rfl ?_
  refine Rn.getf (pc' := 49) rfl rfl rfl rfl rfl ?_
  refine Rn.iconst (v := 2) (pc' := 50) rfl (by decide) rfl ?_
  refine Rn.sald (k := 2) (pc' := 51) rfl rfl (by simp only [nI_lit, nI_add, pk_mul]) (by omega) (by decide) rfl ?_
  refine Rn.icmp_ge (pc1 := 66) (pc2 := 54) rfl rfl rfl (fun h51 => ?_) (fun h51 => ?_)
  · have hk2 : k = Bn := by
      have := (nI_leI (by omega) (by omega)).mp (hs2 ▸ h51)
      omega
    subst hk2
    refine Rn.step (pc' := 67) rfl rfl ?_
    refine Rn.getf (pc' := 70) rfl rfl rfl rfl rfl ?_
    refine Rn.iconst (v := 5) (pc' := 71) rfl (by decide) rfl ?_
    refine Rn.step (pc' := 72) rfl rfl ?_
    refine Rn.sald (k := 5) (pc' := 73) rfl rfl (by simp only [nI_lit, nI_add, pk_mul]) (by omega) (by decide) rfl ?_
    refine Rn.iconst (v := 1) (pc' := 74) rfl (by decide) rfl ?_
    refine Rn.iadd (pc' := 75) rfl rfl ?_
    refine Rn.sast (k := 5) (pc' := 76) rfl rfl (by simp only [nI_lit, nI_add, pk_mul]) (by omega) (by decide) rfl ?_
    refine Rn.step (pc' := 77) rfl rfl ?_
    refine Rn.getf (pc' := 80) rfl rfl rfl rfl rfl ?_
    refine Rn.iconst (v := 5) (pc' := 81) rfl (by decide) rfl ?_
    refine Rn.sald (k := 5) (pc' := 82) rfl rfl (by simp only [nI_lit, nI_add, pk_mul]) (by omega) (by decide) rfl ?_
    refine Rn.iconst (v := 24) (pc' := 84) rfl (by decide) rfl ?_
    refine Rn.icmp_ge (pc1 := 89) (pc2 := 87) rfl rfl rfl (fun h84 => ?_) (fun h84 => ?_)
    · refine Rn.step (pc' := 90) rfl rfl ?_
      refine Rn.getf (pc' := 93) rfl rfl rfl rfl rfl ?_
      refine Rn.iconst (v := 5) (pc' := 94) rfl (by decide) rfl ?_
      refine Rn.iconst (v := 0) (pc' := 95) rfl (by decide) rfl ?_
      refine Rn.sast (k := 5) (pc' := 96) rfl rfl (by simp only [nI_lit, nI_add, pk_mul]) (by omega) (by decide) rfl ?_
      refine Rn.step (pc' := 97) rfl rfl ?_
      refine Rn.getf (pc' := 100) rfl rfl rfl rfl rfl ?_
      refine Rn.iconst (v := 6) (pc' := 102) rfl (by decide) rfl ?_
      refine Rn.step (pc' := 103) rfl rfl ?_
      refine Rn.sald (k := 6) (pc' := 104) rfl rfl (by simp only [nI_lit, nI_add, pk_mul]) (by omega) (by decide) rfl ?_
      refine Rn.iconst (v := 1) (pc' := 105) rfl (by decide) rfl ?_
      refine Rn.iadd (pc' := 106) rfl rfl ?_
      refine Rn.sast (k := 6) (pc' := 107) rfl rfl (by simp only [nI_lit, nI_add, pk_mul]) (by omega) (by decide) rfl ?_
      refine Rn.iconst (v := 0) (pc' := 108) rfl (by decide) rfl ?_
      refine Rn.step (pc' := 109) rfl rfl ?_
      refine (l_M_pass3 (v := upd v 25 (pCh (v 23) much s (v 25) k).2) ((hl.fx (pCh_w (v 23) much (v 25) hl hw k hk).1).fx ((FX.up _ 5 _ (by unfold fxc; omega)).trans ((FX.up _ 5 _ (by unfold fxc; omega)).trans (FX.up _ 6 _ (by unfold fxc; omega))))) ?_ (by omega) 0 (by omega) ⟨n, f, g, rfl⟩).conseq ?_
      · exact ((upd_u _ _ _ _).symm ▸ (pCh_w (v 23) much (v 25) hl hw k hk).2.h5 hl.b6 (show 0 < 24 by omega)).up hl.b6 _ _ (by unfold wdc; omega)
      · rintro r m2 ⟨rfl, h9⟩
        refine ⟨rfl, ?_⟩
        rw [pTn, if_neg (Int32.not_lt.mpr h84)]
        exact h9
    · refine Rn.step (pc' := 88) rfl rfl ?_
      exact Rn.iret rfl (rfl) (⟨rfl, n, f, g, by rw [pTn, if_pos (Int32.not_le.mp h84)]⟩)
  · have hk2 : k < Bn := by
      have := mt (nI_leI (a := Bn) (b := k) (by omega) (by omega)).mpr (hs2 ▸ h51)
      omega
    refine Rn.step (pc' := 55) rfl rfl ?_
    refine Rn.step (pc' := 56) rfl rfl ?_
    refine Rn.step (pc' := 57) rfl rfl ?_
    refine Rn.vv (pc' := 60) rfl (by decide) (by omega) rfl rfl rfl (c_M_chills (by omega) k much (by omega) ((pCh_w (v 23) much (v 25) hl hw k hk).2.pl k hk2 |>.elim fun q hq => ⟨q, Nat.lt_of_lt_of_le hq.1 hl.p10, hq.2⟩)) ?_
    refine Rn.step (pc' := 63) rfl rfl ?_
    refine Rn.step (pc' := 44) rfl rfl ?_
    refine Rn.mm ?_ (Rn.ls4 rfl rfl rfl (congrArg Value.int (nI_i1 k)) (l_M_pass2 hl hw hd (k + 1) (by omega) ⟨n, f, g, rfl⟩))
    rw [pCh_s]
    show MM _ _ _ _ _ = MM _ _ _ _ _
    rw [upd_cm _ (show 18 ≠ 25 by decide), upd_u]
    rfl
termination_by Bn - k
abbrev evf (v : Nat → Int32) (rl : xRl) (Bn Fn Wn : Nat) : xEv := (v 21, rl, v 23, v 24, Bn, Fn, Wn)
theorem l_M_pass1 {d P Bn Fn Wn : Nat} {rl : xRl} {much all : Int32} (hl : WL P Bn Fn Wn s) (hw : WD P Bn s) (hv : v 24 = 0 ∨ v 24 = 1) (hru : mRu v A rl) (hd : 5 ≤ d) (k : Nat) (hk : k ≤ Bn) {m : xM} (hm : ME m0 v dx A LA (pWk (evf v rl Bn Fn Wn) much s k) m) : Rn d j_M_passes 20 [.ref 50, .int much, .int all, .int (nI k)] [] m (fun r m2 => r = some (.int all) ∧ ME m0 (upd v 25 (pCh (v 23) much (pWk (evf v rl Bn Fn Wn) much s Bn) (v 25) Bn).2) dx A LA (pTn Bn (pCh (v 23) much (pWk (evf v rl Bn Fn Wn) much s Bn) (v 25) Bn).1) m2) := by
  have hm0 := hm
  obtain ⟨n, f, g, rfl⟩ := hm0
  have hs2 : (pWk (evf v rl Bn Fn Wn) much s k) 2 = nI Bn := ((pWk_w (E := evf v rl Bn Fn Wn) much hl hw k hk).1 2 (by unfold fxc; omega)).trans hl.b
  have hb6 := hl.b6
  refine Rn.step (pc' := 21) rfl rfl ?_
  refine Rn.step (pc' := 22) rfl rfl ?_
  refine Rn.getf (pc' := 25) rfl rfl rfl rfl rfl ?_
  refine Rn.iconst (v := 2) (pc' := 26) rfl (by decide) rfl ?_
  refine Rn.sald (k := 2) (pc' := 27) rfl rfl (by simp only [nI_lit, nI_add, pk_mul]) (by omega) (by decide) rfl ?_
  refine Rn.icmp_ge (pc1 := 42) (pc2 := 30) rfl rfl rfl (fun h27 => ?_) (fun h27 => ?_)
  · have hk2 : k = Bn := by
      have := (nI_leI (by omega) (by omega)).mp (hs2 ▸ h27)
      omega
    subst hk2
    refine Rn.iconst (v := 0) (pc' := 43) rfl (by decide) rfl ?_
    refine Rn.step (pc' := 44) rfl rfl ?_
    exact l_M_pass2 (hl.fx (pWk_w (E := evf v rl k Fn Wn) much hl hw k hk).1) (pWk_w (E := evf v rl k Fn Wn) much hl hw k hk).2 (by omega) 0 (by omega) (ME.same rfl hm)
  · have hk2 : k < Bn := by
      have := mt (nI_leI (a := Bn) (b := k) (by omega) (by omega)).mpr (hs2 ▸ h27)
      omega
    refine Rn.step (pc' := 31) rfl rfl ?_
    refine Rn.step (pc' := 32) rfl rfl ?_
    refine Rn.step (pc' := 33) rfl rfl ?_
    refine Rn.callV (pc' := 36) rfl (by decide) (by omega) rfl rfl rfl (c_M_walks (((hl.fx (pWk_w (E := evf v rl Bn Fn Wn) much hl hw k hk).1).okb (pWk_w (E := evf v rl Bn Fn Wn) much hl hw k hk).2 hv hk2)) hru (by omega) ⟨n, f, g, rfl⟩) (fun r_ m_ hc_ => ?_)
    obtain ⟨rfl, hm⟩ := hc_
    refine Rn.step (pc' := 39) rfl rfl ?_
    refine Rn.step (pc' := 20) rfl rfl ?_
    exact Rn.ls4 rfl rfl rfl (congrArg Value.int (nI_i1 k)) (l_M_pass1 hl hw hv hru hd (k + 1) (by omega) hm)
termination_by Bn - k
theorem w_p12 {d P Bn Fn Wn n : Nat} {f g : Nat → Int64} {rl : xRl} {much : Int32} (hl : WL P Bn Fn Wn s) (hw : WD P Bn s) (hv : v 24 = 0 ∨ v 24 = 1) (hru : mRu v A rl) (hd : 5 ≤ d) : Rn d j_M_passes 12 [.ref 50, xb, xb, xb] [.int much] (MT m0 v dx A (va_up LA 59 g) s n f) (fun r m2 => r = some (.int (mPy s Wn).2) ∧ ME m0 (upd v 25 (pCh (v 23) much (pWk (evf v rl Bn Fn Wn) much (mPy s Wn).1 Bn) (v 25) Bn).2) dx A LA (pTn Bn (pCh (v 23) much (pWk (evf v rl Bn Fn Wn) much (mPy s Wn).1 Bn) (v 25) Bn).1) m2) := by
  refine Rn.step (pc' := 13) rfl rfl ?_
  refine Rn.step (pc' := 14) rfl rfl ?_
  refine Rn.vi (pc' := 17) rfl (by decide) (by omega) rfl rfl rfl (c_M_earnsNow (Wn := Wn) hl.w hl.w10 (fun k hk => (hl.wb k hk).elim fun c hc => ⟨c, Nat.lt_of_lt_of_le hc.1 hl.b6, hc.2⟩)) ?_
  refine Rn.step (pc' := 18) rfl rfl ?_
  refine Rn.iconst (v := 0) (pc' := 19) rfl (by decide) rfl ?_
  refine Rn.step (pc' := 20) rfl rfl ?_
  exact l_M_pass1 (hl.fx (mPy_fx hl)) (mPy_wd hl hw) hv hru (by omega) 0 (by omega) ⟨n, f, g, rfl⟩
theorem c_M_passes {d P Bn Fn Wn : Nat} {rl : xRl} (hl : WL P Bn Fn Wn s) (hw : WD P Bn s) (hv : v 24 = 0 ∨ v 24 = 1) (hru : mRu v A rl) (hd : 5 ≤ d) {m : xM} (hm : ME m0 v dx A LA s m) : Cl d j_M_passes [.ref 50] m (fun r m2 => r = some (.int (mPs (evf v rl Bn Fn Wn) s (v 25)).2.2) ∧ ME m0 (upd v 25 (mPs (evf v rl Bn Fn Wn) s (v 25)).2.1) dx A LA (mPs (evf v rl Bn Fn Wn) s (v 25)).1 m2) := by
  show Rn d j_M_passes 0 _ _ _ _
  obtain ⟨n, f, g, rfl⟩ := hm
  refine Rn.step (pc' := 1) rfl rfl ?_
  refine Rn.vi (pc' := 4) rfl (by decide) (by omega) rfl rfl rfl (c_M_isFrost hl.f hl.f4 hv) ?_
  refine Rn.ifc_eq (pc1 := 11) (pc2 := 7) rfl rfl rfl (fun h4 => ?_) (fun h4 => ?_)
  · refine Rn.iconst (v := 1) (pc' := 12) rfl (by decide) rfl ?_
    have e : eMu (evf v rl Bn Fn Wn) s = 1 := if_pos h4
    have := w_p12 (m0 := m0) (dx := dx) (A := A) (LA := LA) (n := n) (f := f) (g := g) (much := eMu (evf v rl Bn Fn Wn) s) hl hw hv hru hd
    rw [e] at this
    exact (this.conseq (fun r m2 hq => by rw [← e] at hq; exact hq))
  · refine Rn.iconst (v := 2) (pc' := 8) rfl (by decide) rfl ?_
    refine Rn.step (pc' := 12) rfl rfl ?_
    have e : eMu (evf v rl Bn Fn Wn) s = 2 := if_neg h4
    have := w_p12 (m0 := m0) (dx := dx) (A := A) (LA := LA) (n := n) (f := f) (g := g) (much := eMu (evf v rl Bn Fn Wn) s) hl hw hv hru hd
    rw [e] at this
    exact (this.conseq (fun r m2 hq => by rw [← e] at hq; exact hq))
/-- hours, n of them -/
def mPo (E : xEv) (s : Nat → Int32) (z : Int32) : Nat → (Nat → Int32) × Int32 × Int32
  | 0 => (s, z, 0)
  | n + 1 => ((mPs E (mPo E s z n).1 (mPo E s z n).2.1).1, (mPs E (mPo E s z n).1 (mPo E s z n).2.1).2.1, (mPo E s z n).2.2 + (mPs E (mPo E s z n).1 (mPo E s z n).2.1).2.2)
theorem mPo_s (E : xEv) (s : Nat → Int32) (z : Int32) (n : Nat) : mPo E s z (n + 1) = ((mPs E (mPo E s z n).1 (mPo E s z n).2.1).1, (mPs E (mPo E s z n).1 (mPo E s z n).2.1).2.1, (mPo E s z n).2.2 + (mPs E (mPo E s z n).1 (mPo E s z n).2.1).2.2) := rfl
theorem mPo_w {P : Nat} {E : xEv} {s : Nat → Int32} (z : Int32) (h : WL P E.Bn E.Fn E.Wn s) (g : WD P E.Bn s) : ∀ n, FX s (mPo E s z n).1 ∧ WD P E.Bn (mPo E s z n).1
  | 0 => ⟨FX.refl s, g⟩
  | n + 1 => by
    obtain ⟨f1, g1⟩ := mPo_w z h g n
    obtain ⟨f2, g2⟩ := mPs_w (mPo E s z n).2.1 (h.fx f1) g1
    exact ⟨f1.trans f2, g2⟩
theorem l_M_passesOn {d P Bn Fn Wn N : Nat} {rl : xRl} (hl : WL P Bn Fn Wn s) (hw : WD P Bn s) (hv : v 24 = 0 ∨ v 24 = 1) (hru : mRu v A rl) (hd : 6 ≤ d) (hN : N < 1000) (k : Nat) (hk : k ≤ N) {m : xM} (hm : ME m0 (upd v 25 (mPo (evf v rl Bn Fn Wn) s (v 25) k).2.1) dx A LA (mPo (evf v rl Bn Fn Wn) s (v 25) k).1 m) : Rn d j_M_passesOn 4 [.ref 50, .int (nI N), .int (mPo (evf v rl Bn Fn Wn) s (v 25) k).2.2, .int (nI k)] [] m (fun r m2 => r = some (.int (mPo (evf v rl Bn Fn Wn) s (v 25) N).2.2) ∧ ME m0 (upd v 25 (mPo (evf v rl Bn Fn Wn) s (v 25) N).2.1) dx A LA (mPo (evf v rl Bn Fn Wn) s (v 25) N).1 m2) := by
  have hm0 := hm
  obtain ⟨n, f, g, rfl⟩ := hm0
  refine Rn.step (pc' := 5) rfl rfl ?_
  refine Rn.step (pc' := 6) rfl rfl ?_
  refine Rn.icmp_ge (pc1 := 22) (pc2 := 9) rfl rfl rfl (fun h6 => ?_) (fun h6 => ?_)
  · have hk2 : k = N := by
      have := (nI_leI (by omega) (by omega)).mp h6
      omega
    subst hk2
    refine Rn.step (pc' := 23) rfl rfl ?_
    exact Rn.iret rfl (rfl) (⟨rfl, hm⟩)
  · have hk2 : k < N := by
      have := mt (nI_leI (a := N) (b := k) (by omega) (by omega)).mpr h6
      omega
    refine Rn.step (pc' := 10) rfl rfl ?_
    refine Rn.step (pc' := 11) rfl rfl ?_
    refine Rn.callV (pc' := 14) rfl (by decide) (by omega) rfl rfl rfl (c_M_passes (v := upd v 25 (mPo (evf v rl Bn Fn Wn) s (v 25) k).2.1) (hl.fx (mPo_w (E := (evf v rl Bn Fn Wn)) (v 25) hl hw k).1) (mPo_w (E := (evf v rl Bn Fn Wn)) (v 25) hl hw k).2 hv hru (by omega) hm) (fun r_ m_ hc_ => ?_)
    obtain ⟨rfl, hm⟩ := hc_
    refine Rn.iadd (pc' := 15) rfl rfl ?_
    refine Rn.step (pc' := 16) rfl rfl ?_
    refine Rn.step (pc' := 19) rfl rfl ?_
    refine Rn.step (pc' := 4) rfl rfl ?_
    exact Rn.ls4 rfl rfl rfl (congrArg Value.int (nI_i1 k)) (l_M_passesOn hl hw hv hru hd hN (k + 1) (by omega) (by rw [upd_u] at hm; exact hm))
termination_by N - k
theorem c_M_passesOn {d P Bn Fn Wn N : Nat} {rl : xRl} (hl : WL P Bn Fn Wn s) (hw : WD P Bn s) (hv : v 24 = 0 ∨ v 24 = 1) (hru : mRu v A rl) (hd : 6 ≤ d) (hN : N < 1000) {m : xM} (hm : ME m0 v dx A LA s m) : Cl d j_M_passesOn [.ref 50, .int (nI N)] m (fun r m2 => r = some (.int (mPo (evf v rl Bn Fn Wn) s (v 25) N).2.2) ∧ ME m0 (upd v 25 (mPo (evf v rl Bn Fn Wn) s (v 25) N).2.1) dx A LA (mPo (evf v rl Bn Fn Wn) s (v 25) N).1 m2) := by
  show Rn d j_M_passesOn 0 _ _ _ _
  refine Rn.iconst (v := 0) (pc' := 1) rfl (by decide) rfl ?_
  refine Rn.step (pc' := 2) rfl rfl ?_
  refine Rn.iconst (v := 0) (pc' := 3) rfl (by decide) rfl ?_
  refine Rn.step (pc' := 4) rfl rfl ?_
  exact l_M_passesOn hl hw hv hru hd hN 0 (by omega) (ME.same rfl hm)
end MP
end
