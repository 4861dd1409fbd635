section
-- ===== PART A: goes FIRST, ahead of the names: the tables' words, and 'selects' of the private methods out of them =====
/-- a private method of a class that the tables say can be made, by its rows of tables_1 -/
def lw_okq (q : MethodName × Nat) : Prop := (q.1.cls ≠ "java/lang/invoke/MethodHandle" ∧ q.1.cls ≠ "java/lang/invoke/VarHandle") ∧ Cond.instantiable q.1.cls q.2 ∈ tables_1 ∧ Cond.privateMethod q.1 ∈ tables_1 ∧ Cond.instanceMethod q.1 ∈ tables_1
theorem lw_p0 : lw_okq (⟨"FlatModule$Checker", "subject", "()LFlatModule$Function;"⟩, 7) := ⟨⟨by decide +kernel, by decide +kernel⟩, List.mem_of_getElem? (i := 28) (by decide +kernel), List.mem_of_getElem? (i := 241) (by decide +kernel), List.mem_of_getElem? (i := 242) (by decide +kernel)⟩
theorem lw_p1 : lw_okq (⟨"FlatModule$Checker", "instruction", "(II)V"⟩, 7) := ⟨⟨by decide +kernel, by decide +kernel⟩, List.mem_of_getElem? (i := 28) (by decide +kernel), List.mem_of_getElem? (i := 249) (by decide +kernel), List.mem_of_getElem? (i := 250) (by decide +kernel)⟩
theorem lw_p2 : lw_okq (⟨"FlatModule$Checker", "isAsSaid", "(II)Z"⟩, 7) := ⟨⟨by decide +kernel, by decide +kernel⟩, List.mem_of_getElem? (i := 28) (by decide +kernel), List.mem_of_getElem? (i := 253) (by decide +kernel), List.mem_of_getElem? (i := 254) (by decide +kernel)⟩
theorem lw_p3 : lw_okq (⟨"FlatModule$Checker", "moveValues", "(II)V"⟩, 7) := ⟨⟨by decide +kernel, by decide +kernel⟩, List.mem_of_getElem? (i := 28) (by decide +kernel), List.mem_of_getElem? (i := 260) (by decide +kernel), List.mem_of_getElem? (i := 261) (by decide +kernel)⟩
theorem lw_p4 : lw_okq (⟨"FlatModule$Checker", "addRow", "(II)I"⟩, 7) := ⟨⟨by decide +kernel, by decide +kernel⟩, List.mem_of_getElem? (i := 28) (by decide +kernel), List.mem_of_getElem? (i := 264) (by decide +kernel), List.mem_of_getElem? (i := 265) (by decide +kernel)⟩
theorem lw_p5 : lw_okq (⟨"FlatModule$Checker", "isLive", "()Z"⟩, 7) := ⟨⟨by decide +kernel, by decide +kernel⟩, List.mem_of_getElem? (i := 28) (by decide +kernel), List.mem_of_getElem? (i := 268) (by decide +kernel), List.mem_of_getElem? (i := 269) (by decide +kernel)⟩
theorem lw_p6 : lw_okq (⟨"FlatModule$Checker", "put", "(I)V"⟩, 7) := ⟨⟨by decide +kernel, by decide +kernel⟩, List.mem_of_getElem? (i := 28) (by decide +kernel), List.mem_of_getElem? (i := 276) (by decide +kernel), List.mem_of_getElem? (i := 277) (by decide +kernel)⟩
theorem lw_p7 : lw_okq (⟨"FlatModule$Checker", "take", "(I)I"⟩, 7) := ⟨⟨by decide +kernel, by decide +kernel⟩, List.mem_of_getElem? (i := 28) (by decide +kernel), List.mem_of_getElem? (i := 280) (by decide +kernel), List.mem_of_getElem? (i := 281) (by decide +kernel)⟩
theorem lw_p8 : lw_okq (⟨"FlatModule$Checker", "compute", "(II)V"⟩, 7) := ⟨⟨by decide +kernel, by decide +kernel⟩, List.mem_of_getElem? (i := 28) (by decide +kernel), List.mem_of_getElem? (i := 284) (by decide +kernel), List.mem_of_getElem? (i := 285) (by decide +kernel)⟩
theorem lw_p9 : lw_okq (⟨"FlatModule$Checker", "nest", "(II)V"⟩, 7) := ⟨⟨by decide +kernel, by decide +kernel⟩, List.mem_of_getElem? (i := 28) (by decide +kernel), List.mem_of_getElem? (i := 288) (by decide +kernel), List.mem_of_getElem? (i := 289) (by decide +kernel)⟩
theorem lw_p10 : lw_okq (⟨"FlatModule$Checker", "openFrame", "(II)V"⟩, 7) := ⟨⟨by decide +kernel, by decide +kernel⟩, List.mem_of_getElem? (i := 28) (by decide +kernel), List.mem_of_getElem? (i := 292) (by decide +kernel), List.mem_of_getElem? (i := 293) (by decide +kernel)⟩
theorem lw_p11 : lw_okq (⟨"FlatModule$Checker", "turnToElse", "()V"⟩, 7) := ⟨⟨by decide +kernel, by decide +kernel⟩, List.mem_of_getElem? (i := 28) (by decide +kernel), List.mem_of_getElem? (i := 296) (by decide +kernel), List.mem_of_getElem? (i := 297) (by decide +kernel)⟩
theorem lw_p12 : lw_okq (⟨"FlatModule$Checker", "takeJustWhatIsGiven", "()V"⟩, 7) := ⟨⟨by decide +kernel, by decide +kernel⟩, List.mem_of_getElem? (i := 28) (by decide +kernel), List.mem_of_getElem? (i := 300) (by decide +kernel), List.mem_of_getElem? (i := 301) (by decide +kernel)⟩
theorem lw_p13 : lw_okq (⟨"FlatModule$Checker", "closeFrame", "()V"⟩, 7) := ⟨⟨by decide +kernel, by decide +kernel⟩, List.mem_of_getElem? (i := 28) (by decide +kernel), List.mem_of_getElem? (i := 308) (by decide +kernel), List.mem_of_getElem? (i := 309) (by decide +kernel)⟩
theorem lw_p14 : lw_okq (⟨"FlatModule$Checker", "leave", "(II)V"⟩, 7) := ⟨⟨by decide +kernel, by decide +kernel⟩, List.mem_of_getElem? (i := 28) (by decide +kernel), List.mem_of_getElem? (i := 316) (by decide +kernel), List.mem_of_getElem? (i := 317) (by decide +kernel)⟩
theorem lw_p15 : lw_okq (⟨"FlatModule$Checker", "jump", "(II)V"⟩, 7) := ⟨⟨by decide +kernel, by decide +kernel⟩, List.mem_of_getElem? (i := 28) (by decide +kernel), List.mem_of_getElem? (i := 320) (by decide +kernel), List.mem_of_getElem? (i := 321) (by decide +kernel)⟩
def lw_privs_1 : List (MethodName × Nat) := [(⟨"FlatModule$Checker", "subject", "()LFlatModule$Function;"⟩, 7), (⟨"FlatModule$Checker", "instruction", "(II)V"⟩, 7), (⟨"FlatModule$Checker", "isAsSaid", "(II)Z"⟩, 7), (⟨"FlatModule$Checker", "moveValues", "(II)V"⟩, 7), (⟨"FlatModule$Checker", "addRow", "(II)I"⟩, 7), (⟨"FlatModule$Checker", "isLive", "()Z"⟩, 7), (⟨"FlatModule$Checker", "put", "(I)V"⟩, 7), (⟨"FlatModule$Checker", "take", "(I)I"⟩, 7), (⟨"FlatModule$Checker", "compute", "(II)V"⟩, 7), (⟨"FlatModule$Checker", "nest", "(II)V"⟩, 7), (⟨"FlatModule$Checker", "openFrame", "(II)V"⟩, 7), (⟨"FlatModule$Checker", "turnToElse", "()V"⟩, 7), (⟨"FlatModule$Checker", "takeJustWhatIsGiven", "()V"⟩, 7), (⟨"FlatModule$Checker", "closeFrame", "()V"⟩, 7), (⟨"FlatModule$Checker", "leave", "(II)V"⟩, 7), (⟨"FlatModule$Checker", "jump", "(II)V"⟩, 7)]
theorem lw_r1 : ∀ q ∈ lw_privs_1, lw_okq q := List.forall_mem_cons.mpr ⟨lw_p0, List.forall_mem_cons.mpr ⟨lw_p1, List.forall_mem_cons.mpr ⟨lw_p2, List.forall_mem_cons.mpr ⟨lw_p3, List.forall_mem_cons.mpr ⟨lw_p4, List.forall_mem_cons.mpr ⟨lw_p5, List.forall_mem_cons.mpr ⟨lw_p6, List.forall_mem_cons.mpr ⟨lw_p7, List.forall_mem_cons.mpr ⟨lw_p8, List.forall_mem_cons.mpr ⟨lw_p9, List.forall_mem_cons.mpr ⟨lw_p10, List.forall_mem_cons.mpr ⟨lw_p11, List.forall_mem_cons.mpr ⟨lw_p12, List.forall_mem_cons.mpr ⟨lw_p13, List.forall_mem_cons.mpr ⟨lw_p14, List.forall_mem_cons.mpr ⟨lw_p15, fun _ h => absurd h List.not_mem_nil⟩⟩⟩⟩⟩⟩⟩⟩⟩⟩⟩⟩⟩⟩⟩⟩
theorem lw_p16 : lw_okq (⟨"FlatModule$Checker", "die", "()V"⟩, 7) := ⟨⟨by decide +kernel, by decide +kernel⟩, List.mem_of_getElem? (i := 28) (by decide +kernel), List.mem_of_getElem? (i := 328) (by decide +kernel), List.mem_of_getElem? (i := 329) (by decide +kernel)⟩
theorem lw_p17 : lw_okq (⟨"FlatModule$Checker", "callFunction", "(I)V"⟩, 7) := ⟨⟨by decide +kernel, by decide +kernel⟩, List.mem_of_getElem? (i := 28) (by decide +kernel), List.mem_of_getElem? (i := 332) (by decide +kernel), List.mem_of_getElem? (i := 333) (by decide +kernel)⟩
theorem lw_p18 : lw_okq (⟨"FlatModule$Checker", "endOfCode", "()V"⟩, 7) := ⟨⟨by decide +kernel, by decide +kernel⟩, List.mem_of_getElem? (i := 28) (by decide +kernel), List.mem_of_getElem? (i := 336) (by decide +kernel), List.mem_of_getElem? (i := 337) (by decide +kernel)⟩
theorem lw_p19 : lw_okq (⟨"FlatModule", "functionsThere", "()I"⟩, 4) := ⟨⟨by decide +kernel, by decide +kernel⟩, List.mem_of_getElem? (i := 18) (by decide +kernel), List.mem_of_getElem? (i := 344) (by decide +kernel), List.mem_of_getElem? (i := 345) (by decide +kernel)⟩
theorem lw_p20 : lw_okq (⟨"java/lang/Throwable", "fillInStackTrace", "(I)Ljava/lang/Throwable;"⟩, 6) := ⟨⟨by decide +kernel, by decide +kernel⟩, List.mem_of_getElem? (i := 396) (by decide +kernel), List.mem_of_getElem? (i := 394) (by decide +kernel), List.mem_of_getElem? (i := 395) (by decide +kernel)⟩
theorem lw_p21 : lw_okq (⟨"FlatModule", "isThere", "(I)Z"⟩, 4) := ⟨⟨by decide +kernel, by decide +kernel⟩, List.mem_of_getElem? (i := 18) (by decide +kernel), List.mem_of_getElem? (i := 433) (by decide +kernel), List.mem_of_getElem? (i := 434) (by decide +kernel)⟩
theorem lw_p22 : lw_okq (⟨"FlatModule$Machine", "enter", "(I)V"⟩, 9) := ⟨⟨by decide +kernel, by decide +kernel⟩, List.mem_of_getElem? (i := 94) (by decide +kernel), List.mem_of_getElem? (i := 476) (by decide +kernel), List.mem_of_getElem? (i := 477) (by decide +kernel)⟩
theorem lw_p23 : lw_okq (⟨"FlatModule$Machine", "leaveWhatHasEnded", "()V"⟩, 9) := ⟨⟨by decide +kernel, by decide +kernel⟩, List.mem_of_getElem? (i := 94) (by decide +kernel), List.mem_of_getElem? (i := 494) (by decide +kernel), List.mem_of_getElem? (i := 495) (by decide +kernel)⟩
theorem lw_p24 : lw_okq (⟨"FlatModule$Machine", "backToCaller", "(LFlatModule$Function;)V"⟩, 9) := ⟨⟨by decide +kernel, by decide +kernel⟩, List.mem_of_getElem? (i := 94) (by decide +kernel), List.mem_of_getElem? (i := 498) (by decide +kernel), List.mem_of_getElem? (i := 499) (by decide +kernel)⟩
theorem lw_p25 : lw_okq (⟨"FlatModule$Machine", "copy", "(II)V"⟩, 9) := ⟨⟨by decide +kernel, by decide +kernel⟩, List.mem_of_getElem? (i := 94) (by decide +kernel), List.mem_of_getElem? (i := 502) (by decide +kernel), List.mem_of_getElem? (i := 503) (by decide +kernel)⟩
theorem lw_p26 : lw_okq (⟨"FlatModule$Machine", "step", "()V"⟩, 9) := ⟨⟨by decide +kernel, by decide +kernel⟩, List.mem_of_getElem? (i := 94) (by decide +kernel), List.mem_of_getElem? (i := 506) (by decide +kernel), List.mem_of_getElem? (i := 507) (by decide +kernel)⟩
theorem lw_p27 : lw_okq (⟨"FlatModule$Machine", "moveValues", "(III)V"⟩, 9) := ⟨⟨by decide +kernel, by decide +kernel⟩, List.mem_of_getElem? (i := 94) (by decide +kernel), List.mem_of_getElem? (i := 510) (by decide +kernel), List.mem_of_getElem? (i := 511) (by decide +kernel)⟩
theorem lw_p28 : lw_okq (⟨"FlatModule$Machine", "compute", "(III)V"⟩, 9) := ⟨⟨by decide +kernel, by decide +kernel⟩, List.mem_of_getElem? (i := 94) (by decide +kernel), List.mem_of_getElem? (i := 516) (by decide +kernel), List.mem_of_getElem? (i := 517) (by decide +kernel)⟩
theorem lw_p29 : lw_okq (⟨"FlatModule$Machine", "convert", "(III)V"⟩, 9) := ⟨⟨by decide +kernel, by decide +kernel⟩, List.mem_of_getElem? (i := 94) (by decide +kernel), List.mem_of_getElem? (i := 520) (by decide +kernel), List.mem_of_getElem? (i := 521) (by decide +kernel)⟩
theorem lw_p30 : lw_okq (⟨"FlatModule$Machine", "holds", "(III)Z"⟩, 9) := ⟨⟨by decide +kernel, by decide +kernel⟩, List.mem_of_getElem? (i := 94) (by decide +kernel), List.mem_of_getElem? (i := 544) (by decide +kernel), List.mem_of_getElem? (i := 545) (by decide +kernel)⟩
theorem lw_p31 : lw_okq (⟨"FlatModule$Machine", "goOnElsewhere", "(LFlatModule$FlatCode;II)V"⟩, 9) := ⟨⟨by decide +kernel, by decide +kernel⟩, List.mem_of_getElem? (i := 94) (by decide +kernel), List.mem_of_getElem? (i := 569) (by decide +kernel), List.mem_of_getElem? (i := 570) (by decide +kernel)⟩
def lw_privs_2 : List (MethodName × Nat) := [(⟨"FlatModule$Checker", "die", "()V"⟩, 7), (⟨"FlatModule$Checker", "callFunction", "(I)V"⟩, 7), (⟨"FlatModule$Checker", "endOfCode", "()V"⟩, 7), (⟨"FlatModule", "functionsThere", "()I"⟩, 4), (⟨"java/lang/Throwable", "fillInStackTrace", "(I)Ljava/lang/Throwable;"⟩, 6), (⟨"FlatModule", "isThere", "(I)Z"⟩, 4), (⟨"FlatModule$Machine", "enter", "(I)V"⟩, 9), (⟨"FlatModule$Machine", "leaveWhatHasEnded", "()V"⟩, 9), (⟨"FlatModule$Machine", "backToCaller", "(LFlatModule$Function;)V"⟩, 9), (⟨"FlatModule$Machine", "copy", "(II)V"⟩, 9), (⟨"FlatModule$Machine", "step", "()V"⟩, 9), (⟨"FlatModule$Machine", "moveValues", "(III)V"⟩, 9), (⟨"FlatModule$Machine", "compute", "(III)V"⟩, 9), (⟨"FlatModule$Machine", "convert", "(III)V"⟩, 9), (⟨"FlatModule$Machine", "holds", "(III)Z"⟩, 9), (⟨"FlatModule$Machine", "goOnElsewhere", "(LFlatModule$FlatCode;II)V"⟩, 9)]
theorem lw_r2 : ∀ q ∈ lw_privs_2, lw_okq q := List.forall_mem_cons.mpr ⟨lw_p16, List.forall_mem_cons.mpr ⟨lw_p17, List.forall_mem_cons.mpr ⟨lw_p18, List.forall_mem_cons.mpr ⟨lw_p19, List.forall_mem_cons.mpr ⟨lw_p20, List.forall_mem_cons.mpr ⟨lw_p21, List.forall_mem_cons.mpr ⟨lw_p22, List.forall_mem_cons.mpr ⟨lw_p23, List.forall_mem_cons.mpr ⟨lw_p24, List.forall_mem_cons.mpr ⟨lw_p25, List.forall_mem_cons.mpr ⟨lw_p26, List.forall_mem_cons.mpr ⟨lw_p27, List.forall_mem_cons.mpr ⟨lw_p28, List.forall_mem_cons.mpr ⟨lw_p29, List.forall_mem_cons.mpr ⟨lw_p30, List.forall_mem_cons.mpr ⟨lw_p31, fun _ h => absurd h List.not_mem_nil⟩⟩⟩⟩⟩⟩⟩⟩⟩⟩⟩⟩⟩⟩⟩⟩
theorem lw_p32 : lw_okq (⟨"FlatModule$Machine", "jump", "(LFlatModule$FlatCode;II)V"⟩, 9) := ⟨⟨by decide +kernel, by decide +kernel⟩, List.mem_of_getElem? (i := 94) (by decide +kernel), List.mem_of_getElem? (i := 573) (by decide +kernel), List.mem_of_getElem? (i := 574) (by decide +kernel)⟩
theorem lw_p33 : lw_okq (⟨"FlatModule$Machine", "callFunction", "(II)V"⟩, 9) := ⟨⟨by decide +kernel, by decide +kernel⟩, List.mem_of_getElem? (i := 94) (by decide +kernel), List.mem_of_getElem? (i := 577) (by decide +kernel), List.mem_of_getElem? (i := 578) (by decide +kernel)⟩
theorem lw_p34 : lw_okq (⟨"FlatModule$Machine", "valueOf", "(II)D"⟩, 9) := ⟨⟨by decide +kernel, by decide +kernel⟩, List.mem_of_getElem? (i := 94) (by decide +kernel), List.mem_of_getElem? (i := 602) (by decide +kernel), List.mem_of_getElem? (i := 603) (by decide +kernel)⟩
theorem lw_p35 : lw_okq (⟨"FlatModuleModel", "bad", "(Z)Z"⟩, 33) := ⟨⟨by decide +kernel, by decide +kernel⟩, List.mem_of_getElem? (i := 617) (by decide +kernel), List.mem_of_getElem? (i := 735) (by decide +kernel), List.mem_of_getElem? (i := 736) (by decide +kernel)⟩
theorem lw_p36 : lw_okq (⟨"FlatModuleModel", "isFunction", "(I)Z"⟩, 33) := ⟨⟨by decide +kernel, by decide +kernel⟩, List.mem_of_getElem? (i := 617) (by decide +kernel), List.mem_of_getElem? (i := 743) (by decide +kernel), List.mem_of_getElem? (i := 744) (by decide +kernel)⟩
theorem lw_p37 : lw_okq (⟨"FlatModuleModel", "checkFunction", "(I)I"⟩, 33) := ⟨⟨by decide +kernel, by decide +kernel⟩, List.mem_of_getElem? (i := 617) (by decide +kernel), List.mem_of_getElem? (i := 755) (by decide +kernel), List.mem_of_getElem? (i := 756) (by decide +kernel)⟩
theorem lw_p38 : lw_okq (⟨"FlatModuleModel", "begin", "(II)V"⟩, 33) := ⟨⟨by decide +kernel, by decide +kernel⟩, List.mem_of_getElem? (i := 617) (by decide +kernel), List.mem_of_getElem? (i := 759) (by decide +kernel), List.mem_of_getElem? (i := 760) (by decide +kernel)⟩
theorem lw_p39 : lw_okq (⟨"FlatModuleModel", "checkOne", "(III)V"⟩, 33) := ⟨⟨by decide +kernel, by decide +kernel⟩, List.mem_of_getElem? (i := 617) (by decide +kernel), List.mem_of_getElem? (i := 763) (by decide +kernel), List.mem_of_getElem? (i := 764) (by decide +kernel)⟩
theorem lw_p40 : lw_okq (⟨"FlatModuleModel", "put", "(I)V"⟩, 33) := ⟨⟨by decide +kernel, by decide +kernel⟩, List.mem_of_getElem? (i := 617) (by decide +kernel), List.mem_of_getElem? (i := 767) (by decide +kernel), List.mem_of_getElem? (i := 768) (by decide +kernel)⟩
theorem lw_p41 : lw_okq (⟨"FlatModuleModel", "checkLocal", "(III)V"⟩, 33) := ⟨⟨by decide +kernel, by decide +kernel⟩, List.mem_of_getElem? (i := 617) (by decide +kernel), List.mem_of_getElem? (i := 771) (by decide +kernel), List.mem_of_getElem? (i := 772) (by decide +kernel)⟩
theorem lw_p42 : lw_okq (⟨"FlatModuleModel", "wrong", "(I)V"⟩, 33) := ⟨⟨by decide +kernel, by decide +kernel⟩, List.mem_of_getElem? (i := 617) (by decide +kernel), List.mem_of_getElem? (i := 775) (by decide +kernel), List.mem_of_getElem? (i := 776) (by decide +kernel)⟩
theorem lw_p43 : lw_okq (⟨"FlatModuleModel", "take", "(I)I"⟩, 33) := ⟨⟨by decide +kernel, by decide +kernel⟩, List.mem_of_getElem? (i := 617) (by decide +kernel), List.mem_of_getElem? (i := 779) (by decide +kernel), List.mem_of_getElem? (i := 780) (by decide +kernel)⟩
theorem lw_p44 : lw_okq (⟨"FlatModuleModel", "checkGlobal", "(II)V"⟩, 33) := ⟨⟨by decide +kernel, by decide +kernel⟩, List.mem_of_getElem? (i := 617) (by decide +kernel), List.mem_of_getElem? (i := 783) (by decide +kernel), List.mem_of_getElem? (i := 784) (by decide +kernel)⟩
theorem lw_p45 : lw_okq (⟨"FlatModuleModel", "choose", "()V"⟩, 33) := ⟨⟨by decide +kernel, by decide +kernel⟩, List.mem_of_getElem? (i := 617) (by decide +kernel), List.mem_of_getElem? (i := 787) (by decide +kernel), List.mem_of_getElem? (i := 788) (by decide +kernel)⟩
theorem lw_p46 : lw_okq (⟨"FlatModuleModel", "two", "(II)V"⟩, 33) := ⟨⟨by decide +kernel, by decide +kernel⟩, List.mem_of_getElem? (i := 617) (by decide +kernel), List.mem_of_getElem? (i := 791) (by decide +kernel), List.mem_of_getElem? (i := 792) (by decide +kernel)⟩
theorem lw_p47 : lw_okq (⟨"FlatModuleModel", "checkFrame", "(II)V"⟩, 33) := ⟨⟨by decide +kernel, by decide +kernel⟩, List.mem_of_getElem? (i := 617) (by decide +kernel), List.mem_of_getElem? (i := 795) (by decide +kernel), List.mem_of_getElem? (i := 796) (by decide +kernel)⟩
def lw_privs_3 : List (MethodName × Nat) := [(⟨"FlatModule$Machine", "jump", "(LFlatModule$FlatCode;II)V"⟩, 9), (⟨"FlatModule$Machine", "callFunction", "(II)V"⟩, 9), (⟨"FlatModule$Machine", "valueOf", "(II)D"⟩, 9), (⟨"FlatModuleModel", "bad", "(Z)Z"⟩, 33), (⟨"FlatModuleModel", "isFunction", "(I)Z"⟩, 33), (⟨"FlatModuleModel", "checkFunction", "(I)I"⟩, 33), (⟨"FlatModuleModel", "begin", "(II)V"⟩, 33), (⟨"FlatModuleModel", "checkOne", "(III)V"⟩, 33), (⟨"FlatModuleModel", "put", "(I)V"⟩, 33), (⟨"FlatModuleModel", "checkLocal", "(III)V"⟩, 33), (⟨"FlatModuleModel", "wrong", "(I)V"⟩, 33), (⟨"FlatModuleModel", "take", "(I)I"⟩, 33), (⟨"FlatModuleModel", "checkGlobal", "(II)V"⟩, 33), (⟨"FlatModuleModel", "choose", "()V"⟩, 33), (⟨"FlatModuleModel", "two", "(II)V"⟩, 33), (⟨"FlatModuleModel", "checkFrame", "(II)V"⟩, 33)]
theorem lw_r3 : ∀ q ∈ lw_privs_3, lw_okq q := List.forall_mem_cons.mpr ⟨lw_p32, List.forall_mem_cons.mpr ⟨lw_p33, List.forall_mem_cons.mpr ⟨lw_p34, List.forall_mem_cons.mpr ⟨lw_p35, List.forall_mem_cons.mpr ⟨lw_p36, List.forall_mem_cons.mpr ⟨lw_p37, List.forall_mem_cons.mpr ⟨lw_p38, List.forall_mem_cons.mpr ⟨lw_p39, List.forall_mem_cons.mpr ⟨lw_p40, List.forall_mem_cons.mpr ⟨lw_p41, List.forall_mem_cons.mpr ⟨lw_p42, List.forall_mem_cons.mpr ⟨lw_p43, List.forall_mem_cons.mpr ⟨lw_p44, List.forall_mem_cons.mpr ⟨lw_p45, List.forall_mem_cons.mpr ⟨lw_p46, List.forall_mem_cons.mpr ⟨lw_p47, fun _ h => absurd h List.not_mem_nil⟩⟩⟩⟩⟩⟩⟩⟩⟩⟩⟩⟩⟩⟩⟩⟩
theorem lw_p48 : lw_okq (⟨"FlatModuleModel", "finish", "()V"⟩, 33) := ⟨⟨by decide +kernel, by decide +kernel⟩, List.mem_of_getElem? (i := 617) (by decide +kernel), List.mem_of_getElem? (i := 799) (by decide +kernel), List.mem_of_getElem? (i := 800) (by decide +kernel)⟩
theorem lw_p49 : lw_okq (⟨"FlatModuleModel", "jump", "(IZ)V"⟩, 33) := ⟨⟨by decide +kernel, by decide +kernel⟩, List.mem_of_getElem? (i := 617) (by decide +kernel), List.mem_of_getElem? (i := 803) (by decide +kernel), List.mem_of_getElem? (i := 804) (by decide +kernel)⟩
theorem lw_p50 : lw_okq (⟨"FlatModuleModel", "die", "()V"⟩, 33) := ⟨⟨by decide +kernel, by decide +kernel⟩, List.mem_of_getElem? (i := 617) (by decide +kernel), List.mem_of_getElem? (i := 807) (by decide +kernel), List.mem_of_getElem? (i := 808) (by decide +kernel)⟩
theorem lw_p51 : lw_okq (⟨"FlatModuleModel", "checkCall", "(I)V"⟩, 33) := ⟨⟨by decide +kernel, by decide +kernel⟩, List.mem_of_getElem? (i := 617) (by decide +kernel), List.mem_of_getElem? (i := 811) (by decide +kernel), List.mem_of_getElem? (i := 812) (by decide +kernel)⟩
theorem lw_p52 : lw_okq (⟨"FlatModuleModel", "pass", "(IID)V"⟩, 33) := ⟨⟨by decide +kernel, by decide +kernel⟩, List.mem_of_getElem? (i := 617) (by decide +kernel), List.mem_of_getElem? (i := 819) (by decide +kernel), List.mem_of_getElem? (i := 820) (by decide +kernel)⟩
theorem lw_p53 : lw_okq (⟨"FlatModuleModel", "push", "(IJD)V"⟩, 33) := ⟨⟨by decide +kernel, by decide +kernel⟩, List.mem_of_getElem? (i := 617) (by decide +kernel), List.mem_of_getElem? (i := 823) (by decide +kernel), List.mem_of_getElem? (i := 824) (by decide +kernel)⟩
theorem lw_p54 : lw_okq (⟨"FlatModuleModel", "enter", "(I)V"⟩, 33) := ⟨⟨by decide +kernel, by decide +kernel⟩, List.mem_of_getElem? (i := 617) (by decide +kernel), List.mem_of_getElem? (i := 827) (by decide +kernel), List.mem_of_getElem? (i := 828) (by decide +kernel)⟩
theorem lw_p55 : lw_okq (⟨"FlatModuleModel", "go", "(I)V"⟩, 33) := ⟨⟨by decide +kernel, by decide +kernel⟩, List.mem_of_getElem? (i := 617) (by decide +kernel), List.mem_of_getElem? (i := 831) (by decide +kernel), List.mem_of_getElem? (i := 832) (by decide +kernel)⟩
theorem lw_p56 : lw_okq (⟨"FlatModuleModel", "leave", "(I)V"⟩, 33) := ⟨⟨by decide +kernel, by decide +kernel⟩, List.mem_of_getElem? (i := 617) (by decide +kernel), List.mem_of_getElem? (i := 835) (by decide +kernel), List.mem_of_getElem? (i := 836) (by decide +kernel)⟩
theorem lw_p57 : lw_okq (⟨"FlatModuleModel", "keep", "(ZI)V"⟩, 33) := ⟨⟨by decide +kernel, by decide +kernel⟩, List.mem_of_getElem? (i := 617) (by decide +kernel), List.mem_of_getElem? (i := 839) (by decide +kernel), List.mem_of_getElem? (i := 840) (by decide +kernel)⟩
theorem lw_p58 : lw_okq (⟨"FlatModuleModel", "perform", "(IIII)V"⟩, 33) := ⟨⟨by decide +kernel, by decide +kernel⟩, List.mem_of_getElem? (i := 617) (by decide +kernel), List.mem_of_getElem? (i := 843) (by decide +kernel), List.mem_of_getElem? (i := 844) (by decide +kernel)⟩
theorem lw_p59 : lw_okq (⟨"FlatModuleModel", "choice", "()V"⟩, 33) := ⟨⟨by decide +kernel, by decide +kernel⟩, List.mem_of_getElem? (i := 617) (by decide +kernel), List.mem_of_getElem? (i := 849) (by decide +kernel), List.mem_of_getElem? (i := 850) (by decide +kernel)⟩
theorem lw_p60 : lw_okq (⟨"FlatModuleModel", "convert", "(II)V"⟩, 33) := ⟨⟨by decide +kernel, by decide +kernel⟩, List.mem_of_getElem? (i := 617) (by decide +kernel), List.mem_of_getElem? (i := 853) (by decide +kernel), List.mem_of_getElem? (i := 854) (by decide +kernel)⟩
theorem lw_p61 : lw_okq (⟨"FlatModuleModel", "openFrame", "(I)V"⟩, 33) := ⟨⟨by decide +kernel, by decide +kernel⟩, List.mem_of_getElem? (i := 617) (by decide +kernel), List.mem_of_getElem? (i := 862) (by decide +kernel), List.mem_of_getElem? (i := 863) (by decide +kernel)⟩
theorem lw_p62 : lw_okq (⟨"FlatModuleModel", "endOf", "(IIZ)I"⟩, 33) := ⟨⟨by decide +kernel, by decide +kernel⟩, List.mem_of_getElem? (i := 617) (by decide +kernel), List.mem_of_getElem? (i := 866) (by decide +kernel), List.mem_of_getElem? (i := 867) (by decide +kernel)⟩
theorem lw_p63 : lw_okq (⟨"FlatModuleModel", "jumpTo", "(II)V"⟩, 33) := ⟨⟨by decide +kernel, by decide +kernel⟩, List.mem_of_getElem? (i := 617) (by decide +kernel), List.mem_of_getElem? (i := 870) (by decide +kernel), List.mem_of_getElem? (i := 871) (by decide +kernel)⟩
def lw_privs_4 : List (MethodName × Nat) := [(⟨"FlatModuleModel", "finish", "()V"⟩, 33), (⟨"FlatModuleModel", "jump", "(IZ)V"⟩, 33), (⟨"FlatModuleModel", "die", "()V"⟩, 33), (⟨"FlatModuleModel", "checkCall", "(I)V"⟩, 33), (⟨"FlatModuleModel", "pass", "(IID)V"⟩, 33), (⟨"FlatModuleModel", "push", "(IJD)V"⟩, 33), (⟨"FlatModuleModel", "enter", "(I)V"⟩, 33), (⟨"FlatModuleModel", "go", "(I)V"⟩, 33), (⟨"FlatModuleModel", "leave", "(I)V"⟩, 33), (⟨"FlatModuleModel", "keep", "(ZI)V"⟩, 33), (⟨"FlatModuleModel", "perform", "(IIII)V"⟩, 33), (⟨"FlatModuleModel", "choice", "()V"⟩, 33), (⟨"FlatModuleModel", "convert", "(II)V"⟩, 33), (⟨"FlatModuleModel", "openFrame", "(I)V"⟩, 33), (⟨"FlatModuleModel", "endOf", "(IIZ)I"⟩, 33), (⟨"FlatModuleModel", "jumpTo", "(II)V"⟩, 33)]
theorem lw_r4 : ∀ q ∈ lw_privs_4, lw_okq q := List.forall_mem_cons.mpr ⟨lw_p48, List.forall_mem_cons.mpr ⟨lw_p49, List.forall_mem_cons.mpr ⟨lw_p50, List.forall_mem_cons.mpr ⟨lw_p51, List.forall_mem_cons.mpr ⟨lw_p52, List.forall_mem_cons.mpr ⟨lw_p53, List.forall_mem_cons.mpr ⟨lw_p54, List.forall_mem_cons.mpr ⟨lw_p55, List.forall_mem_cons.mpr ⟨lw_p56, List.forall_mem_cons.mpr ⟨lw_p57, List.forall_mem_cons.mpr ⟨lw_p58, List.forall_mem_cons.mpr ⟨lw_p59, List.forall_mem_cons.mpr ⟨lw_p60, List.forall_mem_cons.mpr ⟨lw_p61, List.forall_mem_cons.mpr ⟨lw_p62, List.forall_mem_cons.mpr ⟨lw_p63, fun _ h => absurd h List.not_mem_nil⟩⟩⟩⟩⟩⟩⟩⟩⟩⟩⟩⟩⟩⟩⟩⟩
theorem lw_p64 : lw_okq (⟨"FlatModuleModel", "arithmetic", "(II)V"⟩, 33) := ⟨⟨by decide +kernel, by decide +kernel⟩, List.mem_of_getElem? (i := 617) (by decide +kernel), List.mem_of_getElem? (i := 874) (by decide +kernel), List.mem_of_getElem? (i := 875) (by decide +kernel)⟩
theorem lw_p65 : lw_okq (⟨"FlatModuleModel", "fractions", "(IIDD)V"⟩, 33) := ⟨⟨by decide +kernel, by decide +kernel⟩, List.mem_of_getElem? (i := 617) (by decide +kernel), List.mem_of_getElem? (i := 878) (by decide +kernel), List.mem_of_getElem? (i := 879) (by decide +kernel)⟩
def lw_privs_5 : List (MethodName × Nat) := [(⟨"FlatModuleModel", "arithmetic", "(II)V"⟩, 33), (⟨"FlatModuleModel", "fractions", "(IIDD)V"⟩, 33)]
theorem lw_r5 : ∀ q ∈ lw_privs_5, lw_okq q := List.forall_mem_cons.mpr ⟨lw_p64, List.forall_mem_cons.mpr ⟨lw_p65, fun _ h => absurd h List.not_mem_nil⟩⟩
def lw_privs : List (MethodName × Nat) := lw_privs_1 ++ (lw_privs_2 ++ (lw_privs_3 ++ (lw_privs_4 ++ (lw_privs_5))))
def lw_tbl : List Cond := k2_sels lw_privs ++ tables_1
theorem lw_privs_ok : ∀ q ∈ lw_privs, lw_okq q := by
  show ∀ q ∈ lw_privs_1 ++ (lw_privs_2 ++ (lw_privs_3 ++ (lw_privs_4 ++ (lw_privs_5)))), lw_okq q
  exact List.forall_mem_append.mpr ⟨lw_r1, List.forall_mem_append.mpr ⟨lw_r2, List.forall_mem_append.mpr ⟨lw_r3, List.forall_mem_append.mpr ⟨lw_r4, lw_r5⟩⟩⟩⟩
end
section
/-! PURE VALUES, PURE MEMORY: what the machine does with the fixed graph of cells, said without heap and frames -/
/-- int, long, float, double, a reference (kind, number) -/
abbrev fm_V : Type := Int32 ⊕ Int64 ⊕ UInt32 ⊕ UInt64 ⊕ (Nat × Nat)
abbrev fm_A : Type := Nat → Nat → Nat
/-- ints, longs, doubles, references: by kind, number, slot -/
abbrev fm_M : Type := (Nat → Nat → Nat → Int32) × (Nat → Nat → Nat → Int64) × (Nat → Nat → Nat → UInt64) × (Nat → Nat → Nat → Nat × Nat)
/-- pc, locals, stack, memory -/
abbrev fm_C : Type := Nat × List (Nat × fm_V) × List fm_V × fm_M
def fm_cv (ad : fm_A) : fm_V → Value
  | .inl x => .int x
  | .inr (.inl x) => .long x
  | .inr (.inr (.inl x)) => .float x
  | .inr (.inr (.inr (.inl x))) => .double x
  | .inr (.inr (.inr (.inr q))) => .ref (ad q.1 q.2)
def fm_c2 : fm_V → Bool
  | .inr (.inl _) => true
  | .inr (.inr (.inr (.inl _))) => true
  | _ => false
def fm_u {α : Type} (f : Nat → Nat → Nat → α) (k i s : Nat) (x : α) : Nat → Nat → Nat → α := fun k' i' s' => cond (Nat.beq k' k && (Nat.beq s' s && Nat.beq i' i)) x (f k' i' s')
theorem fm_u_if {α : Type} (f : Nat → Nat → Nat → α) (k i s : Nat) (x : α) (k' i' s' : Nat) : fm_u f k i s x k' i' s' = if k' = k ∧ i' = i ∧ s' = s then x else f k' i' s' := by
  unfold fm_u
  by_cases h1 : k' = k
  · by_cases h2 : i' = i
    · by_cases h3 : s' = s
      · subst h1; subst h2; subst h3
        simp
      · have e : Nat.beq s' s = false := by rw [← Bool.not_eq_true]; exact fun z => h3 (Nat.eq_of_beq_eq_true z)
        simp [e, h3]
    · have e : Nat.beq i' i = false := by rw [← Bool.not_eq_true]; exact fun z => h2 (Nat.eq_of_beq_eq_true z)
      simp [e, h2]
  · have e : Nat.beq k' k = false := by rw [← Bool.not_eq_true]; exact fun z => h1 (Nat.eq_of_beq_eq_true z)
    simp [e, h1]
def fm_lk : List (Nat × fm_V) → Nat → Option fm_V
  | [], _ => none
  | (k, v) :: r, n => cond (Nat.beq k n) (some v) (fm_lk r n)
def fm_set1 (l : List (Nat × fm_V)) (n : Nat) (v : fm_V) : List (Nat × fm_V) := (n, v) :: l.filter (fun q => !(q.1 == n) && !(q.1 + 1 == n && fm_c2 q.2))
def fm_set2 (l : List (Nat × fm_V)) (n : Nat) (v : fm_V) : List (Nat × fm_V) := (n, v) :: l.filter (fun q => !(q.1 == n) && (!(q.1 == n + 1) && !(q.1 + 1 == n && fm_c2 q.2)))
theorem fm_cat (ad : fm_A) (v : fm_V) : ((fm_cv ad v).category == 2) = fm_c2 v := by
  rcases v with x | x | x | x | x <;> rfl
theorem fm_lk_mem {l : List (Nat × fm_V)} {n : Nat} {v : fm_V} (h : fm_lk l n = some v) : (n, v) ∈ l := by
  induction l with
  | nil => simp [fm_lk] at h
  | cons q r ih =>
    obtain ⟨k, w⟩ := q
    unfold fm_lk at h
    cases hb : Nat.beq k n with
    | true =>
      rw [hb] at h
      simp only [cond_true, Option.some.injEq] at h
      rw [Nat.eq_of_beq_eq_true hb, h]
      exact List.mem_cons_self
    | false =>
      rw [hb] at h
      exact List.mem_cons_of_mem _ (ih h)
abbrev fm_cl (ad : fm_A) (l : List (Nat × fm_V)) : List (Nat × Value) := l.map (fun q => (q.1, fm_cv ad q.2))
abbrev fm_cs (ad : fm_A) (st : List fm_V) : List Value := st.map (fm_cv ad)
theorem fm_set1_cl (ad : fm_A) (l : List (Nat × fm_V)) (n : Nat) (v : fm_V) : (n, fm_cv ad v) :: (fm_cl ad l).filter (fun q => !(q.1 == n) && !(q.1 + 1 == n && q.2.category == 2)) = fm_cl ad (fm_set1 l n v) := by
  simp only [fm_set1, fm_cl, List.map_cons, List.filter_map]
  congr 2
  apply List.filter_congr
  intro q _
  simp only [Function.comp, fm_cat]
theorem fm_set2_cl (ad : fm_A) (l : List (Nat × fm_V)) (n : Nat) (v : fm_V) : (n, fm_cv ad v) :: (fm_cl ad l).filter (fun q => !(q.1 == n) && (!(q.1 == n + 1) && !(q.1 + 1 == n && q.2.category == 2))) = fm_cl ad (fm_set2 l n v) := by
  simp only [fm_set2, fm_cl, List.map_cons, List.filter_map]
  congr 2
  apply List.filter_congr
  intro q _
  simp only [Function.comp, fm_cat]
theorem fm_lk_at {ls : Array Slot} {nL : Nat} {ad : fm_A} {l : List (Nat × fm_V)} {n : Nat} {v : fm_V} (h : lv_has ls nL (fm_cl ad l)) (hk : fm_lk l n = some v) : ls[n]? = some (.val (fm_cv ad v)) :=
  h.2.2 (n, fm_cv ad v) (List.mem_map.mpr ⟨(n, v), fm_lk_mem hk, rfl⟩)
/-- how many bytes an instruction has (a switch apart) -/
def fm_ln : Instr → Nat
  | .iload _ | .lload _ | .fload _ | .dload _ | .aload _ | .istore _ | .lstore _ | .fstore _ | .dstore _ | .astore _ | .ldc _ | .bipush _ | .newarray _ => 2
  | .sipush _ | .ldc2_w _ | .goto _ | .ifCond _ _ | .if_icmp _ _ | .iinc _ _ | .getfield _ | .putfield _ | .invokevirtual _ | .invokespecial _ | .invokestatic _ | .new _ | .anewarray _ => 3
  | _ => 1
end
section
/-! TABLES, by program (wip/tools/gen_tables.py): classes, fields, kinds of cells, links, constants -/
def fm_TB : List Cond := lw_tbl.filter goodWord
theorem fm_tb {w : Cond} (h : w ∈ tables_1) (hg : goodWord w = true) : w ∈ fm_TB := List.mem_filter.mpr ⟨List.mem_append_right _ h, hg⟩
theorem fm_in (ws : List Cond) (ps : List Nat) (h : ws = ps.filterMap (fun i => tables_1[i]?)) (hg : ws.all goodWord = true) : ∀ w ∈ ws, w ∈ fm_TB := by
  intro w hw
  have h1 := List.all_eq_true.mp hg w hw
  rw [h] at hw
  obtain ⟨i, -, hi⟩ := List.mem_filterMap.mp hw
  exact fm_tb (List.mem_of_getElem? hi) h1
def fm_cn (oc : Nat) : String := ["FlatModule", "FlatModule$Checker", "FlatModule$FlatCode", "FlatModule$Frame", "FlatModule$Function", "FlatModule$Machine", "FlatModuleModel", "FlatModule$Arithmetic", "FlatModuleLaw", "java/lang/Math"].getD oc ""
def fm_T0 : u_T := fun k => match k with
  | 0 => ("FlatModule", "functions", "[LFlatModule$Function;", true)
  | 1 => ("FlatModule", "checker", "LFlatModule$Checker;", true)
  | 2 => ("FlatModule", "machine", "LFlatModule$Machine;", true)
  | _ => ("FlatModule", "checked", "Z", false)
def fm_y0 : Nat → FieldType := fun k => match k with
  | 0 => (.array (.object "FlatModule$Function"))
  | 1 => (.object "FlatModule$Checker")
  | 2 => (.object "FlatModule$Machine")
  | _ => .boolean
theorem fm_in0 : ∀ w ∈ u_ws "FlatModule" fm_T0 4, w ∈ fm_TB := fm_in _ [223, 225, 227, 229] (by decide +kernel) (by decide +kernel)
theorem fm_ty0 : ∀ k, k < 4 → parseFieldDescriptor (fm_T0 k).2.2.1 = some (fm_y0 k) := by decide +kernel
theorem fm_nm0 : ∀ a, a < 4 → ∀ b, b < 4 → a ≠ b → (fm_T0 a).2.1 ≠ (fm_T0 b).2.1 := by decide +kernel
def fm_T1 : u_T := fun k => match k with
  | 0 => ("FlatModule$Checker", "functions", "[LFlatModule$Function;", false)
  | 1 => ("FlatModule$Checker", "current", "I", false)
  | 2 => ("FlatModule$Checker", "fault", "I", false)
  | 3 => ("FlatModule$Checker", "types", "[I", true)
  | 4 => ("FlatModule$Checker", "height", "I", false)
  | 5 => ("FlatModule$Checker", "frames", "[LFlatModule$Frame;", true)
  | _ => ("FlatModule$Checker", "open", "I", false)
def fm_y1 : Nat → FieldType := fun k => match k with
  | 0 => (.array (.object "FlatModule$Function"))
  | 1 => .int
  | 2 => .int
  | 3 => (.array .int)
  | 4 => .int
  | 5 => (.array (.object "FlatModule$Frame"))
  | _ => .int
theorem fm_in1 : ∀ w ∈ u_ws "FlatModule$Checker" fm_T1 7, w ∈ fm_TB := fm_in _ [78, 80, 82, 84, 86, 88, 90] (by decide +kernel) (by decide +kernel)
theorem fm_ty1 : ∀ k, k < 7 → parseFieldDescriptor (fm_T1 k).2.2.1 = some (fm_y1 k) := by decide +kernel
theorem fm_nm1 : ∀ a, a < 7 → ∀ b, b < 7 → a ≠ b → (fm_T1 a).2.1 ≠ (fm_T1 b).2.1 := by decide +kernel
def fm_T2 : u_T := fun k => match k with
  | 0 => ("FlatModule$FlatCode", "length", "I", false)
  | 1 => ("FlatModule$FlatCode", "ops", "[I", true)
  | 2 => ("FlatModule$FlatCode", "numbers", "[I", true)
  | 3 => ("FlatModule$FlatCode", "registers", "[I", true)
  | 4 => ("FlatModule$FlatCode", "homes", "[I", true)
  | 5 => ("FlatModule$FlatCode", "targets", "[I", true)
  | _ => ("FlatModule$FlatCode", "awaited", "[I", true)
def fm_y2 : Nat → FieldType := fun k => match k with
  | 0 => .int
  | 1 => (.array .int)
  | 2 => (.array .int)
  | 3 => (.array .int)
  | 4 => (.array .int)
  | 5 => (.array .int)
  | _ => (.array .int)
theorem fm_in2 : ∀ w ∈ u_ws "FlatModule$FlatCode" fm_T2 7, w ∈ fm_TB := fm_in _ [160, 162, 164, 166, 168, 170, 172] (by decide +kernel) (by decide +kernel)
theorem fm_ty2 : ∀ k, k < 7 → parseFieldDescriptor (fm_T2 k).2.2.1 = some (fm_y2 k) := by decide +kernel
theorem fm_nm2 : ∀ a, a < 7 → ∀ b, b < 7 → a ≠ b → (fm_T2 a).2.1 ≠ (fm_T2 b).2.1 := by decide +kernel
def fm_T3 : u_T := fun k => match k with
  | 0 => ("FlatModule$Frame", "kind", "I", false)
  | 1 => ("FlatModule$Frame", "gives", "I", false)
  | 2 => ("FlatModule$Frame", "base", "I", false)
  | 3 => ("FlatModule$Frame", "start", "I", false)
  | 4 => ("FlatModule$Frame", "branch", "I", false)
  | 5 => ("FlatModule$Frame", "openedInLiveCode", "Z", false)
  | _ => ("FlatModule$Frame", "dead", "Z", false)
def fm_y3 : Nat → FieldType := fun k => match k with
  | 0 => .int
  | 1 => .int
  | 2 => .int
  | 3 => .int
  | 4 => .int
  | 5 => .boolean
  | _ => .boolean
theorem fm_in3 : ∀ w ∈ u_ws "FlatModule$Frame" fm_T3 7, w ∈ fm_TB := fm_in _ [55, 57, 59, 61, 63, 65, 67] (by decide +kernel) (by decide +kernel)
theorem fm_ty3 : ∀ k, k < 7 → parseFieldDescriptor (fm_T3 k).2.2.1 = some (fm_y3 k) := by decide +kernel
theorem fm_nm3 : ∀ a, a < 7 → ∀ b, b < 7 → a ≠ b → (fm_T3 a).2.1 ≠ (fm_T3 b).2.1 := by decide +kernel
def fm_T4 : u_T := fun k => match k with
  | 0 => ("FlatModule$Function", "there", "Z", false)
  | 1 => ("FlatModule$Function", "parameters", "I", false)
  | 2 => ("FlatModule$Function", "locals", "I", false)
  | 3 => ("FlatModule$Function", "result", "I", false)
  | 4 => ("FlatModule$Function", "length", "I", false)
  | 5 => ("FlatModule$Function", "types", "[I", true)
  | 6 => ("FlatModule$Function", "ops", "[I", true)
  | 7 => ("FlatModule$Function", "numbers", "[I", true)
  | _ => ("FlatModule$Function", "flat", "LFlatModule$FlatCode;", true)
def fm_y4 : Nat → FieldType := fun k => match k with
  | 0 => .boolean
  | 1 => .int
  | 2 => .int
  | 3 => .int
  | 4 => .int
  | 5 => (.array .int)
  | 6 => (.array .int)
  | 7 => (.array .int)
  | _ => (.object "FlatModule$FlatCode")
theorem fm_in4 : ∀ w ∈ u_ws "FlatModule$Function" fm_T4 9, w ∈ fm_TB := fm_in _ [200, 202, 204, 206, 208, 210, 212, 214, 216] (by decide +kernel) (by decide +kernel)
theorem fm_ty4 : ∀ k, k < 9 → parseFieldDescriptor (fm_T4 k).2.2.1 = some (fm_y4 k) := by decide +kernel
theorem fm_nm4 : ∀ a, a < 9 → ∀ b, b < 9 → a ≠ b → (fm_T4 a).2.1 ≠ (fm_T4 b).2.1 := by decide +kernel
def fm_T5 : u_T := fun k => match k with
  | 0 => ("FlatModule$Machine", "used", "I", false)
  | 1 => ("FlatModule$Machine", "deepest", "I", false)
  | 2 => ("FlatModule$Machine", "functions", "[LFlatModule$Function;", false)
  | 3 => ("FlatModule$Machine", "wholes", "[J", true)
  | 4 => ("FlatModule$Machine", "fractions", "[D", true)
  | 5 => ("FlatModule$Machine", "depth", "I", false)
  | 6 => ("FlatModule$Machine", "base", "I", false)
  | 7 => ("FlatModule$Machine", "called", "[I", true)
  | _ => ("FlatModule$Machine", "nextRows", "[I", true)
def fm_y5 : Nat → FieldType := fun k => match k with
  | 0 => .int
  | 1 => .int
  | 2 => (.array (.object "FlatModule$Function"))
  | 3 => (.array .long)
  | 4 => (.array .double)
  | 5 => .int
  | 6 => .int
  | 7 => (.array .int)
  | _ => (.array .int)
theorem fm_in5 : ∀ w ∈ u_ws "FlatModule$Machine" fm_T5 9, w ∈ fm_TB := fm_in _ [111, 113, 115, 117, 119, 121, 123, 125, 127] (by decide +kernel) (by decide +kernel)
theorem fm_ty5 : ∀ k, k < 9 → parseFieldDescriptor (fm_T5 k).2.2.1 = some (fm_y5 k) := by decide +kernel
theorem fm_nm5 : ∀ a, a < 9 → ∀ b, b < 9 → a ≠ b → (fm_T5 a).2.1 ≠ (fm_T5 b).2.1 := by decide +kernel
def fm_T6 : u_T := fun k => match k with
  | 0 => ("FlatModuleModel", "op", "[I", true)
  | 1 => ("FlatModuleModel", "number", "[I", true)
  | 2 => ("FlatModuleModel", "size", "[I", true)
  | 3 => ("FlatModuleModel", "parameters", "[I", true)
  | 4 => ("FlatModuleModel", "locals", "[I", true)
  | 5 => ("FlatModuleModel", "type", "[I", true)
  | 6 => ("FlatModuleModel", "result", "[I", true)
  | 7 => ("FlatModuleModel", "there", "[Z", true)
  | 8 => ("FlatModuleModel", "globalLong", "[J", true)
  | 9 => ("FlatModuleModel", "globalDouble", "[D", true)
  | 10 => ("FlatModuleModel", "stack", "[I", true)
  | 11 => ("FlatModuleModel", "base", "[I", true)
  | 12 => ("FlatModuleModel", "gives", "[I", true)
  | 13 => ("FlatModuleModel", "opened", "[I", true)
  | 14 => ("FlatModuleModel", "dead", "[Z", true)
  | 15 => ("FlatModuleModel", "height", "I", false)
  | 16 => ("FlatModuleModel", "frames", "I", false)
  | 17 => ("FlatModuleModel", "fault", "I", false)
  | 18 => ("FlatModuleModel", "thrown", "I", false)
  | 19 => ("FlatModuleModel", "checked", "Z", false)
  | 20 => ("FlatModuleModel", "whole", "[J", true)
  | 21 => ("FlatModuleModel", "fraction", "[D", true)
  | 22 => ("FlatModuleModel", "function", "[I", true)
  | 23 => ("FlatModuleModel", "place", "[I", true)
  | 24 => ("FlatModuleModel", "bottom", "[I", true)
  | 25 => ("FlatModuleModel", "openAt", "[I", true)
  | 26 => ("FlatModuleModel", "openHeight", "[I", true)
  | 27 => ("FlatModuleModel", "openBase", "[I", true)
  | 28 => ("FlatModuleModel", "top", "I", false)
  | 29 => ("FlatModuleModel", "calls", "I", false)
  | 30 => ("FlatModuleModel", "open", "I", false)
  | 31 => ("FlatModuleModel", "used", "I", false)
  | _ => ("FlatModuleModel", "deepest", "I", false)
def fm_y6 : Nat → FieldType := fun k => match k with
  | 0 => (.array .int)
  | 1 => (.array .int)
  | 2 => (.array .int)
  | 3 => (.array .int)
  | 4 => (.array .int)
  | 5 => (.array .int)
  | 6 => (.array .int)
  | 7 => (.array .boolean)
  | 8 => (.array .long)
  | 9 => (.array .double)
  | 10 => (.array .int)
  | 11 => (.array .int)
  | 12 => (.array .int)
  | 13 => (.array .int)
  | 14 => (.array .boolean)
  | 15 => .int
  | 16 => .int
  | 17 => .int
  | 18 => .int
  | 19 => .boolean
  | 20 => (.array .long)
  | 21 => (.array .double)
  | 22 => (.array .int)
  | 23 => (.array .int)
  | 24 => (.array .int)
  | 25 => (.array .int)
  | 26 => (.array .int)
  | 27 => (.array .int)
  | 28 => .int
  | 29 => .int
  | 30 => .int
  | 31 => .int
  | _ => .int
theorem fm_in6 : ∀ w ∈ u_ws "FlatModuleModel" fm_T6 33, w ∈ fm_TB := fm_in _ [655, 657, 659, 661, 663, 665, 667, 669, 671, 673, 675, 677, 679, 681, 683, 685, 687, 689, 691, 693, 695, 697, 699, 701, 703, 705, 707, 709, 711, 713, 715, 717, 719] (by decide +kernel) (by decide +kernel)
theorem fm_ty6 : ∀ k, k < 33 → parseFieldDescriptor (fm_T6 k).2.2.1 = some (fm_y6 k) := by decide +kernel
theorem fm_nm6 : ∀ a, a < 33 → ∀ b, b < 33 → a ≠ b → (fm_T6 a).2.1 ≠ (fm_T6 b).2.1 := by decide +kernel
abbrev fm_cls : List vw_C := [("FlatModule", fm_T0, 4), ("FlatModule$Checker", fm_T1, 7), ("FlatModule$FlatCode", fm_T2, 7), ("FlatModule$Frame", fm_T3, 7), ("FlatModule$Function", fm_T4, 9), ("FlatModule$Machine", fm_T5, 9), ("FlatModuleModel", fm_T6, 33)]
def fm_nf (ci : Nat) : Nat := [4, 7, 7, 7, 9, 9, 33].getD ci 0
/-- 0 int, 1 boolean, 2 reference -/
def fm_ft (ci s : Nat) : Nat := ([[2, 2, 2, 1], [2, 0, 0, 2, 0, 2, 0], [0, 2, 2, 2, 2, 2, 2], [0, 0, 0, 0, 0, 1, 1], [1, 0, 0, 0, 0, 2, 2, 2, 2], [0, 0, 2, 2, 2, 0, 0, 2, 2], [2, 2, 2, 2, 2, 2, 2, 2, 2, 2, 2, 2, 2, 2, 2, 0, 0, 0, 0, 1, 2, 2, 2, 2, 2, 2, 2, 2, 0, 0, 0, 0, 0]].getD ci []).getD s 0
def fm_fin (ci s : Nat) : Bool := ([[true, true, true, false], [false, false, false, true, false, true, false], [false, true, true, true, true, true, true], [false, false, false, false, false, false, false], [false, false, false, false, false, true, true, true, true], [false, false, false, true, true, false, false, true, true], [true, true, true, true, true, true, true, true, true, true, true, true, true, true, true, false, false, false, false, false, true, true, true, true, true, true, true, true, false, false, false, false, false]].getD ci []).getD s true
/-- the class of a kind of objects -/
def fm_kc (k : Nat) : Option Nat := cond (Nat.blt k 13) (cond (Nat.blt k 2) (cond (Nat.beq k 0) (some 0) (none)) (cond (Nat.blt k 6) (cond (Nat.beq k 2) (some 4) (none)) (cond (Nat.beq k 6) (some 2) (none)))) (cond (Nat.blt k 18) (cond (Nat.blt k 17) (cond (Nat.beq k 13) (some 1) (none)) (cond (Nat.beq k 17) (some 3) (none))) (cond (Nat.blt k 24) (cond (Nat.beq k 18) (some 5) (none)) (cond (Nat.beq k 24) (some 6) (none))))
/-- what a kind of arrays holds (0 int, 1 long, 2 double, 3 boolean, 4 Function, 5 Frame), and how long they are -/
def fm_ka (k : Nat) : Option (Nat × Nat) := cond (Nat.blt k 28) (cond (Nat.blt k 14) (cond (Nat.blt k 8) (cond (Nat.blt k 4) (cond (Nat.blt k 3) (cond (Nat.beq k 1) (some (4, 4)) (none)) (cond (Nat.beq k 3) (some (0, 6)) (none))) (cond (Nat.blt k 5) (cond (Nat.beq k 4) (some (0, 40)) (none)) (cond (Nat.blt k 7) (cond (Nat.beq k 5) (some (0, 40)) (none)) (cond (Nat.beq k 7) (some (0, 40)) (none))))) (cond (Nat.blt k 10) (cond (Nat.blt k 9) (cond (Nat.beq k 8) (some (0, 40)) (none)) (cond (Nat.beq k 9) (some (0, 40)) (none))) (cond (Nat.blt k 11) (cond (Nat.beq k 10) (some (0, 40)) (none)) (cond (Nat.blt k 12) (cond (Nat.beq k 11) (some (0, 40)) (none)) (cond (Nat.beq k 12) (some (0, 40)) (none)))))) (cond (Nat.blt k 21) (cond (Nat.blt k 16) (cond (Nat.blt k 15) (cond (Nat.beq k 14) (some (4, 0)) (none)) (cond (Nat.beq k 15) (some (0, 20)) (none))) (cond (Nat.blt k 19) (cond (Nat.beq k 16) (some (5, 9)) (none)) (cond (Nat.blt k 20) (cond (Nat.beq k 19) (some (4, 0)) (none)) (cond (Nat.beq k 20) (some (1, 212)) (none))))) (cond (Nat.blt k 25) (cond (Nat.blt k 22) (cond (Nat.beq k 21) (some (2, 212)) (none)) (cond (Nat.blt k 23) (cond (Nat.beq k 22) (some (0, 8)) (none)) (cond (Nat.beq k 23) (some (0, 8)) (none)))) (cond (Nat.blt k 26) (cond (Nat.beq k 25) (some (0, 160)) (none)) (cond (Nat.blt k 27) (cond (Nat.beq k 26) (some (0, 160)) (none)) (cond (Nat.beq k 27) (some (0, 4)) (none))))))) (cond (Nat.blt k 39) (cond (Nat.blt k 33) (cond (Nat.blt k 30) (cond (Nat.blt k 29) (cond (Nat.beq k 28) (some (0, 4)) (none)) (cond (Nat.beq k 29) (some (0, 4)) (none))) (cond (Nat.blt k 31) (cond (Nat.beq k 30) (some (0, 24)) (none)) (cond (Nat.blt k 32) (cond (Nat.beq k 31) (some (0, 4)) (none)) (cond (Nat.beq k 32) (some (3, 4)) (none))))) (cond (Nat.blt k 36) (cond (Nat.blt k 34) (cond (Nat.beq k 33) (some (1, 4)) (none)) (cond (Nat.blt k 35) (cond (Nat.beq k 34) (some (2, 4)) (none)) (cond (Nat.beq k 35) (some (0, 24)) (none)))) (cond (Nat.blt k 37) (cond (Nat.beq k 36) (some (0, 12)) (none)) (cond (Nat.blt k 38) (cond (Nat.beq k 37) (some (0, 12)) (none)) (cond (Nat.beq k 38) (some (0, 12)) (none)))))) (cond (Nat.blt k 44) (cond (Nat.blt k 41) (cond (Nat.blt k 40) (cond (Nat.beq k 39) (some (3, 12)) (none)) (cond (Nat.beq k 40) (some (1, 260)) (none))) (cond (Nat.blt k 42) (cond (Nat.beq k 41) (some (2, 260)) (none)) (cond (Nat.blt k 43) (cond (Nat.beq k 42) (some (0, 10)) (none)) (cond (Nat.beq k 43) (some (0, 10)) (none))))) (cond (Nat.blt k 47) (cond (Nat.blt k 45) (cond (Nat.beq k 44) (some (0, 10)) (none)) (cond (Nat.blt k 46) (cond (Nat.beq k 45) (some (0, 90)) (none)) (cond (Nat.beq k 46) (some (0, 90)) (none)))) (cond (Nat.blt k 48) (cond (Nat.beq k 47) (some (0, 10)) (none)) (cond (Nat.blt k 49) (cond (Nat.beq k 48) (some (1, 1)) (none)) (cond (Nat.beq k 49) (some (2, 1)) (none)))))))
def fm_cnt (k : Nat) : Nat := [1, 1, 4, 4, 4, 4, 4, 4, 4, 4, 4, 4, 4, 1, 1, 1, 1, 9, 1, 1, 1, 1, 1, 1, 1, 1, 1, 1, 1, 1, 1, 1, 1, 1, 1, 1, 1, 1, 1, 1, 1, 1, 1, 1, 1, 1, 1, 1, 1, 1, 1].getD k 0
def fm_ki : List (Nat × Nat) := [(0, 0), (1, 0), (2, 0), (2, 1), (2, 2), (2, 3), (3, 0), (3, 1), (3, 2), (3, 3), (4, 0), (4, 1), (4, 2), (4, 3), (5, 0), (5, 1), (5, 2), (5, 3), (6, 0), (6, 1), (6, 2), (6, 3), (7, 0), (7, 1), (7, 2), (7, 3), (8, 0), (8, 1), (8, 2), (8, 3), (9, 0), (9, 1), (9, 2), (9, 3), (10, 0), (10, 1), (10, 2), (10, 3), (11, 0), (11, 1), (11, 2), (11, 3), (12, 0), (12, 1), (12, 2), (12, 3), (13, 0), (14, 0), (15, 0), (16, 0), (17, 0), (17, 1), (17, 2), (17, 3), (17, 4), (17, 5), (17, 6), (17, 7), (17, 8), (18, 0), (19, 0), (20, 0), (21, 0), (22, 0), (23, 0), (24, 0), (25, 0), (26, 0), (27, 0), (28, 0), (29, 0), (30, 0), (31, 0), (32, 0), (33, 0), (34, 0), (35, 0), (36, 0), (37, 0), (38, 0), (39, 0), (40, 0), (41, 0), (42, 0), (43, 0), (44, 0), (45, 0), (46, 0), (47, 0), (48, 0), (49, 0)]
def fm_fl0 (k : Nat) : Option (Nat × Nat) := cond (Nat.blt k 49) (cond (Nat.blt k 25) (cond (Nat.blt k 18) (cond (Nat.beq k 11) (some (0, 0)) (none)) (cond (Nat.beq k 18) (some (0, 1)) (none))) (cond (Nat.blt k 41) (cond (Nat.beq k 25) (some (0, 2)) (none)) (cond (Nat.beq k 41) (some (0, 3)) (none)))) (cond (Nat.blt k 91) (cond (Nat.blt k 60) (cond (Nat.beq k 49) (some (4, 4)) (none)) (cond (Nat.beq k 60) (some (4, 0)) (none))) (cond (Nat.blt k 94) (cond (Nat.beq k 91) (some (5, 0)) (none)) (cond (Nat.beq k 94) (some (5, 1)) (none))))
def fm_fll0 : List (Nat × Nat × Nat) := [(11, 0, 0), (18, 0, 1), (25, 0, 2), (41, 0, 3), (49, 4, 4), (60, 4, 0), (91, 5, 0), (94, 5, 1)]
theorem fm_flw0 : ∀ w ∈ fm_fll0.map (fun q => Cond.fieldLink "FlatModule" q.1 (fm_cls.getD q.2.1 ("", fm_T0, 0)).1 ((fm_cls.getD q.2.1 ("", fm_T0, 0)).2.1 q.2.2).2.1 ((fm_cls.getD q.2.1 ("", fm_T0, 0)).2.1 q.2.2).2.2.1), w ∈ fm_TB := fm_in _ [219, 220, 221, 222, 189, 176, 101, 103] (by decide +kernel) (by decide +kernel)
def fm_fl1 (k : Nat) : Option (Nat × Nat) := cond (Nat.blt k 90) (cond (Nat.blt k 38) (cond (Nat.blt k 28) (cond (Nat.blt k 17) (cond (Nat.beq k 11) (some (1, 0)) (none)) (cond (Nat.blt k 23) (cond (Nat.beq k 17) (some (1, 3)) (none)) (cond (Nat.beq k 23) (some (1, 5)) (none)))) (cond (Nat.blt k 32) (cond (Nat.beq k 28) (some (1, 1)) (none)) (cond (Nat.blt k 35) (cond (Nat.beq k 32) (some (1, 2)) (none)) (cond (Nat.beq k 35) (some (1, 4)) (none))))) (cond (Nat.blt k 54) (cond (Nat.blt k 45) (cond (Nat.beq k 38) (some (1, 6)) (none)) (cond (Nat.blt k 49) (cond (Nat.beq k 45) (some (4, 8)) (none)) (cond (Nat.beq k 49) (some (2, 0)) (none)))) (cond (Nat.blt k 61) (cond (Nat.blt k 60) (cond (Nat.beq k 54) (some (4, 3)) (none)) (cond (Nat.beq k 60) (some (4, 4)) (none))) (cond (Nat.blt k 64) (cond (Nat.beq k 61) (some (4, 6)) (none)) (cond (Nat.beq k 64) (some (4, 7)) (none)))))) (cond (Nat.blt k 144) (cond (Nat.blt k 116) (cond (Nat.blt k 96) (cond (Nat.beq k 90) (some (4, 2)) (none)) (cond (Nat.blt k 104) (cond (Nat.beq k 96) (some (4, 0)) (none)) (cond (Nat.beq k 104) (some (4, 5)) (none)))) (cond (Nat.blt k 135) (cond (Nat.blt k 129) (cond (Nat.beq k 116) (some (3, 4)) (none)) (cond (Nat.beq k 129) (some (3, 0)) (none))) (cond (Nat.blt k 141) (cond (Nat.beq k 135) (some (2, 6)) (none)) (cond (Nat.beq k 141) (some (3, 6)) (none))))) (cond (Nat.blt k 169) (cond (Nat.blt k 150) (cond (Nat.beq k 144) (some (3, 1)) (none)) (cond (Nat.blt k 166) (cond (Nat.beq k 150) (some (3, 2)) (none)) (cond (Nat.beq k 166) (some (2, 4)) (none)))) (cond (Nat.blt k 175) (cond (Nat.blt k 172) (cond (Nat.beq k 169) (some (2, 5)) (none)) (cond (Nat.beq k 172) (some (3, 3)) (none))) (cond (Nat.blt k 178) (cond (Nat.beq k 175) (some (4, 1)) (none)) (cond (Nat.beq k 178) (some (3, 5)) (none))))))
def fm_fll1 : List (Nat × Nat × Nat) := [(11, 1, 0), (17, 1, 3), (23, 1, 5), (28, 1, 1), (32, 1, 2), (35, 1, 4), (38, 1, 6), (45, 4, 8), (49, 2, 0), (54, 4, 3), (60, 4, 4), (61, 4, 6), (64, 4, 7), (90, 4, 2), (96, 4, 0), (104, 4, 5), (116, 3, 4), (129, 3, 0), (135, 2, 6), (141, 3, 6), (144, 3, 1), (150, 3, 2), (166, 2, 4), (169, 2, 5), (172, 3, 3), (175, 4, 1), (178, 3, 5)]
theorem fm_flw1 : ∀ w ∈ fm_fll1.map (fun q => Cond.fieldLink "FlatModule$Checker" q.1 (fm_cls.getD q.2.1 ("", fm_T0, 0)).1 ((fm_cls.getD q.2.1 ("", fm_T0, 0)).2.1 q.2.2).2.1 ((fm_cls.getD q.2.1 ("", fm_T0, 0)).2.1 q.2.2).2.2.1), w ∈ fm_TB := fm_in _ [71, 74, 76, 72, 73, 75, 77, 198, 144, 185, 188, 194, 196, 183, 177, 192, 50, 42, 159, 54, 44, 46, 153, 156, 48, 180, 52] (by decide +kernel) (by decide +kernel)
def fm_fl2 (k : Nat) : Option (Nat × Nat) := cond (Nat.blt k 21) (cond (Nat.blt k 15) (cond (Nat.beq k 9) (some (2, 1)) (none)) (cond (Nat.blt k 18) (cond (Nat.beq k 15) (some (2, 2)) (none)) (cond (Nat.beq k 18) (some (2, 3)) (none)))) (cond (Nat.blt k 27) (cond (Nat.blt k 24) (cond (Nat.beq k 21) (some (2, 4)) (none)) (cond (Nat.beq k 24) (some (2, 5)) (none))) (cond (Nat.blt k 30) (cond (Nat.beq k 27) (some (2, 6)) (none)) (cond (Nat.beq k 30) (some (2, 0)) (none))))
def fm_fll2 : List (Nat × Nat × Nat) := [(9, 2, 1), (15, 2, 2), (18, 2, 3), (21, 2, 4), (24, 2, 5), (27, 2, 6), (30, 2, 0)]
theorem fm_flw2 : ∀ w ∈ fm_fll2.map (fun q => Cond.fieldLink "FlatModule$FlatCode" q.1 (fm_cls.getD q.2.1 ("", fm_T0, 0)).1 ((fm_cls.getD q.2.1 ("", fm_T0, 0)).2.1 q.2.2).2.1 ((fm_cls.getD q.2.1 ("", fm_T0, 0)).2.1 q.2.2).2.2.1), w ∈ fm_TB := fm_in _ [146, 148, 150, 152, 155, 158, 143] (by decide +kernel) (by decide +kernel)
def fm_fl3 (k : Nat) : Option (Nat × Nat) := cond (Nat.blt k 21) (cond (Nat.blt k 15) (cond (Nat.beq k 9) (some (3, 0)) (none)) (cond (Nat.blt k 18) (cond (Nat.beq k 15) (some (3, 1)) (none)) (cond (Nat.beq k 18) (some (3, 2)) (none)))) (cond (Nat.blt k 29) (cond (Nat.blt k 26) (cond (Nat.beq k 21) (some (3, 3)) (none)) (cond (Nat.beq k 26) (some (3, 4)) (none))) (cond (Nat.blt k 33) (cond (Nat.beq k 29) (some (3, 5)) (none)) (cond (Nat.beq k 33) (some (3, 6)) (none))))
def fm_fll3 : List (Nat × Nat × Nat) := [(9, 3, 0), (15, 3, 1), (18, 3, 2), (21, 3, 3), (26, 3, 4), (29, 3, 5), (33, 3, 6)]
theorem fm_flw3 : ∀ w ∈ fm_fll3.map (fun q => Cond.fieldLink "FlatModule$Frame" q.1 (fm_cls.getD q.2.1 ("", fm_T0, 0)).1 ((fm_cls.getD q.2.1 ("", fm_T0, 0)).2.1 q.2.2).2.1 ((fm_cls.getD q.2.1 ("", fm_T0, 0)).2.1 q.2.2).2.2.1), w ∈ fm_TB := fm_in _ [41, 43, 45, 47, 49, 51, 53] (by decide +kernel) (by decide +kernel)
def fm_fl4 (k : Nat) : Option (Nat × Nat) := cond (Nat.blt k 28) (cond (Nat.blt k 18) (cond (Nat.blt k 15) (cond (Nat.beq k 9) (some (4, 5)) (none)) (cond (Nat.beq k 15) (some (4, 6)) (none))) (cond (Nat.blt k 24) (cond (Nat.beq k 18) (some (4, 7)) (none)) (cond (Nat.beq k 24) (some (4, 8)) (none)))) (cond (Nat.blt k 36) (cond (Nat.blt k 32) (cond (Nat.beq k 28) (some (4, 0)) (none)) (cond (Nat.beq k 32) (some (4, 1)) (none))) (cond (Nat.blt k 39) (cond (Nat.beq k 36) (some (4, 2)) (none)) (cond (Nat.blt k 42) (cond (Nat.beq k 39) (some (4, 3)) (none)) (cond (Nat.beq k 42) (some (4, 4)) (none)))))
def fm_fll4 : List (Nat × Nat × Nat) := [(9, 4, 5), (15, 4, 6), (18, 4, 7), (24, 4, 8), (28, 4, 0), (32, 4, 1), (36, 4, 2), (39, 4, 3), (42, 4, 4)]
theorem fm_flw4 : ∀ w ∈ fm_fll4.map (fun q => Cond.fieldLink "FlatModule$Function" q.1 (fm_cls.getD q.2.1 ("", fm_T0, 0)).1 ((fm_cls.getD q.2.1 ("", fm_T0, 0)).2.1 q.2.2).2.1 ((fm_cls.getD q.2.1 ("", fm_T0, 0)).2.1 q.2.2).2.2.1), w ∈ fm_TB := fm_in _ [190, 193, 195, 197, 175, 178, 181, 184, 187] (by decide +kernel) (by decide +kernel)
def fm_fl5 (k : Nat) : Option (Nat × Nat) := cond (Nat.blt k 67) (cond (Nat.blt k 32) (cond (Nat.blt k 21) (cond (Nat.blt k 17) (cond (Nat.beq k 13) (some (5, 2)) (none)) (cond (Nat.beq k 17) (some (5, 3)) (none))) (cond (Nat.blt k 25) (cond (Nat.beq k 21) (some (5, 4)) (none)) (cond (Nat.blt k 29) (cond (Nat.beq k 25) (some (5, 7)) (none)) (cond (Nat.beq k 29) (some (5, 8)) (none))))) (cond (Nat.blt k 39) (cond (Nat.blt k 36) (cond (Nat.beq k 32) (some (5, 0)) (none)) (cond (Nat.beq k 36) (some (5, 1)) (none))) (cond (Nat.blt k 46) (cond (Nat.beq k 39) (some (5, 5)) (none)) (cond (Nat.blt k 49) (cond (Nat.beq k 46) (some (4, 1)) (none)) (cond (Nat.beq k 49) (some (4, 5)) (none)))))) (cond (Nat.blt k 99) (cond (Nat.blt k 77) (cond (Nat.blt k 70) (cond (Nat.beq k 67) (some (4, 3)) (none)) (cond (Nat.beq k 70) (some (4, 2)) (none))) (cond (Nat.blt k 86) (cond (Nat.beq k 77) (some (5, 6)) (none)) (cond (Nat.blt k 90) (cond (Nat.beq k 86) (some (4, 8)) (none)) (cond (Nat.beq k 90) (some (2, 0)) (none))))) (cond (Nat.blt k 109) (cond (Nat.blt k 106) (cond (Nat.beq k 99) (some (2, 3)) (none)) (cond (Nat.beq k 106) (some (2, 1)) (none))) (cond (Nat.blt k 145) (cond (Nat.beq k 109) (some (2, 2)) (none)) (cond (Nat.blt k 151) (cond (Nat.beq k 145) (some (2, 5)) (none)) (cond (Nat.beq k 151) (some (2, 4)) (none))))))
def fm_fll5 : List (Nat × Nat × Nat) := [(13, 5, 2), (17, 5, 3), (21, 5, 4), (25, 5, 7), (29, 5, 8), (32, 5, 0), (36, 5, 1), (39, 5, 5), (46, 4, 1), (49, 4, 5), (67, 4, 3), (70, 4, 2), (77, 5, 6), (86, 4, 8), (90, 2, 0), (99, 2, 3), (106, 2, 1), (109, 2, 2), (145, 2, 5), (151, 2, 4)]
theorem fm_flw5 : ∀ w ∈ fm_fll5.map (fun q => Cond.fieldLink "FlatModule$Machine" q.1 (fm_cls.getD q.2.1 ("", fm_T0, 0)).1 ((fm_cls.getD q.2.1 ("", fm_T0, 0)).2.1 q.2.2).2.1 ((fm_cls.getD q.2.1 ("", fm_T0, 0)).2.1 q.2.2).2.2.1), w ∈ fm_TB := fm_in _ [104, 105, 106, 109, 110, 100, 102, 107, 179, 191, 186, 182, 108, 199, 145, 151, 147, 149, 157, 154] (by decide +kernel) (by decide +kernel)
def fm_fl6 (k : Nat) : Option (Nat × Nat) := cond (Nat.blt k 61) (cond (Nat.blt k 35) (cond (Nat.blt k 22) (cond (Nat.blt k 16) (cond (Nat.blt k 13) (cond (Nat.beq k 7) (some (6, 0)) (none)) (cond (Nat.beq k 13) (some (6, 1)) (none))) (cond (Nat.blt k 19) (cond (Nat.beq k 16) (some (6, 2)) (none)) (cond (Nat.beq k 19) (some (6, 3)) (none)))) (cond (Nat.blt k 28) (cond (Nat.blt k 25) (cond (Nat.beq k 22) (some (6, 4)) (none)) (cond (Nat.beq k 25) (some (6, 5)) (none))) (cond (Nat.blt k 31) (cond (Nat.beq k 28) (some (6, 6)) (none)) (cond (Nat.beq k 31) (some (6, 7)) (none))))) (cond (Nat.blt k 49) (cond (Nat.blt k 43) (cond (Nat.blt k 39) (cond (Nat.beq k 35) (some (6, 8)) (none)) (cond (Nat.beq k 39) (some (6, 9)) (none))) (cond (Nat.blt k 46) (cond (Nat.beq k 43) (some (6, 10)) (none)) (cond (Nat.beq k 46) (some (6, 11)) (none)))) (cond (Nat.blt k 55) (cond (Nat.blt k 52) (cond (Nat.beq k 49) (some (6, 12)) (none)) (cond (Nat.beq k 52) (some (6, 13)) (none))) (cond (Nat.blt k 58) (cond (Nat.beq k 55) (some (6, 14)) (none)) (cond (Nat.beq k 58) (some (6, 20)) (none)))))) (cond (Nat.blt k 94) (cond (Nat.blt k 73) (cond (Nat.blt k 67) (cond (Nat.blt k 64) (cond (Nat.beq k 61) (some (6, 21)) (none)) (cond (Nat.beq k 64) (some (6, 22)) (none))) (cond (Nat.blt k 70) (cond (Nat.beq k 67) (some (6, 23)) (none)) (cond (Nat.beq k 70) (some (6, 24)) (none)))) (cond (Nat.blt k 79) (cond (Nat.blt k 76) (cond (Nat.beq k 73) (some (6, 25)) (none)) (cond (Nat.beq k 76) (some (6, 26)) (none))) (cond (Nat.blt k 82) (cond (Nat.beq k 79) (some (6, 27)) (none)) (cond (Nat.beq k 82) (some (6, 18)) (none))))) (cond (Nat.blt k 161) (cond (Nat.blt k 105) (cond (Nat.blt k 102) (cond (Nat.beq k 94) (some (6, 19)) (none)) (cond (Nat.beq k 102) (some (6, 17)) (none))) (cond (Nat.blt k 108) (cond (Nat.beq k 105) (some (6, 15)) (none)) (cond (Nat.beq k 108) (some (6, 16)) (none)))) (cond (Nat.blt k 187) (cond (Nat.blt k 184) (cond (Nat.beq k 161) (some (6, 28)) (none)) (cond (Nat.beq k 184) (some (6, 30)) (none))) (cond (Nat.blt k 198) (cond (Nat.beq k 187) (some (6, 29)) (none)) (cond (Nat.blt k 225) (cond (Nat.beq k 198) (some (6, 32)) (none)) (cond (Nat.beq k 225) (some (6, 31)) (none)))))))
def fm_fll6 : List (Nat × Nat × Nat) := [(7, 6, 0), (13, 6, 1), (16, 6, 2), (19, 6, 3), (22, 6, 4), (25, 6, 5), (28, 6, 6), (31, 6, 7), (35, 6, 8), (39, 6, 9), (43, 6, 10), (46, 6, 11), (49, 6, 12), (52, 6, 13), (55, 6, 14), (58, 6, 20), (61, 6, 21), (64, 6, 22), (67, 6, 23), (70, 6, 24), (73, 6, 25), (76, 6, 26), (79, 6, 27), (82, 6, 18), (94, 6, 19), (102, 6, 17), (105, 6, 15), (108, 6, 16), (161, 6, 28), (184, 6, 30), (187, 6, 29), (198, 6, 32), (225, 6, 31)]
theorem fm_flw6 : ∀ w ∈ fm_fll6.map (fun q => Cond.fieldLink "FlatModuleModel" q.1 (fm_cls.getD q.2.1 ("", fm_T0, 0)).1 ((fm_cls.getD q.2.1 ("", fm_T0, 0)).2.1 q.2.2).2.1 ((fm_cls.getD q.2.1 ("", fm_T0, 0)).2.1 q.2.2).2.2.1), w ∈ fm_TB := fm_in _ [622, 623, 624, 625, 626, 627, 628, 629, 630, 631, 632, 633, 634, 635, 636, 642, 643, 644, 645, 646, 647, 648, 649, 640, 641, 639, 637, 638, 650, 652, 651, 654, 653] (by decide +kernel) (by decide +kernel)
def fm_fl7 (k : Nat) : Option (Nat × Nat) := none
def fm_fll7 : List (Nat × Nat × Nat) := []
def fm_fl8 (k : Nat) : Option (Nat × Nat) := none
def fm_fll8 : List (Nat × Nat × Nat) := []
def fm_fl9 (k : Nat) : Option (Nat × Nat) := none
def fm_fll9 : List (Nat × Nat × Nat) := []
def fm_kdl : List (Nat × Nat × UInt64) := [(5, 124, 4593671619917905920), (6, 164, 4741671816366391296), (6, 166, 13965043853221167104), (6, 202, 4593671619917905920), (7, 34, 4741671816366391296), (7, 36, 13965043853221167104), (7, 38, 9218868437227405311), (7, 40, 18442240474082181119), (8, 63, 4593671619917905920)]
def fm_kd (oc ix : Nat) : Option UInt64 := (fm_kdl.find? (fun q => Nat.beq q.1 oc && Nat.beq q.2.1 ix)).map (fun q => q.2.2)
theorem fm_kdw : ∀ w ∈ fm_kdl.map (fun q => Cond.constantDouble (fm_cn q.1) q.2.1 q.2.2), w ∈ fm_TB := fm_in _ [514, 859, 860, 847, 526, 527, 562, 563, 895] (by decide +kernel) (by decide +kernel)
def fm_kfl : List (Nat × Nat × UInt32) := [(5, 123, 1040187392), (6, 201, 1040187392)]
def fm_kf (oc ix : Nat) : Option UInt32 := (fm_kfl.find? (fun q => Nat.beq q.1 oc && Nat.beq q.2.1 ix)).map (fun q => q.2.2)
theorem fm_kfw : ∀ w ∈ fm_kfl.map (fun q => Cond.constantFloat (fm_cn q.1) q.2.1 q.2.2), w ∈ fm_TB := fm_in _ [513, 846] (by decide +kernel) (by decide +kernel)
end
section
/-! THE WORLD: the fixed graph of cells, each cell's content read off the pure memory -/
def fm_fv (ad : fm_A) (M : fm_M) (ci k i s : Nat) : Value := cond (Nat.beq (fm_ft ci s) 2) (.ref (ad (M.2.2.2 k i s).1 (M.2.2.2 k i s).2)) (.int (M.1 k i s))
def fm_ar (ad : fm_A) (M : fm_M) (t k i : Nat) : (Nat → Int32) ⊕ (Nat → Int64) ⊕ (Nat → UInt32) ⊕ (Nat → UInt64) ⊕ (Nat → Option Nat) :=
  match t with
  | 0 => .inl (fun j => M.1 k i j)
  | 1 => .inr (.inl (fun j => M.2.1 k i j))
  | 2 => .inr (.inr (.inr (.inl (fun j => M.2.2.1 k i j))))
  | 3 => .inl (fun j => M.1 k i j)
  | _ => .inr (.inr (.inr (.inr (fun j => some (ad (M.2.2.2 k i j).1 (M.2.2.2 k i j).2)))))
def fm_ce (cA : Nat → ClassId) (ad : fm_A) (M : fm_M) (k i : Nat) : va_E :=
  match fm_kc k with
  | some ci => .inr (ci, (List.range (fm_nf ci)).map (fm_fv ad M ci k i))
  | none => match fm_ka k with
    | some q => .inl (cA q.1, q.2, fm_ar ad M q.1 k i)
    | none => .inr (0, [])
def fm_wl (cA : Nat → ClassId) (ad : fm_A) (M : fm_M) : va_W := fm_ki.map (fun q => (ad q.1 q.2, fm_ce cA ad M q.1 q.2))
def fm_tys (cA : Nat → ClassId) : List (ClassId × FieldType) := [(cA 0, .int), (cA 1, .long), (cA 2, .double), (cA 3, .boolean), (cA 4, .object "FlatModule$Function"), (cA 5, .object "FlatModule$Frame")]
theorem fm_cnt9 : ∀ k, fm_cnt k ≤ 9 := by
  intro k
  by_cases h : k < 51
  · revert k; decide +kernel
  · have : fm_cnt k = 0 := by
      unfold fm_cnt
      rw [List.getD_eq_getElem?_getD, List.getElem?_eq_none (by simpa using Nat.le_of_not_lt h)]
      rfl
    omega
theorem fm_ki_all : (List.range 50).all (fun k => (List.range (fm_cnt k)).all (fun i => decide ((k, i) ∈ fm_ki))) = true := by decide +kernel
theorem fm_ki_mem {k i : Nat} (hk : k < 50) (hi : i < fm_cnt k) : (k, i) ∈ fm_ki :=
  of_decide_eq_true (List.all_eq_true.mp (List.all_eq_true.mp fm_ki_all k (List.mem_range.mpr hk)) i (List.mem_range.mpr hi))
theorem fm_ki_nd : fm_ki.Nodup := by decide +kernel
theorem fm_ki_at {k i : Nat} (hk : k < 50) (hi : i < fm_cnt k) : ∃ j : Nat, fm_ki[j]? = some (k, i) := List.getElem?_of_mem (fm_ki_mem hk hi)
theorem fm_wl_at {cA : Nat → ClassId} {ad : fm_A} {M : fm_M} {k i j : Nat} (h : fm_ki[j]? = some (k, i)) : (fm_wl cA ad M)[j]? = some (ad k i, fm_ce cA ad M k i) := by
  unfold fm_wl
  rw [List.getElem?_map, h]
  rfl
theorem fm_wl_set {cA : Nat → ClassId} {ad : fm_A} {M M' : fm_M} {k i j : Nat} (h : fm_ki[j]? = some (k, i)) (ho : ∀ k' i', (k', i') ≠ (k, i) → fm_ce cA ad M' k' i' = fm_ce cA ad M k' i') {e : va_E} (he : fm_ce cA ad M' k i = e) : (fm_wl cA ad M).set j (ad k i, e) = fm_wl cA ad M' := by
  have hjl : j < fm_ki.length := (List.getElem?_eq_some_iff.mp h).1
  have hl : j < (fm_wl cA ad M).length := by
    unfold fm_wl
    rw [List.length_map]
    exact hjl
  apply List.ext_getElem?
  intro n
  by_cases hn : n = j
  · subst hn
    rw [List.getElem?_set_self hl, fm_wl_at h, he]
  · rw [List.getElem?_set_ne (Ne.symm hn)]
    unfold fm_wl
    rw [List.getElem?_map, List.getElem?_map]
    cases hq : fm_ki[n]? with
    | none => rfl
    | some q =>
      obtain ⟨k', i'⟩ := q
      have hne : (k', i') ≠ (k, i) := fun z => hn (by
        have hnl : n < fm_ki.length := (List.getElem?_eq_some_iff.mp hq).1
        exact (List.getElem?_inj hnl fm_ki_nd).mp (by rw [hq, h, z]))
      simp only [Option.map_some]
      rw [ho k' i' hne]
theorem fm_ce_congr {cA : Nat → ClassId} {ad : fm_A} {M M' : fm_M} {k i : Nat} (h1 : ∀ s, M'.1 k i s = M.1 k i s) (h2 : ∀ s, M'.2.1 k i s = M.2.1 k i s) (h3 : ∀ s, M'.2.2.1 k i s = M.2.2.1 k i s) (h4 : ∀ s, M'.2.2.2 k i s = M.2.2.2 k i s) : fm_ce cA ad M' k i = fm_ce cA ad M k i := by
  have e1 : M'.1 k i = M.1 k i := funext h1
  have e2 : M'.2.1 k i = M.2.1 k i := funext h2
  have e3 : M'.2.2.1 k i = M.2.2.1 k i := funext h3
  have e4 : M'.2.2.2 k i = M.2.2.2 k i := funext h4
  have hf : ∀ ci, fm_fv ad M' ci k i = fm_fv ad M ci k i := fun ci => funext fun s => by simp only [fm_fv, e1, e4]
  have ha : ∀ t, fm_ar ad M' t k i = fm_ar ad M t k i := fun t => by simp only [fm_ar, e1, e2, e3, e4]
  simp only [fm_ce, hf, ha]
theorem fm_u_ne {α : Type} {f : Nat → Nat → Nat → α} {k i s k' i' s' : Nat} {x : α} (h : (k', i') ≠ (k, i)) : fm_u f k i s x k' i' s' = f k' i' s' := by
  rw [fm_u_if, if_neg]
  intro z
  exact h (by rw [z.1, z.2.1])
/-- references point into the graph -/
def fm_ok : fm_V → Prop
  | .inr (.inr (.inr (.inr q))) => q.2 < fm_cnt q.1
  | _ => True
def fm_sz (k : Nat) : Nat := match fm_kc k with
  | some ci => fm_nf ci
  | none => match fm_ka k with
    | some t => t.2
    | none => 0
def fm_okM (M : fm_M) : Prop := ∀ k i s, k < 50 → i < fm_cnt k → s < fm_sz k → (M.2.2.2 k i s).2 < fm_cnt (M.2.2.2 k i s).1
def fm_vd (C : fm_C) : Prop := (∀ q ∈ C.2.1, fm_ok q.2) ∧ (∀ v ∈ C.2.2.1, fm_ok v) ∧ fm_okM C.2.2.2
abbrev fm_tN : String := "java/lang/Throwable"
abbrev fm_sD : String := "[Ljava/lang/StackTraceElement;"
abbrev fm_lD : String := "Ljava/util/List;"
/-- a static field's place, as its word has it; its cell is none that may change -/
def fm_ls (C n d : String) (A : Nat → Prop) (U : State) (H : Heap) : Prop := ∃ (c : ClassId) (k : Class) (i : Nat) (f : Field) (a : Nat) (cell : Cell), U.vm.findClass C = some c ∧ U.fieldFound? C n d = some (c, k, i, f) ∧ f.isStatic = true ∧ k.statics = some a ∧ H[a]? = some cell ∧ cell.vm.isStatics = true ∧ cell.cls = c ∧ f.slot < cell.slots.size ∧ k.staticTypes[f.slot]? = some f.type ∧ ¬ A a
theorem fm_ls.moved {C n d : String} {A : Nat → Prop} {u U : State} {H : Heap} (hvm : u.vm.Alike U.vm) (h : fm_ls C n d A u H) : fm_ls C n d A U H := by
  obtain ⟨c, k, i, f, a, cell, h0, h1, h2, h3, h4, h5, h6, h7, h8, h9⟩ := h
  obtain ⟨k', hi', he⟩ := State.fieldFound?_setVm hvm h1
  exact ⟨c, k', i, f, a, cell, by rw [hvm.findClass]; exact h0, hi', h2, by rw [he]; exact h3, h4, h5, h6, h7, by rw [he]; exact h8, h9⟩
theorem fm_ls.kept {C n d : String} {A : Nat → Prop} {U : State} {H H1 : Heap} (h : fm_ls C n d A U H) (hq : ∀ a : Nat, a < H.size → ¬ A a → H1[a]? = H[a]?) : fm_ls C n d A U H1 := by
  obtain ⟨c, k, i, f, a, cell, h0, h1, h2, h3, h4, h5, h6, h7, h8, h9⟩ := h
  exact ⟨c, k, i, f, a, cell, h0, h1, h2, h3, by rw [hq a (Array.getElem?_eq_some_iff.mp h4).1 h9]; exact h4, h5, h6, h7, h8, h9⟩
theorem fm_ls.narrow {C n d : String} {A B : Nat → Prop} {U : State} {H : Heap} (h : fm_ls C n d A U H) (hAB : ∀ q, B q → A q) : fm_ls C n d B U H := by
  obtain ⟨c, k, i, f, a, cell, h0, h1, h2, h3, h4, h5, h6, h7, h8, h9⟩ := h
  exact ⟨c, k, i, f, a, cell, h0, h1, h2, h3, h4, h5, h6, h7, h8, fun z => h9 (hAB a z)⟩
theorem fm_ls.use {C n d : String} {A : Nat → Prop} {U : State} {args : Array Value} (h : fm_ls C n d A U U.heap) : (Cond.laysStatic C n d).before args U = true := by
  obtain ⟨c, k, i, f, a, cell, h0, h1, h2, h3, h4, h5, h6, h7, h8, h9⟩ := h
  simp [Cond.before, Cond.holds, Cond.value, h0, h1, h2, h3, h4, h5, h6, h7, h8]
theorem fm_ls.of {C n d : String} {A : Nat → Prop} {U : State} {args : Array Value} (h : (Cond.laysStatic C n d).before args U = true) (hA : ∀ a : Nat, a < U.heap.size → ¬ A a) : fm_ls C n d A U U.heap := by
  obtain ⟨c, k, i, f, a, cell, hc, hi, hst, ha, hcell, hs, hcls, hlt, hty⟩ := Cond.laysStatic_spec h
  exact ⟨c, k, i, f, a, cell, hc, hi, hst, ha, hcell, hs, hcls, hlt, hty, hA a (Array.getElem?_eq_some_iff.mp hcell).1⟩
/-- which exceptions aren't others -/
def fm_nc (U : State) : Prop := va_Nc "java/lang/IllegalStateException" "java/lang/IllegalArgumentException" U ∧ va_Nc "java/lang/ArithmeticException" "java/lang/IllegalArgumentException" U ∧ va_Nc "java/lang/ArithmeticException" "java/lang/IllegalStateException" U ∧ va_Nc "java/lang/UnsupportedOperationException" "java/lang/IllegalArgumentException" U ∧ va_Nc "java/lang/UnsupportedOperationException" "java/lang/IllegalStateException" U ∧ va_Nc "java/lang/UnsupportedOperationException" "java/lang/ArithmeticException" U
theorem fm_nc.moved {u U : State} (hvm : u.vm.Alike U.vm) (h : fm_nc u) : fm_nc U := ⟨h.1.moved hvm, h.2.1.moved hvm, h.2.2.1.moved hvm, h.2.2.2.1.moved hvm, h.2.2.2.2.1.moved hvm, h.2.2.2.2.2.moved hvm⟩
/-- words and statics that the tables' good words don't give -/
def fm_nw (A : Nat → Prop) (U : State) (H : Heap) : Prop :=
  va_Nw (.methodLinkNest "FlatModule$Checker" 93 ⟨"FlatModule", "isWithin", "(II)Z"⟩ "FlatModule") U ∧
  va_Nw (.castable "java/lang/IllegalArgumentException" "java/lang/IllegalArgumentException") U ∧ va_Nw (.castable "java/lang/IllegalStateException" "java/lang/IllegalStateException") U ∧
  va_Nw (.castable "java/lang/ArithmeticException" "java/lang/ArithmeticException") U ∧ va_Nw (.castable "java/lang/UnsupportedOperationException" "java/lang/UnsupportedOperationException") U ∧
  fm_ls fm_tN "UNASSIGNED_STACK" fm_sD A U H ∧ fm_ls fm_tN "SUPPRESSED_SENTINEL" fm_lD A U H ∧
  va_Zq fm_tN "UNASSIGNED_STACK" fm_sD A U H ∧ va_Zq fm_tN "SUPPRESSED_SENTINEL" fm_lD A U H ∧
  va_Nw (.declares ⟨"java/lang/RuntimeException", "<init>", "()V"⟩) U ∧ va_Nw (.declares ⟨"java/lang/Exception", "<init>", "()V"⟩) U ∧ va_Nw (.declares ⟨"java/lang/Throwable", "<init>", "()V"⟩) U ∧ fm_nc U
theorem fm_nw.to {A B : Nat → Prop} {s U : State} {H H1 : Heap} (h : fm_nw A s H) (hW : s.WarmedH U.vm) (hq : ∀ a : Nat, a < H.size → ¬ A a → H1[a]? = H[a]?) (hAB : ∀ q, B q → A q) : fm_nw B U H1 := by
  obtain ⟨h1, h2, h3, h4, h5, h6, h7, h8, h9, h10, h11, h12, h13⟩ := h
  exact ⟨va_Nw.warmM hW h1, va_Nw.warmC hW h2, va_Nw.warmC hW h3, va_Nw.warmC hW h4, va_Nw.warmC hW h5, ((h6.moved hW.alike).kept hq).narrow hAB, ((h7.moved hW.alike).kept hq).narrow hAB, ((h8.moved hW.alike).kept hq).narrow hAB, ((h9.moved hW.alike).kept hq).narrow hAB, va_Nw.warmD hW h10, va_Nw.warmD hW h11, va_Nw.warmD hW h12, h13.moved hW.alike⟩
theorem fm_nw.same {A : Nat → Prop} {s U : State} {H : Heap} (h : fm_nw A s H) (hvm : s.vm = U.vm) : fm_nw A U H := by
  obtain ⟨h1, h2, h3, h4, h5, h6, h7, h8, h9, h10, h11, h12, h13⟩ := h
  have ha : s.vm.Alike U.vm := by rw [hvm]; exact Vm.Alike.refl _
  exact ⟨h1.same rfl hvm, h2.same rfl hvm, h3.same rfl hvm, h4.same rfl hvm, h5.same rfl hvm, h6.moved ha, h7.moved ha, h8.moved ha, h9.moved ha, h10.same rfl hvm, h11.same rfl hvm, h12.same rfl hvm, h13.moved ha⟩
/-- what stands at a method's entry: the machine, the code, the words, the graph's addresses, the script -/
def fm_cx (l : Launch) (D : va_G) (cA : Nat → ClassId) (ad : fm_A) (L : Nat) (xs : Nat → Int32) (oc : Nat) (cc : ByteArray) (nL : Nat) (p : Program) (s : State) (m : MethodId) (args : Array Value) (meth : Method) (c : Code) (A : Nat → Prop) : Prop :=
  p.tables.exec = Jvm.exec ∧ c.code = cc ∧ c.maxLocals = nL ∧ s.vm.findClass (fm_cn oc) = some m.cls ∧ (∀ w ∈ fm_TB, w.before args s = true) ∧ va_K D fm_cls (fm_tys cA) s ∧ (∀ M, va_D A (fm_wl cA ad M)) ∧ (∀ q, s.heap.size ≤ q → A q) ∧ (va_X (ad 50 0) L xs s s.heap ∧ ad 50 0 < s.heap.size ∧ ¬ A (ad 50 0)) ∧ fm_nw A s s.heap ∧ meth.locks = false ∧ l.stackTraces = false ∧ (oc = 8 ∨ c.exceptionTable.toList = [])
/-- W, at a pure configuration -/
def fm_ww (l : Launch) (D : va_G) (cA : Nat → ClassId) (ad : fm_A) (nL : Nat) (p : Program) (e : Env) (R : Room) (s : State) (m : MethodId) (args : Array Value) (below : List Frame) (meth : Method) (c : Code) (A : Nat → Prop) (Q : State → Prop) (cells slots : Nat) (C : fm_C) : Prop :=
  ∀ (H : Heap) (locs : List Loc) (ls : Array Slot), va_P D fm_cls (fm_wl cA ad C.2.2.2) H → va_S A s.heap H locs → lv_has ls nL (fm_cl ad C.2.1) → fm_vd C → W p l e R s m args below meth c H locs cells slots Q (F0 m C.1 ls (fm_cs ad C.2.2.1))
end
section
/-! ONE INSTRUCTION, PURE; and that the machine does it -/
def fm_stA (oc : Nat) (ins : Instr) (pc : Nat) (l : List (Nat × fm_V)) (st : List fm_V) (M : fm_M) : Option fm_C :=
  match ins with
  | .iconst n => some (pc + 1, l, .inl (Int32.ofInt n) :: st, M)
  | .bipush n => some (pc + 2, l, .inl (Int8.ofInt n).toInt32 :: st, M)
  | .sipush n => some (pc + 3, l, .inl (Int16.ofInt n).toInt32 :: st, M)
  | .lconst n => some (pc + 1, l, .inr (.inl (Int64.ofNat n)) :: st, M)
  | .dconst n => match n with
    | 0 => some (pc + 1, l, .inr (.inr (.inr (.inl FP.dconst0))) :: st, M)
    | 1 => none
  | .ldc ix => match fm_kf oc ix with
    | some v => some (pc + 2, l, .inr (.inr (.inl v)) :: st, M)
    | none => none
  | .ldc2_w ix => match fm_kd oc ix with
    | some v => some (pc + 3, l, .inr (.inr (.inr (.inl v))) :: st, M)
    | none => none
  | .iload_n n => match fm_lk l n with
    | some (.inl x) => some (pc + 1, l, .inl x :: st, M)
    | _ => none
  | .iload n => match fm_lk l n with
    | some (.inl x) => some (pc + 2, l, .inl x :: st, M)
    | _ => none
  | .lload_n n => match fm_lk l n with
    | some (.inr (.inl x)) => some (pc + 1, l, .inr (.inl x) :: st, M)
    | _ => none
  | .lload n => match fm_lk l n with
    | some (.inr (.inl x)) => some (pc + 2, l, .inr (.inl x) :: st, M)
    | _ => none
  | .fload_n n => match fm_lk l n with
    | some (.inr (.inr (.inl x))) => some (pc + 1, l, .inr (.inr (.inl x)) :: st, M)
    | _ => none
  | .dload_n n => match fm_lk l n with
    | some (.inr (.inr (.inr (.inl x)))) => some (pc + 1, l, .inr (.inr (.inr (.inl x))) :: st, M)
    | _ => none
  | .dload n => match fm_lk l n with
    | some (.inr (.inr (.inr (.inl x)))) => some (pc + 2, l, .inr (.inr (.inr (.inl x))) :: st, M)
    | _ => none
  | .aload_n n => match fm_lk l n with
    | some (.inr (.inr (.inr (.inr x)))) => some (pc + 1, l, .inr (.inr (.inr (.inr x))) :: st, M)
    | _ => none
  | .aload n => match fm_lk l n with
    | some (.inr (.inr (.inr (.inr x)))) => some (pc + 2, l, .inr (.inr (.inr (.inr x))) :: st, M)
    | _ => none
  | _ => none
theorem fm_vd_push {pc pc' : Nat} {l : List (Nat × fm_V)} {st : List fm_V} {M : fm_M} (h : fm_vd (pc, l, st, M)) {v : fm_V} (hv : fm_ok v) : fm_vd (pc', l, v :: st, M) :=
  ⟨h.1, fun w hw => (List.mem_cons.mp hw).elim (fun e => e ▸ hv) (h.2.1 w), h.2.2⟩
theorem fm_vd_lk {pc : Nat} {l : List (Nat × fm_V)} {st : List fm_V} {M : fm_M} (h : fm_vd (pc, l, st, M)) {n : Nat} {v : fm_V} (hk : fm_lk l n = some v) : fm_ok v := h.1 _ (fm_lk_mem hk)
theorem fm_kf_in {oc ix : Nat} {v : UInt32} (h : fm_kf oc ix = some v) : Cond.constantFloat (fm_cn oc) ix v ∈ fm_TB := by
  unfold fm_kf at h
  cases hf : fm_kfl.find? (fun q => Nat.beq q.1 oc && Nat.beq q.2.1 ix) with
  | none => rw [hf] at h; cases h
  | some q =>
    rw [hf] at h
    cases h
    have h1 := List.find?_some hf
    simp only [Bool.and_eq_true] at h1
    obtain ⟨e1, e2⟩ := h1
    rw [← Nat.eq_of_beq_eq_true e1, ← Nat.eq_of_beq_eq_true e2]
    exact fm_kfw _ (List.mem_map.mpr ⟨q, List.mem_of_find?_eq_some hf, rfl⟩)
theorem fm_kd_in {oc ix : Nat} {v : UInt64} (h : fm_kd oc ix = some v) : Cond.constantDouble (fm_cn oc) ix v ∈ fm_TB := by
  unfold fm_kd at h
  cases hf : fm_kdl.find? (fun q => Nat.beq q.1 oc && Nat.beq q.2.1 ix) with
  | none => rw [hf] at h; cases h
  | some q =>
    rw [hf] at h
    cases h
    have h1 := List.find?_some hf
    simp only [Bool.and_eq_true] at h1
    obtain ⟨e1, e2⟩ := h1
    rw [← Nat.eq_of_beq_eq_true e1, ← Nat.eq_of_beq_eq_true e2]
    exact fm_kdw _ (List.mem_map.mpr ⟨q, List.mem_of_find?_eq_some hf, rfl⟩)
section StA
variable {l : Launch} {D : va_G} {cA : Nat → ClassId} {ad : fm_A} {L : Nat} {xs : Nat → Int32} {oc : Nat} {cc : ByteArray} {nL : Nat} {p : Program} {e : Env} {R : Room} {s : State} {m : MethodId} {args : Array Value} {below : List Frame} {meth : Method} {c : Code} {A : Nat → Prop} {Q : State → Prop} {cells slots : Nat}
set_option maxHeartbeats 2000000 in
theorem fm_soA (X : fm_cx l D cA ad L xs oc cc nL p s m args meth c A) {ins : Instr} {pc : Nat} {lo : List (Nat × fm_V)} {st : List fm_V} {M : fm_M} {C' : fm_C} (hd : decode cc pc = .ok (ins, fm_ln ins)) (h : fm_stA oc ins pc lo st M = some C')
    (k : fm_ww l D cA ad nL p e R s m args below meth c A Q cells slots C') : fm_ww l D cA ad nL p e R s m args below meth c A Q cells slots (pc, lo, st, M) := by
  obtain ⟨hx, hb, -, hown, hts, -⟩ := X
  intro H locs ls hP hS hl hv
  cases ins
  case iconst n =>
    cases h
    exact lv_iconst hx hb hd rfl (k H locs ls hP hS hl (fm_vd_push hv trivial))
  case bipush n =>
    cases h
    exact lv_bipush hx hb hd rfl (k H locs ls hP hS hl (fm_vd_push hv trivial))
  case sipush n =>
    cases h
    exact lv_sipush hx hb hd rfl (k H locs ls hP hS hl (fm_vd_push hv trivial))
  case lconst n =>
    cases h
    exact lv_lconst hx hb hd rfl (k H locs ls hP hS hl (fm_vd_push hv trivial))
  case dconst n =>
    match n, h, hd with
    | 0, h, hd =>
      cases h
      exact lv_dconst0 hx hb hd (k H locs ls hP hS hl (fm_vd_push hv trivial))
    | 1, h, hd => cases h
  case ldc ix =>
    simp only [fm_stA] at h
    split at h
    · next v hk =>
      cases h
      exact lv_ldcf hx hb hown (hts _ (fm_kf_in hk)) hd (k H locs ls hP hS hl (fm_vd_push hv trivial))
    · cases h
  case ldc2_w ix =>
    simp only [fm_stA] at h
    split at h
    · next v hk =>
      cases h
      exact lv_ldc2d hx hb hown (hts _ (fm_kd_in hk)) hd (k H locs ls hP hS hl (fm_vd_push hv trivial))
    · cases h
  case iload_n n =>
    simp only [fm_stA] at h
    split at h
    · next x hk =>
      cases h
      exact lv_iload_n hx hb hd rfl (fm_lk_at hl hk) (k H locs ls hP hS hl (fm_vd_push hv trivial))
    · cases h
  case iload n =>
    simp only [fm_stA] at h
    split at h
    · next x hk =>
      cases h
      exact lv_iload hx hb hd (fm_lk_at hl hk) (k H locs ls hP hS hl (fm_vd_push hv trivial))
    · cases h
  case lload_n n =>
    simp only [fm_stA] at h
    split at h
    · next x hk =>
      cases h
      exact lv_lload_n hx hb hd rfl (fm_lk_at hl hk) (k H locs ls hP hS hl (fm_vd_push hv trivial))
    · cases h
  case lload n =>
    simp only [fm_stA] at h
    split at h
    · next x hk =>
      cases h
      exact lv_lload hx hb hd (fm_lk_at hl hk) (k H locs ls hP hS hl (fm_vd_push hv trivial))
    · cases h
  case fload_n n =>
    simp only [fm_stA] at h
    split at h
    · next x hk =>
      cases h
      exact lv_fload_n hx hb hd rfl (fm_lk_at hl hk) (k H locs ls hP hS hl (fm_vd_push hv trivial))
    · cases h
  case dload_n n =>
    simp only [fm_stA] at h
    split at h
    · next x hk =>
      cases h
      exact lv_dload_n hx hb hd rfl (fm_lk_at hl hk) (k H locs ls hP hS hl (fm_vd_push hv trivial))
    · cases h
  case dload n =>
    simp only [fm_stA] at h
    split at h
    · next x hk =>
      cases h
      exact lv_dload hx hb hd (fm_lk_at hl hk) (k H locs ls hP hS hl (fm_vd_push hv trivial))
    · cases h
  case aload_n n =>
    simp only [fm_stA] at h
    split at h
    · next x hk =>
      cases h
      exact lv_aload_n hx hb hd rfl (fm_lk_at hl hk) (k H locs ls hP hS hl (fm_vd_push hv (fm_vd_lk hv hk)))
    · cases h
  case aload n =>
    simp only [fm_stA] at h
    split at h
    · next x hk =>
      cases h
      exact lv_aload hx hb hd (fm_lk_at hl hk) (k H locs ls hP hS hl (fm_vd_push hv (fm_vd_lk hv hk)))
    · cases h
  all_goals (simp only [fm_stA] at h; exact nomatch h)
end StA
end
section
/-! stores -/
def fm_stB (nL : Nat) (ins : Instr) (pc : Nat) (l : List (Nat × fm_V)) (st : List fm_V) (M : fm_M) : Option fm_C :=
  match ins with
  | .istore_n n => match st with
    | .inl x :: r => cond (Nat.blt n nL) (some (pc + 1, fm_set1 l n (.inl x), r, M)) none
    | _ => none
  | .istore n => match st with
    | .inl x :: r => cond (Nat.blt n nL) (some (pc + 2, fm_set1 l n (.inl x), r, M)) none
    | _ => none
  | .astore_n n => match st with
    | .inr (.inr (.inr (.inr x))) :: r => cond (Nat.blt n nL) (some (pc + 1, fm_set1 l n (.inr (.inr (.inr (.inr x)))), r, M)) none
    | _ => none
  | .astore n => match st with
    | .inr (.inr (.inr (.inr x))) :: r => cond (Nat.blt n nL) (some (pc + 2, fm_set1 l n (.inr (.inr (.inr (.inr x)))), r, M)) none
    | _ => none
  | .lstore_n n => match st with
    | .inr (.inl x) :: r => cond (Nat.blt (n + 1) nL) (some (pc + 1, fm_set2 l n (.inr (.inl x)), r, M)) none
    | _ => none
  | .lstore n => match st with
    | .inr (.inl x) :: r => cond (Nat.blt (n + 1) nL) (some (pc + 2, fm_set2 l n (.inr (.inl x)), r, M)) none
    | _ => none
  | .dstore_n n => match st with
    | .inr (.inr (.inr (.inl x))) :: r => cond (Nat.blt (n + 1) nL) (some (pc + 1, fm_set2 l n (.inr (.inr (.inr (.inl x)))), r, M)) none
    | _ => none
  | .dstore n => match st with
    | .inr (.inr (.inr (.inl x))) :: r => cond (Nat.blt (n + 1) nL) (some (pc + 2, fm_set2 l n (.inr (.inr (.inr (.inl x)))), r, M)) none
    | _ => none
  | .iinc n v => match fm_lk l n with
    | some (.inl x) => cond (Nat.blt n nL) (some (pc + 3, fm_set1 l n (.inl (x + Int32.ofInt v)), st, M)) none
    | _ => none
  | _ => none
theorem fm_vd_set1 {pc pc' : Nat} {l : List (Nat × fm_V)} {st st' : List fm_V} {M : fm_M} (h : fm_vd (pc, l, st, M)) {n : Nat} {v : fm_V} (hv : fm_ok v) (hs : ∀ w ∈ st', w ∈ st) : fm_vd (pc', fm_set1 l n v, st', M) :=
  ⟨fun q hq => (List.mem_cons.mp hq).elim (fun e => by rw [e]; exact hv) (fun h2 => h.1 q (List.mem_filter.mp h2).1), fun w hw => h.2.1 w (hs w hw), h.2.2⟩
theorem fm_vd_set2 {pc pc' : Nat} {l : List (Nat × fm_V)} {st st' : List fm_V} {M : fm_M} (h : fm_vd (pc, l, st, M)) {n : Nat} {v : fm_V} (hv : fm_ok v) (hs : ∀ w ∈ st', w ∈ st) : fm_vd (pc', fm_set2 l n v, st', M) :=
  ⟨fun q hq => (List.mem_cons.mp hq).elim (fun e => by rw [e]; exact hv) (fun h2 => h.1 q (List.mem_filter.mp h2).1), fun w hw => h.2.1 w (hs w hw), h.2.2⟩
theorem fm_lk_ix {l : List (Nat × fm_V)} {ad : fm_A} {n : Nat} {v : fm_V} (h : fm_lk l n = some v) : ∃ k : Nat, (fm_cl ad l)[k]? = some (n, fm_cv ad v) :=
  List.getElem?_of_mem (List.mem_map.mpr ⟨(n, v), fm_lk_mem h, rfl⟩)
section StB
variable {l : Launch} {D : va_G} {cA : Nat → ClassId} {ad : fm_A} {L : Nat} {xs : Nat → Int32} {oc : Nat} {cc : ByteArray} {nL : Nat} {p : Program} {e : Env} {R : Room} {s : State} {m : MethodId} {args : Array Value} {below : List Frame} {meth : Method} {c : Code} {A : Nat → Prop} {Q : State → Prop} {cells slots : Nat}
set_option maxHeartbeats 2000000 in
theorem fm_soB (X : fm_cx l D cA ad L xs oc cc nL p s m args meth c A) {ins : Instr} {pc : Nat} {lo : List (Nat × fm_V)} {st : List fm_V} {M : fm_M} {C' : fm_C} (hd : decode cc pc = .ok (ins, fm_ln ins)) (h : fm_stB nL ins pc lo st M = some C')
    (k : fm_ww l D cA ad nL p e R s m args below meth c A Q cells slots C') : fm_ww l D cA ad nL p e R s m args below meth c A Q cells slots (pc, lo, st, M) := by
  obtain ⟨hx, hb, -, hown, hts, -⟩ := X
  intro H locs ls hP hS hl hv
  cases ins
  case istore_n n =>
    simp only [fm_stB] at h
    split at h
    · next x r =>
      cases hb2 : Nat.blt n nL with
      | false => rw [hb2] at h; cases h
      | true =>
        rw [hb2] at h
        cases h
        refine lv_istore_n hx hb hd rfl hl (Nat.le_of_ble_eq_true hb2) (fm_set1_cl ad lo n (.inl x)) (fun ls hl => ?_)
        exact k H locs ls hP hS hl (fm_vd_set1 hv trivial (fun w hw => List.mem_cons_of_mem _ hw))
    · cases h
  case istore n =>
    simp only [fm_stB] at h
    split at h
    · next x r =>
      cases hb2 : Nat.blt n nL with
      | false => rw [hb2] at h; cases h
      | true =>
        rw [hb2] at h
        cases h
        refine lv_istore hx hb hd hl (Nat.le_of_ble_eq_true hb2) (fm_set1_cl ad lo n (.inl x)) (fun ls hl => ?_)
        exact k H locs ls hP hS hl (fm_vd_set1 hv trivial (fun w hw => List.mem_cons_of_mem _ hw))
    · cases h
  case astore_n n =>
    simp only [fm_stB] at h
    split at h
    · next x r =>
      cases hb2 : Nat.blt n nL with
      | false => rw [hb2] at h; cases h
      | true =>
        rw [hb2] at h
        cases h
        refine lv_astore_n hx hb hd rfl hl (Nat.le_of_ble_eq_true hb2) (fm_set1_cl ad lo n (.inr (.inr (.inr (.inr x))))) (fun ls hl => ?_)
        exact k H locs ls hP hS hl (fm_vd_set1 hv (hv.2.1 _ List.mem_cons_self) (fun w hw => List.mem_cons_of_mem _ hw))
    · cases h
  case astore n =>
    simp only [fm_stB] at h
    split at h
    · next x r =>
      cases hb2 : Nat.blt n nL with
      | false => rw [hb2] at h; cases h
      | true =>
        rw [hb2] at h
        cases h
        refine lv_astore hx hb hd hl (Nat.le_of_ble_eq_true hb2) (fm_set1_cl ad lo n (.inr (.inr (.inr (.inr x))))) (fun ls hl => ?_)
        exact k H locs ls hP hS hl (fm_vd_set1 hv (hv.2.1 _ List.mem_cons_self) (fun w hw => List.mem_cons_of_mem _ hw))
    · cases h
  case lstore_n n =>
    simp only [fm_stB] at h
    split at h
    · next x r =>
      cases hb2 : Nat.blt (n + 1) nL with
      | false => rw [hb2] at h; cases h
      | true =>
        rw [hb2] at h
        cases h
        refine lv_lstore_n hx hb hd rfl hl (Nat.le_of_ble_eq_true hb2) (fm_set2_cl ad lo n (.inr (.inl x))) (fun ls hl => ?_)
        exact k H locs ls hP hS hl (fm_vd_set2 hv trivial (fun w hw => List.mem_cons_of_mem _ hw))
    · cases h
  case lstore n =>
    simp only [fm_stB] at h
    split at h
    · next x r =>
      cases hb2 : Nat.blt (n + 1) nL with
      | false => rw [hb2] at h; cases h
      | true =>
        rw [hb2] at h
        cases h
        refine lv_lstore hx hb hd hl (Nat.le_of_ble_eq_true hb2) (fm_set2_cl ad lo n (.inr (.inl x))) (fun ls hl => ?_)
        exact k H locs ls hP hS hl (fm_vd_set2 hv trivial (fun w hw => List.mem_cons_of_mem _ hw))
    · cases h
  case dstore_n n =>
    simp only [fm_stB] at h
    split at h
    · next x r =>
      cases hb2 : Nat.blt (n + 1) nL with
      | false => rw [hb2] at h; cases h
      | true =>
        rw [hb2] at h
        cases h
        refine lv_dstore_n hx hb hd rfl hl (Nat.le_of_ble_eq_true hb2) (fm_set2_cl ad lo n (.inr (.inr (.inr (.inl x))))) (fun ls hl => ?_)
        exact k H locs ls hP hS hl (fm_vd_set2 hv trivial (fun w hw => List.mem_cons_of_mem _ hw))
    · cases h
  case dstore n =>
    simp only [fm_stB] at h
    split at h
    · next x r =>
      cases hb2 : Nat.blt (n + 1) nL with
      | false => rw [hb2] at h; cases h
      | true =>
        rw [hb2] at h
        cases h
        refine lv_dstore hx hb hd hl (Nat.le_of_ble_eq_true hb2) (fm_set2_cl ad lo n (.inr (.inr (.inr (.inl x))))) (fun ls hl => ?_)
        exact k H locs ls hP hS hl (fm_vd_set2 hv trivial (fun w hw => List.mem_cons_of_mem _ hw))
    · cases h
  case iinc n v =>
    simp only [fm_stB] at h
    split at h
    · next x hk =>
      cases hb2 : Nat.blt n nL with
      | false => rw [hb2] at h; cases h
      | true =>
        rw [hb2] at h
        cases h
        obtain ⟨j, hj⟩ := fm_lk_ix (ad := ad) hk
        refine lv_iinc hx hb hd hl hj rfl (Nat.le_of_ble_eq_true hb2) (fm_set1_cl ad lo n (.inl (x + Int32.ofInt v))) (fun ls hl => ?_)
        exact k H locs ls hP hS hl (fm_vd_set1 hv trivial (fun w hw => hw))
    · cases h
  all_goals (simp only [fm_stB] at h; exact nomatch h)
end StB
/-! arithmetic that asks nothing, stack moves, goto -/
def fm_stC (ins : Instr) (pc : Nat) (l : List (Nat × fm_V)) (st : List fm_V) (M : fm_M) : Option fm_C :=
  match ins with
  | .iadd => match st with
    | .inl y :: .inl x :: r => some (pc + 1, l, .inl (x + y) :: r, M)
    | _ => none
  | .isub => match st with
    | .inl y :: .inl x :: r => some (pc + 1, l, .inl (x - y) :: r, M)
    | _ => none
  | .imul => match st with
    | .inl y :: .inl x :: r => some (pc + 1, l, .inl (x * y) :: r, M)
    | _ => none
  | .iand => match st with
    | .inl y :: .inl x :: r => some (pc + 1, l, .inl (x &&& y) :: r, M)
    | _ => none
  | .ishr => match st with
    | .inl y :: .inl x :: r => some (pc + 1, l, .inl (x >>> (y &&& 31)) :: r, M)
    | _ => none
  | .ladd => match st with
    | .inr (.inl y) :: .inr (.inl x) :: r => some (pc + 1, l, .inr (.inl (x + y)) :: r, M)
    | _ => none
  | .lsub => match st with
    | .inr (.inl y) :: .inr (.inl x) :: r => some (pc + 1, l, .inr (.inl (x - y)) :: r, M)
    | _ => none
  | .lmul => match st with
    | .inr (.inl y) :: .inr (.inl x) :: r => some (pc + 1, l, .inr (.inl (x * y)) :: r, M)
    | _ => none
  | .land => match st with
    | .inr (.inl y) :: .inr (.inl x) :: r => some (pc + 1, l, .inr (.inl (x &&& y)) :: r, M)
    | _ => none
  | .lshl => match st with
    | .inl y :: .inr (.inl x) :: r => some (pc + 1, l, .inr (.inl (x <<< (y.toInt64 &&& 63))) :: r, M)
    | _ => none
  | .lcmp => match st with
    | .inr (.inl y) :: .inr (.inl x) :: r => some (pc + 1, l, .inl (lg_cmp x y) :: r, M)
    | _ => none
  | .i2l => match st with
    | .inl x :: r => some (pc + 1, l, .inr (.inl (x.toInt64)) :: r, M)
    | _ => none
  | .l2i => match st with
    | .inr (.inl x) :: r => some (pc + 1, l, .inl (x.toInt32) :: r, M)
    | _ => none
  | .i2d => match st with
    | .inl x :: r => some (pc + 1, l, .inr (.inr (.inr (.inl (FP.i2d x)))) :: r, M)
    | _ => none
  | .i2f => match st with
    | .inl x :: r => some (pc + 1, l, .inr (.inr (.inl (FP.i2f x))) :: r, M)
    | _ => none
  | .l2d => match st with
    | .inr (.inl x) :: r => some (pc + 1, l, .inr (.inr (.inr (.inl (FP.l2d x)))) :: r, M)
    | _ => none
  | .l2f => match st with
    | .inr (.inl x) :: r => some (pc + 1, l, .inr (.inr (.inl (FP.l2f x))) :: r, M)
    | _ => none
  | .d2i => match st with
    | .inr (.inr (.inr (.inl x))) :: r => some (pc + 1, l, .inl (FP.d2i x) :: r, M)
    | _ => none
  | .d2l => match st with
    | .inr (.inr (.inr (.inl x))) :: r => some (pc + 1, l, .inr (.inl (FP.d2l x)) :: r, M)
    | _ => none
  | .dcmp op => match st with
    | .inr (.inr (.inr (.inl y))) :: .inr (.inr (.inr (.inl x))) :: r => some (pc + 1, l, .inl (Op.cmpValue (FP.dcmp x y) op) :: r, M)
    | _ => none
  | .dup => match st with
    | v :: r => cond (fm_c2 v) none (some (pc + 1, l, v :: v :: r, M))
    | _ => none
  | .pop => match st with
    | v :: r => cond (fm_c2 v) none (some (pc + 1, l, r, M))
    | _ => none
  | .dup_x1 => match st with
    | v :: w :: r => cond (fm_c2 v || fm_c2 w) none (some (pc + 1, l, v :: w :: v :: r, M))
    | _ => none
  | .dup2 => match st with
    | v :: w :: r => cond (fm_c2 v || fm_c2 w) none (some (pc + 1, l, v :: w :: v :: w :: r, M))
    | _ => none
  | .goto off => match (pc : Int) + off with
    | .ofNat t => some (t, l, st, M)
    | .negSucc _ => none
  | _ => none
theorem fm_vd_st {pc pc' : Nat} {l : List (Nat × fm_V)} {st st' : List fm_V} {M : fm_M} (h : fm_vd (pc, l, st, M)) (hs : ∀ w ∈ st', fm_ok w) : fm_vd (pc', l, st', M) := ⟨h.1, hs, h.2.2⟩
theorem fm_c2_1 {ad : fm_A} {v : fm_V} (h : fm_c2 v = false) : (fm_cv ad v).category = 1 := by
  have := fm_cat ad v
  rw [h] at this
  rcases lv_cat (fm_cv ad v) with q | q
  · exact q
  · rw [q] at this
    cases this
section StC
variable {l : Launch} {D : va_G} {cA : Nat → ClassId} {ad : fm_A} {L : Nat} {xs : Nat → Int32} {oc : Nat} {cc : ByteArray} {nL : Nat} {p : Program} {e : Env} {R : Room} {s : State} {m : MethodId} {args : Array Value} {below : List Frame} {meth : Method} {c : Code} {A : Nat → Prop} {Q : State → Prop} {cells slots : Nat}
set_option maxHeartbeats 2000000 in
theorem fm_soC (X : fm_cx l D cA ad L xs oc cc nL p s m args meth c A) {ins : Instr} {pc : Nat} {lo : List (Nat × fm_V)} {st : List fm_V} {M : fm_M} {C' : fm_C} (hd : decode cc pc = .ok (ins, fm_ln ins)) (h : fm_stC ins pc lo st M = some C')
    (k : fm_ww l D cA ad nL p e R s m args below meth c A Q cells slots C') : fm_ww l D cA ad nL p e R s m args below meth c A Q cells slots (pc, lo, st, M) := by
  obtain ⟨hx, hb, -, hown, hts, -⟩ := X
  intro H locs ls hP hS hl hv
  cases ins
  case iadd =>
    simp only [fm_stC] at h
    split at h
    · next y x r =>
      cases h
      exact lv_iadd hx hb hd (k H locs ls hP hS hl (fm_vd_st hv (List.forall_mem_cons.mpr ⟨trivial, fun w hw => hv.2.1 w (List.mem_cons_of_mem _ (List.mem_cons_of_mem _ hw))⟩)))
    · cases h
  case isub =>
    simp only [fm_stC] at h
    split at h
    · next y x r =>
      cases h
      exact lv_isub hx hb hd (k H locs ls hP hS hl (fm_vd_st hv (List.forall_mem_cons.mpr ⟨trivial, fun w hw => hv.2.1 w (List.mem_cons_of_mem _ (List.mem_cons_of_mem _ hw))⟩)))
    · cases h
  case imul =>
    simp only [fm_stC] at h
    split at h
    · next y x r =>
      cases h
      exact lv_imul hx hb hd (k H locs ls hP hS hl (fm_vd_st hv (List.forall_mem_cons.mpr ⟨trivial, fun w hw => hv.2.1 w (List.mem_cons_of_mem _ (List.mem_cons_of_mem _ hw))⟩)))
    · cases h
  case iand =>
    simp only [fm_stC] at h
    split at h
    · next y x r =>
      cases h
      exact lv_iand hx hb hd (k H locs ls hP hS hl (fm_vd_st hv (List.forall_mem_cons.mpr ⟨trivial, fun w hw => hv.2.1 w (List.mem_cons_of_mem _ (List.mem_cons_of_mem _ hw))⟩)))
    · cases h
  case ishr =>
    simp only [fm_stC] at h
    split at h
    · next y x r =>
      cases h
      exact lv_ishr hx hb hd (k H locs ls hP hS hl (fm_vd_st hv (List.forall_mem_cons.mpr ⟨trivial, fun w hw => hv.2.1 w (List.mem_cons_of_mem _ (List.mem_cons_of_mem _ hw))⟩)))
    · cases h
  case ladd =>
    simp only [fm_stC] at h
    split at h
    · next y x r =>
      cases h
      exact lv_ladd hx hb hd (k H locs ls hP hS hl (fm_vd_st hv (List.forall_mem_cons.mpr ⟨trivial, fun w hw => hv.2.1 w (List.mem_cons_of_mem _ (List.mem_cons_of_mem _ hw))⟩)))
    · cases h
  case lsub =>
    simp only [fm_stC] at h
    split at h
    · next y x r =>
      cases h
      exact lv_lsub hx hb hd (k H locs ls hP hS hl (fm_vd_st hv (List.forall_mem_cons.mpr ⟨trivial, fun w hw => hv.2.1 w (List.mem_cons_of_mem _ (List.mem_cons_of_mem _ hw))⟩)))
    · cases h
  case lmul =>
    simp only [fm_stC] at h
    split at h
    · next y x r =>
      cases h
      exact lv_lmul hx hb hd (k H locs ls hP hS hl (fm_vd_st hv (List.forall_mem_cons.mpr ⟨trivial, fun w hw => hv.2.1 w (List.mem_cons_of_mem _ (List.mem_cons_of_mem _ hw))⟩)))
    · cases h
  case land =>
    simp only [fm_stC] at h
    split at h
    · next y x r =>
      cases h
      exact lv_land hx hb hd (k H locs ls hP hS hl (fm_vd_st hv (List.forall_mem_cons.mpr ⟨trivial, fun w hw => hv.2.1 w (List.mem_cons_of_mem _ (List.mem_cons_of_mem _ hw))⟩)))
    · cases h
  case lshl =>
    simp only [fm_stC] at h
    split at h
    · next y x r =>
      cases h
      exact lv_lshl hx hb hd rfl (k H locs ls hP hS hl (fm_vd_st hv (List.forall_mem_cons.mpr ⟨trivial, fun w hw => hv.2.1 w (List.mem_cons_of_mem _ (List.mem_cons_of_mem _ hw))⟩)))
    · cases h
  case lcmp =>
    simp only [fm_stC] at h
    split at h
    · next y x r =>
      cases h
      exact W.lcmp hx hb hd (k H locs ls hP hS hl (fm_vd_st hv (List.forall_mem_cons.mpr ⟨trivial, fun w hw => hv.2.1 w (List.mem_cons_of_mem _ (List.mem_cons_of_mem _ hw))⟩)))
    · cases h
  case i2l =>
    simp only [fm_stC] at h
    split at h
    · next x r =>
      cases h
      exact lv_i2l hx hb hd rfl (k H locs ls hP hS hl (fm_vd_st hv (List.forall_mem_cons.mpr ⟨trivial, fun w hw => hv.2.1 w (List.mem_cons_of_mem _ hw)⟩)))
    · cases h
  case l2i =>
    simp only [fm_stC] at h
    split at h
    · next x r =>
      cases h
      exact lv_l2i hx hb hd rfl (k H locs ls hP hS hl (fm_vd_st hv (List.forall_mem_cons.mpr ⟨trivial, fun w hw => hv.2.1 w (List.mem_cons_of_mem _ hw)⟩)))
    · cases h
  case i2d =>
    simp only [fm_stC] at h
    split at h
    · next x r =>
      cases h
      exact lv_i2d hx hb hd (k H locs ls hP hS hl (fm_vd_st hv (List.forall_mem_cons.mpr ⟨trivial, fun w hw => hv.2.1 w (List.mem_cons_of_mem _ hw)⟩)))
    · cases h
  case i2f =>
    simp only [fm_stC] at h
    split at h
    · next x r =>
      cases h
      exact lv_i2f hx hb hd (k H locs ls hP hS hl (fm_vd_st hv (List.forall_mem_cons.mpr ⟨trivial, fun w hw => hv.2.1 w (List.mem_cons_of_mem _ hw)⟩)))
    · cases h
  case l2d =>
    simp only [fm_stC] at h
    split at h
    · next x r =>
      cases h
      exact lv_l2d hx hb hd (k H locs ls hP hS hl (fm_vd_st hv (List.forall_mem_cons.mpr ⟨trivial, fun w hw => hv.2.1 w (List.mem_cons_of_mem _ hw)⟩)))
    · cases h
  case l2f =>
    simp only [fm_stC] at h
    split at h
    · next x r =>
      cases h
      exact lv_l2f hx hb hd (k H locs ls hP hS hl (fm_vd_st hv (List.forall_mem_cons.mpr ⟨trivial, fun w hw => hv.2.1 w (List.mem_cons_of_mem _ hw)⟩)))
    · cases h
  case d2i =>
    simp only [fm_stC] at h
    split at h
    · next x r =>
      cases h
      exact lv_d2i hx hb hd (k H locs ls hP hS hl (fm_vd_st hv (List.forall_mem_cons.mpr ⟨trivial, fun w hw => hv.2.1 w (List.mem_cons_of_mem _ hw)⟩)))
    · cases h
  case d2l =>
    simp only [fm_stC] at h
    split at h
    · next x r =>
      cases h
      exact lv_d2l hx hb hd (k H locs ls hP hS hl (fm_vd_st hv (List.forall_mem_cons.mpr ⟨trivial, fun w hw => hv.2.1 w (List.mem_cons_of_mem _ hw)⟩)))
    · cases h
  case dcmp op =>
    simp only [fm_stC] at h
    split at h
    · next y x r =>
      cases h
      exact lv_dcmp hx hb hd (k H locs ls hP hS hl (fm_vd_st hv (List.forall_mem_cons.mpr ⟨trivial, fun w hw => hv.2.1 w (List.mem_cons_of_mem _ (List.mem_cons_of_mem _ hw))⟩)))
    · cases h
  case dup =>
    simp only [fm_stC] at h
    split at h
    · next v r =>
      cases hc : fm_c2 v with
      | true => rw [hc] at h; cases h
      | false =>
        rw [hc] at h
        cases h
        exact lv_dup hx hb hd (fm_c2_1 hc) (k H locs ls hP hS hl (fm_vd_st hv (List.forall_mem_cons.mpr ⟨hv.2.1 _ List.mem_cons_self, hv.2.1⟩)))
    · cases h
  case pop =>
    simp only [fm_stC] at h
    split at h
    · next v r =>
      cases hc : fm_c2 v with
      | true => rw [hc] at h; cases h
      | false =>
        rw [hc] at h
        cases h
        exact lv_pop hx hb hd (fm_c2_1 hc) (k H locs ls hP hS hl (fm_vd_st hv (fun w hw => hv.2.1 w (List.mem_cons_of_mem _ hw))))
    · cases h
  case dup_x1 =>
    simp only [fm_stC] at h
    split at h
    · next v w r =>
      cases hc : fm_c2 v with
      | true => rw [hc] at h; cases h
      | false =>
        cases hc' : fm_c2 w with
        | true => rw [hc, hc'] at h; cases h
        | false =>
          rw [hc, hc'] at h
          cases h
          exact lv_dup_x1 hx hb hd (fm_c2_1 hc) (fm_c2_1 hc') (k H locs ls hP hS hl (fm_vd_st hv (List.forall_mem_cons.mpr ⟨hv.2.1 _ List.mem_cons_self, List.forall_mem_cons.mpr ⟨hv.2.1 _ (List.mem_cons_of_mem _ List.mem_cons_self), List.forall_mem_cons.mpr ⟨hv.2.1 _ List.mem_cons_self, fun z hz => hv.2.1 z (List.mem_cons_of_mem _ (List.mem_cons_of_mem _ hz))⟩⟩⟩)))
    · cases h
  case dup2 =>
    simp only [fm_stC] at h
    split at h
    · next v w r =>
      cases hc : fm_c2 v with
      | true => rw [hc] at h; cases h
      | false =>
        cases hc' : fm_c2 w with
        | true => rw [hc, hc'] at h; cases h
        | false =>
          rw [hc, hc'] at h
          cases h
          exact lv_dup2_11 hx hb hd (fm_c2_1 hc) (fm_c2_1 hc') (k H locs ls hP hS hl (fm_vd_st hv (List.forall_mem_cons.mpr ⟨hv.2.1 _ List.mem_cons_self, List.forall_mem_cons.mpr ⟨hv.2.1 _ (List.mem_cons_of_mem _ List.mem_cons_self), hv.2.1⟩⟩)))
    · cases h
  case goto off =>
    simp only [fm_stC] at h
    split at h
    · next t ht =>
      cases h
      exact lv_goto hx hb hd ht (k H locs ls hP hS hl ⟨hv.1, hv.2.1, hv.2.2⟩)
    · cases h
  all_goals (simp only [fm_stC] at h; exact nomatch h)
end StC
end
section
/-! fields and array lengths -/
def fm_rt : FieldType → Bool
  | .object _ => true
  | .array _ => true
  | _ => false
theorem fm_rt_ok {ty : FieldType} (h : fm_rt ty = true) (a : Nat) : narrow ty (.ref a) = .ref a ∧ fits ty (.ref a) = true := by
  cases ty <;> first | (exact ⟨rfl, rfl⟩) | (cases h)
def fm_clp (ci : Nat) (C : String) (T : u_T) (N : Nat) (ty0 : Nat → FieldType) : Prop :=
  fm_cls[ci]? = some (C, T, N) ∧ fm_cls.getD ci ("", fm_T0, 0) = (C, T, N) ∧ N = fm_nf ci ∧ (∀ w ∈ u_ws C T N, w ∈ fm_TB) ∧ (∀ k, k < N → parseFieldDescriptor (T k).2.2.1 = some (ty0 k)) ∧ (∀ a, a < N → ∀ b, b < N → a ≠ b → (T a).2.1 ≠ (T b).2.1) ∧
  (∀ k, k < N → (T k).1 = C) ∧ (∀ k, k < N → (T k).2.2.2 = fm_fin ci k) ∧ (∀ k, k < N → fm_ft ci k = 0 → ty0 k = .int) ∧ (∀ k, k < N → fm_ft ci k = 1 → ty0 k = .boolean) ∧ (∀ k, k < N → fm_ft ci k = 2 → fm_rt (ty0 k) = true)
theorem fm_clo : ∀ ci, ci < 7 → ∃ C T N ty0, fm_clp ci C T N ty0
  | 0, _ => ⟨_, fm_T0, _, fm_y0, rfl, rfl, rfl, fm_in0, fm_ty0, fm_nm0, by decide +kernel, by decide +kernel, by decide +kernel, by decide +kernel, by decide +kernel⟩
  | 1, _ => ⟨_, fm_T1, _, fm_y1, rfl, rfl, rfl, fm_in1, fm_ty1, fm_nm1, by decide +kernel, by decide +kernel, by decide +kernel, by decide +kernel, by decide +kernel⟩
  | 2, _ => ⟨_, fm_T2, _, fm_y2, rfl, rfl, rfl, fm_in2, fm_ty2, fm_nm2, by decide +kernel, by decide +kernel, by decide +kernel, by decide +kernel, by decide +kernel⟩
  | 3, _ => ⟨_, fm_T3, _, fm_y3, rfl, rfl, rfl, fm_in3, fm_ty3, fm_nm3, by decide +kernel, by decide +kernel, by decide +kernel, by decide +kernel, by decide +kernel⟩
  | 4, _ => ⟨_, fm_T4, _, fm_y4, rfl, rfl, rfl, fm_in4, fm_ty4, fm_nm4, by decide +kernel, by decide +kernel, by decide +kernel, by decide +kernel, by decide +kernel⟩
  | 5, _ => ⟨_, fm_T5, _, fm_y5, rfl, rfl, rfl, fm_in5, fm_ty5, fm_nm5, by decide +kernel, by decide +kernel, by decide +kernel, by decide +kernel, by decide +kernel⟩
  | 6, _ => ⟨_, fm_T6, _, fm_y6, rfl, rfl, rfl, fm_in6, fm_ty6, fm_nm6, by decide +kernel, by decide +kernel, by decide +kernel, by decide +kernel, by decide +kernel⟩
  | n + 7, h => absurd h (by omega)
def fm_flo (oc : Nat) (fl : Nat → Option (Nat × Nat)) : Prop := ∀ ix f, fl ix = some f → f.1 < 7 ∧ f.2 < fm_nf f.1 ∧ Cond.fieldLink (fm_cn oc) ix (fm_cls.getD f.1 ("", fm_T0, 0)).1 ((fm_cls.getD f.1 ("", fm_T0, 0)).2.1 f.2).2.1 ((fm_cls.getD f.1 ("", fm_T0, 0)).2.1 f.2).2.2.1 ∈ fm_TB
def fm_is (k ci : Nat) : Bool := match fm_kc k with
  | some c => Nat.beq c ci && Nat.blt k 50
  | none => false
theorem fm_is_ok {k ci : Nat} (h : fm_is k ci = true) : fm_kc k = some ci ∧ k < 50 := by
  unfold fm_is at h
  split at h
  · next c hc =>
    simp only [Bool.and_eq_true] at h
    exact ⟨by rw [hc, Nat.eq_of_beq_eq_true h.1], Nat.le_of_ble_eq_true h.2⟩
  · cases h
theorem fm_ce_o {cA : Nat → ClassId} {ad : fm_A} {M : fm_M} {k i ci : Nat} (h : fm_kc k = some ci) : fm_ce cA ad M k i = .inr (ci, (List.range (fm_nf ci)).map (fm_fv ad M ci k i)) := by
  unfold fm_ce
  rw [h]
theorem fm_fs_at {ad : fm_A} {M : fm_M} {ci k i sl N : Nat} (h : sl < N) : ((List.range N).map (fm_fv ad M ci k i))[sl]? = some (fm_fv ad M ci k i sl) := by
  rw [List.getElem?_map, List.getElem?_range h]
  rfl
theorem fm_fs_set {ad : fm_A} {M M' : fm_M} {ci k i sl N : Nat} {v : Value} (h : sl < N) (hv : fm_fv ad M' ci k i sl = v) (ho : ∀ z, z ≠ sl → fm_fv ad M' ci k i z = fm_fv ad M ci k i z) : ((List.range N).map (fm_fv ad M ci k i)).set sl v = (List.range N).map (fm_fv ad M' ci k i) := by
  apply List.ext_getElem?
  intro n
  by_cases hn : n = sl
  · subst hn
    rw [List.getElem?_set_self (by simpa using h), fm_fs_at h, hv]
  · rw [List.getElem?_set_ne (Ne.symm hn), List.getElem?_map, List.getElem?_map]
    cases hz : (List.range N)[n]? with
    | none => rfl
    | some z =>
      have : z = n := by
        have h2 := List.getElem?_eq_some_iff.mp hz
        obtain ⟨h3, h4⟩ := h2
        rw [List.getElem_range] at h4
        exact h4.symm
      subst this
      simp only [Option.map_some]
      rw [ho z hn]
def fm_stG (fl : Nat → Option (Nat × Nat)) (ins : Instr) (pc : Nat) (l : List (Nat × fm_V)) (st : List fm_V) (M : fm_M) : Option fm_C :=
  match ins with
  | .getfield ix => match st with
    | .inr (.inr (.inr (.inr q))) :: r => match fl ix with
      | some f => cond (fm_is q.1 f.1) (some (pc + 3, l, cond (Nat.beq (fm_ft f.1 f.2) 2) (.inr (.inr (.inr (.inr (M.2.2.2 q.1 q.2 f.2))))) (.inl (M.1 q.1 q.2 f.2)) :: r, M)) none
      | none => none
    | _ => none
  | .putfield ix => match st with
    | .inl x :: .inr (.inr (.inr (.inr q))) :: r => match fl ix with
      | some f => cond (fm_is q.1 f.1 && (Nat.beq (fm_ft f.1 f.2) 0 && !fm_fin f.1 f.2)) (some (pc + 3, l, r, (fm_u M.1 q.1 q.2 f.2 x, M.2))) none
      | none => none
    | .inr (.inr (.inr (.inr w))) :: .inr (.inr (.inr (.inr q))) :: r => match fl ix with
      | some f => cond (fm_is q.1 f.1 && (Nat.beq (fm_ft f.1 f.2) 2 && !fm_fin f.1 f.2)) (some (pc + 3, l, r, (M.1, M.2.1, M.2.2.1, fm_u M.2.2.2 q.1 q.2 f.2 w))) none
      | none => none
    | _ => none
  | .arraylength => match st with
    | .inr (.inr (.inr (.inr q))) :: r => match fm_ka q.1 with
      | some t => cond (Nat.blt q.1 50 && Nat.blt t.1 6) (some (pc + 1, l, .inl (Int32.ofNat t.2) :: r, M)) none
      | none => none
    | _ => none
  | _ => none
theorem fm_kc_ka : ∀ k, k < 50 → fm_kc k = none ∨ fm_ka k = none := by decide +kernel
theorem fm_ce_a {cA : Nat → ClassId} {ad : fm_A} {M : fm_M} {k i : Nat} {t : Nat × Nat} (hk : k < 50) (h : fm_ka k = some t) : fm_ce cA ad M k i = .inl (cA t.1, t.2, fm_ar ad M t.1 k i) := by
  unfold fm_ce
  rcases fm_kc_ka k hk with h2 | h2
  · rw [h2, h]
  · rw [h2] at h
    cases h
theorem fm_tys_at {cA : Nat → ClassId} {t : Nat} (h : t < 6) : ∃ ty, (fm_tys cA)[t]? = some (cA t, ty) := by
  rcases (show t = 0 ∨ t = 1 ∨ t = 2 ∨ t = 3 ∨ t = 4 ∨ t = 5 by omega) with rfl | rfl | rfl | rfl | rfl | rfl <;> exact ⟨_, rfl⟩
section StG
variable {l : Launch} {D : va_G} {cA : Nat → ClassId} {ad : fm_A} {L : Nat} {xs : Nat → Int32} {oc : Nat} {cc : ByteArray} {nL : Nat} {p : Program} {e : Env} {R : Room} {s : State} {m : MethodId} {args : Array Value} {below : List Frame} {meth : Method} {c : Code} {A : Nat → Prop} {Q : State → Prop} {cells slots : Nat}
set_option maxHeartbeats 4000000 in
/-- a field written: the world and the pure memory go on together -/
theorem fm_putf (X : fm_cx l D cA ad L xs oc cc nL p s m args meth c A) {fl : Nat → Option (Nat × Nat)} (hfl : fm_flo oc fl) {ix : Nat} {q f : Nat × Nat} (hq : fm_is q.1 f.1 = true) (hf : fl ix = some f) (hfin : fm_fin f.1 f.2 = false) (hok : q.2 < fm_cnt q.1) {pc : Nat} {rest : List Value} {v : Value} {M M' : fm_M}
    (hty : ∀ ty0 : Nat → FieldType, (∀ k, k < fm_nf f.1 → fm_ft f.1 k = 0 → ty0 k = .int) → (∀ k, k < fm_nf f.1 → fm_ft f.1 k = 1 → ty0 k = .boolean) → (∀ k, k < fm_nf f.1 → fm_ft f.1 k = 2 → fm_rt (ty0 k) = true) → narrow (ty0 f.2) v = v ∧ fits (ty0 f.2) v = true)
    (hself : fm_fv ad M' f.1 q.1 q.2 f.2 = v) (hslots : ∀ z, z ≠ f.2 → fm_fv ad M' f.1 q.1 q.2 z = fm_fv ad M f.1 q.1 q.2 z) (hother : ∀ k' i', (k', i') ≠ (q.1, q.2) → fm_ce cA ad M' k' i' = fm_ce cA ad M k' i')
    (hd : decode cc pc = .ok (.putfield ix, 3)) {H : Heap} {locs : List Loc} {ls : Array Slot} (hP : va_P D fm_cls (fm_wl cA ad M) H) (hS : va_S A s.heap H locs)
    (k : ∀ (H1 : Heap) (locs1 : List Loc), va_P D fm_cls (fm_wl cA ad M') H1 → va_S A s.heap H1 locs1 → W p l e R s m args below meth c H1 locs1 cells slots Q (F0 m (pc + 3) ls rest)) :
    W p l e R s m args below meth c H locs cells slots Q (F0 m pc ls (v :: .ref (ad q.1 q.2) :: rest)) := by
  obtain ⟨hx, hb, -, hown, hts, hK, hD, -⟩ := X
  obtain ⟨h7, hsl, hlink⟩ := hfl ix f hf
  obtain ⟨C, T, N, ty0, hc, hgd, hN, hin, hty0, hnm, hC, hfi, t0, t1, t2⟩ := fm_clo f.1 h7
  obtain ⟨hkc, hk50⟩ := fm_is_ok hq
  obtain ⟨j, hj⟩ := fm_ki_at hk50 hok
  subst hN
  rw [hgd] at hlink
  have he : (fm_wl cA ad M)[j]? = some (ad q.1 q.2, .inr (f.1, (List.range (fm_nf f.1)).map (fm_fv ad M f.1 q.1 q.2))) := by rw [fm_wl_at hj, fm_ce_o hkc]
  obtain ⟨n1, n2⟩ := hty ty0 t0 t1 t2
  have hset := fm_wl_set (cA := cA) (ad := ad) (M := M) (M' := M') hj hother (e := .inr (f.1, (List.range (fm_nf f.1)).map (fm_fv ad M' f.1 q.1 q.2))) (fm_ce_o hkc)
  refine va_put (D := D) (cl := fm_cls) (ref := C) (C := C) (T := T) (N := fm_nf f.1) (ci := f.1) (Ts := fm_TB) hx hb hts hin ty0 hty0 hnm hown hK hP (hD M) hS j he hc f.2 hsl (hts _ hlink) (fun z hz => by rw [← hC f.2 hsl]; exact hz) (by rw [hfi f.2 hsl]; exact hfin) (hty0 f.2 hsl) n1 n2 (by simpa using hsl) hd (fun H1 locs1 hP1 hD1 hS1 => ?_)
  rw [fm_fs_set hsl hself hslots, hset] at hP1
  exact k H1 locs1 hP1 hS1
theorem fm_vd_mem {pc pc' : Nat} {l : List (Nat × fm_V)} {st st' : List fm_V} {M M' : fm_M} (h : fm_vd (pc, l, st, M)) (hs : ∀ w ∈ st', w ∈ st) (hm : fm_okM M') : fm_vd (pc', l, st', M') := ⟨h.1, fun w hw => h.2.1 w (hs w hw), hm⟩
set_option maxHeartbeats 4000000 in
theorem fm_soG (X : fm_cx l D cA ad L xs oc cc nL p s m args meth c A) {fl : Nat → Option (Nat × Nat)} (hfl : fm_flo oc fl) {ins : Instr} {pc : Nat} {lo : List (Nat × fm_V)} {st : List fm_V} {M : fm_M} {C' : fm_C} (hd : decode cc pc = .ok (ins, fm_ln ins)) (h : fm_stG fl ins pc lo st M = some C')
    (k : fm_ww l D cA ad nL p e R s m args below meth c A Q cells slots C') : fm_ww l D cA ad nL p e R s m args below meth c A Q cells slots (pc, lo, st, M) := by
  have X0 := X
  obtain ⟨hx, hb, -, hown, hts, hK, hD, -⟩ := X
  intro H locs ls hP hS hl hv
  cases ins
  case getfield ix =>
    simp only [fm_stG] at h
    split at h
    · next q r =>
      split at h
      · next f hf =>
        cases hq : fm_is q.1 f.1 with
        | false => rw [hq] at h; cases h
        | true =>
          rw [hq] at h
          cases h
          obtain ⟨h7, hsl, hlink⟩ := hfl ix f hf
          obtain ⟨C, T, N, ty0, hc, hgd, hN, hin, hty0, hnm, hC, hfi, t0, t1, t2⟩ := fm_clo f.1 h7
          obtain ⟨hkc, hk50⟩ := fm_is_ok hq
          obtain ⟨j, hj⟩ := fm_ki_at hk50 (hv.2.1 _ List.mem_cons_self)
          subst hN
          rw [hgd] at hlink
          have he : (fm_wl cA ad M)[j]? = some (ad q.1 q.2, .inr (f.1, (List.range (fm_nf f.1)).map (fm_fv ad M f.1 q.1 q.2))) := by rw [fm_wl_at hj, fm_ce_o hkc]
          refine va_get (D := D) (cl := fm_cls) (ref := C) (C := C) (T := T) (N := fm_nf f.1) (ci := f.1) (Ts := fm_TB) hx hb hts hin hown hK hP j he hc f.2 hsl (hts _ hlink) (fun z hz => by rw [← hC f.2 hsl]; exact hz) (v := fm_cv ad (cond (Nat.beq (fm_ft f.1 f.2) 2) (.inr (.inr (.inr (.inr (M.2.2.2 q.1 q.2 f.2))))) (.inl (M.1 q.1 q.2 f.2)))) ?_ hd ?_
          · rw [fm_fs_at hsl]
            unfold fm_fv
            cases Nat.beq (fm_ft f.1 f.2) 2 <;> rfl
          · refine k H locs ls hP hS hl (fm_vd_st hv (List.forall_mem_cons.mpr ⟨?_, fun w hw => hv.2.1 w (List.mem_cons_of_mem _ hw)⟩))
            cases Nat.beq (fm_ft f.1 f.2) 2
            · exact trivial
            · exact hv.2.2 _ _ _ hk50 (hv.2.1 _ List.mem_cons_self) (by unfold fm_sz; rw [hkc]; exact hsl)
      · cases h
    · cases h
  case putfield ix =>
    simp only [fm_stG] at h
    split at h
    · next x q r =>
      split at h
      · next f hf =>
        cases hq : fm_is q.1 f.1 with
        | false => rw [hq] at h; cases h
        | true =>
          cases hft : Nat.beq (fm_ft f.1 f.2) 0 with
          | false => rw [hq, hft] at h; cases h
          | true =>
            cases hfin : fm_fin f.1 f.2 with
            | true => rw [hq, hft, hfin] at h; cases h
            | false =>
              rw [hq, hft, hfin] at h
              cases h
              have hft' : fm_ft f.1 f.2 = 0 := Nat.eq_of_beq_eq_true hft
              have hsl := (hfl ix f hf).2.1
              refine fm_putf (M' := (fm_u M.1 q.1 q.2 f.2 x, M.2)) X0 hfl hq hf hfin (hv.2.1 _ (List.mem_cons_of_mem _ List.mem_cons_self)) (fun ty0 t0 _ _ => by rw [t0 f.2 hsl hft']; exact ⟨rfl, rfl⟩) ?_ ?_ ?_ hd hP hS ?_
              · unfold fm_fv
                rw [hft']
                simp [fm_u_if, fm_cv]
                rfl
              · intro z hz
                unfold fm_fv
                simp [fm_u_if, hz]
              · intro k' i' hne
                exact fm_ce_congr (fun _ => fm_u_ne hne) (fun _ => rfl) (fun _ => rfl) (fun _ => rfl)
              · intro H1 locs1 hP1 hS1
                exact k H1 locs1 ls hP1 hS1 hl (fm_vd_mem hv (fun w hw => List.mem_cons_of_mem _ (List.mem_cons_of_mem _ hw)) hv.2.2)
      · cases h
    · next w q r =>
      split at h
      · next f hf =>
        cases hq : fm_is q.1 f.1 with
        | false => rw [hq] at h; cases h
        | true =>
          cases hft : Nat.beq (fm_ft f.1 f.2) 2 with
          | false => rw [hq, hft] at h; cases h
          | true =>
            cases hfin : fm_fin f.1 f.2 with
            | true => rw [hq, hft, hfin] at h; cases h
            | false =>
              rw [hq, hft, hfin] at h
              cases h
              have hft' : fm_ft f.1 f.2 = 2 := Nat.eq_of_beq_eq_true hft
              have hsl := (hfl ix f hf).2.1
              refine fm_putf (M' := (M.1, M.2.1, M.2.2.1, fm_u M.2.2.2 q.1 q.2 f.2 w)) X0 hfl hq hf hfin (hv.2.1 _ (List.mem_cons_of_mem _ List.mem_cons_self)) (fun ty0 _ _ t2 => fm_rt_ok (t2 f.2 hsl hft') _) ?_ ?_ ?_ hd hP hS ?_
              · unfold fm_fv
                rw [hft']
                simp [fm_u_if]
              · intro z hz
                unfold fm_fv
                simp [fm_u_if, hz]
              · intro k' i' hne
                exact fm_ce_congr (fun _ => rfl) (fun _ => rfl) (fun _ => rfl) (fun _ => fm_u_ne hne)
              · intro H1 locs1 hP1 hS1
                refine k H1 locs1 ls hP1 hS1 hl (fm_vd_mem hv (fun w hw => List.mem_cons_of_mem _ (List.mem_cons_of_mem _ hw)) ?_)
                intro k' i' s' z1 z2 z3
                show ((fm_u M.2.2.2 q.1 q.2 f.2 w) k' i' s').2 < fm_cnt ((fm_u M.2.2.2 q.1 q.2 f.2 w) k' i' s').1
                rw [fm_u_if]
                split
                · exact hv.2.1 _ List.mem_cons_self
                · exact hv.2.2 _ _ _ z1 z2 z3
      · cases h
    · cases h
  case arraylength =>
    simp only [fm_stG] at h
    split at h
    · next q r =>
      split at h
      · next t ht =>
        cases h50 : Nat.blt q.1 50 with
        | false => rw [h50] at h; cases h
        | true =>
          cases h6 : Nat.blt t.1 6 with
          | false => rw [h50, h6] at h; cases h
          | true =>
            rw [h50, h6] at h
            cases h
            have hk50 : q.1 < 50 := Nat.le_of_ble_eq_true h50
            obtain ⟨j, hj⟩ := fm_ki_at hk50 (hv.2.1 _ List.mem_cons_self)
            obtain ⟨ty, hty⟩ := fm_tys_at (cA := cA) (Nat.le_of_ble_eq_true h6)
            have he : (fm_wl cA ad M)[j]? = some (ad q.1 q.2, .inl (cA t.1, t.2, fm_ar ad M t.1 q.1 q.2)) := by rw [fm_wl_at hj, fm_ce_a hk50 ht]
            exact va_alen hx hb hK hP j t.1 he hty rfl hd (k H locs ls hP hS hl (fm_vd_st hv (List.forall_mem_cons.mpr ⟨trivial, fun w hw => hv.2.1 w (List.mem_cons_of_mem _ hw)⟩)))
      · cases h
    · cases h
  all_goals (simp only [fm_stG] at h; exact nomatch h)
end StG
end
section
theorem fm_sz_a {k : Nat} {t : Nat × Nat} (hk : k < 50) (h : fm_ka k = some t) : fm_sz k = t.2 := by
  unfold fm_sz
  rcases fm_kc_ka k hk with z | z
  · rw [z, h]
  · rw [z] at h; cases h
/-! instructions that go on only where something holds: divisors, no NaN, indices -/
def fm_gdA (ins : Instr) (pc : Nat) (l : List (Nat × fm_V)) (st : List fm_V) (M : fm_M) : Option (Prop × fm_C) :=
  match ins with
  | .idiv => match st with
    | .inl y :: .inl x :: r => some (¬ y = 0, (pc + 1, l, .inl (x / y) :: r, M))
    | _ => none
  | .irem => match st with
    | .inl y :: .inl x :: r => some (¬ y = 0, (pc + 1, l, .inl (x - x / y * y) :: r, M))
    | _ => none
  | .ldiv => match st with
    | .inr (.inl y) :: .inr (.inl x) :: r => some (¬ y = 0, (pc + 1, l, .inr (.inl (x / y)) :: r, M))
    | _ => none
  | .lrem => match st with
    | .inr (.inl y) :: .inr (.inl x) :: r => some (¬ y = 0, (pc + 1, l, .inr (.inl (x - x / y * y)) :: r, M))
    | _ => none
  | .dadd => match st with
    | .inr (.inr (.inr (.inl y))) :: .inr (.inr (.inr (.inl x))) :: r => some (vf_n64 (FP.dadd x y), (pc + 1, l, .inr (.inr (.inr (.inl (FP.dadd x y)))) :: r, M))
    | _ => none
  | .fadd => match st with
    | .inr (.inr (.inl y)) :: .inr (.inr (.inl x)) :: r => some (vf_n32 (FP.fadd x y), (pc + 1, l, .inr (.inr (.inl (FP.fadd x y))) :: r, M))
    | _ => none
  | .dsub => match st with
    | .inr (.inr (.inr (.inl y))) :: .inr (.inr (.inr (.inl x))) :: r => some (vf_n64 (FP.dsub x y), (pc + 1, l, .inr (.inr (.inr (.inl (FP.dsub x y)))) :: r, M))
    | _ => none
  | .fsub => match st with
    | .inr (.inr (.inl y)) :: .inr (.inr (.inl x)) :: r => some (vf_n32 (FP.fsub x y), (pc + 1, l, .inr (.inr (.inl (FP.fsub x y))) :: r, M))
    | _ => none
  | .dmul => match st with
    | .inr (.inr (.inr (.inl y))) :: .inr (.inr (.inr (.inl x))) :: r => some (vf_n64 (FP.dmul x y), (pc + 1, l, .inr (.inr (.inr (.inl (FP.dmul x y)))) :: r, M))
    | _ => none
  | .fmul => match st with
    | .inr (.inr (.inl y)) :: .inr (.inr (.inl x)) :: r => some (vf_n32 (FP.fmul x y), (pc + 1, l, .inr (.inr (.inl (FP.fmul x y))) :: r, M))
    | _ => none
  | .ddiv => match st with
    | .inr (.inr (.inr (.inl y))) :: .inr (.inr (.inr (.inl x))) :: r => some (vf_n64 (FP.ddiv x y), (pc + 1, l, .inr (.inr (.inr (.inl (FP.ddiv x y)))) :: r, M))
    | _ => none
  | .fdiv => match st with
    | .inr (.inr (.inl y)) :: .inr (.inr (.inl x)) :: r => some (vf_n32 (FP.fdiv x y), (pc + 1, l, .inr (.inr (.inl (FP.fdiv x y))) :: r, M))
    | _ => none
  | .f2d => match st with
    | .inr (.inr (.inl x)) :: r => some (vf_n64 (FP.f2d x), (pc + 1, l, .inr (.inr (.inr (.inl (FP.f2d x)))) :: r, M))
    | _ => none
  | .d2f => match st with
    | .inr (.inr (.inr (.inl x))) :: r => some (vf_n32 (FP.d2f x), (pc + 1, l, .inr (.inr (.inl (FP.d2f x))) :: r, M))
    | _ => none
  | _ => none
section GdA
variable {l : Launch} {D : va_G} {cA : Nat → ClassId} {ad : fm_A} {L : Nat} {xs : Nat → Int32} {oc : Nat} {cc : ByteArray} {nL : Nat} {p : Program} {e : Env} {R : Room} {s : State} {m : MethodId} {args : Array Value} {below : List Frame} {meth : Method} {c : Code} {A : Nat → Prop} {Q : State → Prop} {cells slots : Nat}
set_option maxHeartbeats 4000000 in
theorem fm_goA (X : fm_cx l D cA ad L xs oc cc nL p s m args meth c A) {ins : Instr} {pc : Nat} {lo : List (Nat × fm_V)} {st : List fm_V} {M : fm_M} {g : Prop × fm_C} (hd : decode cc pc = .ok (ins, fm_ln ins)) (h : fm_gdA ins pc lo st M = some g) (hg : g.1)
    (k : fm_ww l D cA ad nL p e R s m args below meth c A Q cells slots g.2) : fm_ww l D cA ad nL p e R s m args below meth c A Q cells slots (pc, lo, st, M) := by
  obtain ⟨hx, hb, -, hown, hts, -⟩ := X
  intro H locs ls hP hS hl hv
  cases ins
  case idiv =>
    simp only [fm_gdA] at h
    split at h
    · next y x r =>
      cases h
      exact lv_idiv hx hb hd hg (k H locs ls hP hS hl (fm_vd_st hv (List.forall_mem_cons.mpr ⟨trivial, fun w hw => hv.2.1 w (List.mem_cons_of_mem _ (List.mem_cons_of_mem _ hw))⟩)))
    · cases h
  case irem =>
    simp only [fm_gdA] at h
    split at h
    · next y x r =>
      cases h
      exact lv_irem hx hb hd hg (k H locs ls hP hS hl (fm_vd_st hv (List.forall_mem_cons.mpr ⟨trivial, fun w hw => hv.2.1 w (List.mem_cons_of_mem _ (List.mem_cons_of_mem _ hw))⟩)))
    · cases h
  case ldiv =>
    simp only [fm_gdA] at h
    split at h
    · next y x r =>
      cases h
      exact lv_ldiv hx hb hd hg (k H locs ls hP hS hl (fm_vd_st hv (List.forall_mem_cons.mpr ⟨trivial, fun w hw => hv.2.1 w (List.mem_cons_of_mem _ (List.mem_cons_of_mem _ hw))⟩)))
    · cases h
  case lrem =>
    simp only [fm_gdA] at h
    split at h
    · next y x r =>
      cases h
      exact lv_lrem hx hb hd hg (k H locs ls hP hS hl (fm_vd_st hv (List.forall_mem_cons.mpr ⟨trivial, fun w hw => hv.2.1 w (List.mem_cons_of_mem _ (List.mem_cons_of_mem _ hw))⟩)))
    · cases h
  case dadd =>
    simp only [fm_gdA] at h
    split at h
    · next y x r =>
      cases h
      exact lv_dadd hx hb hd hg (k H locs ls hP hS hl (fm_vd_st hv (List.forall_mem_cons.mpr ⟨trivial, fun w hw => hv.2.1 w (List.mem_cons_of_mem _ (List.mem_cons_of_mem _ hw))⟩)))
    · cases h
  case fadd =>
    simp only [fm_gdA] at h
    split at h
    · next y x r =>
      cases h
      exact lv_fadd hx hb hd hg (k H locs ls hP hS hl (fm_vd_st hv (List.forall_mem_cons.mpr ⟨trivial, fun w hw => hv.2.1 w (List.mem_cons_of_mem _ (List.mem_cons_of_mem _ hw))⟩)))
    · cases h
  case dsub =>
    simp only [fm_gdA] at h
    split at h
    · next y x r =>
      cases h
      exact lv_dsub hx hb hd hg (k H locs ls hP hS hl (fm_vd_st hv (List.forall_mem_cons.mpr ⟨trivial, fun w hw => hv.2.1 w (List.mem_cons_of_mem _ (List.mem_cons_of_mem _ hw))⟩)))
    · cases h
  case fsub =>
    simp only [fm_gdA] at h
    split at h
    · next y x r =>
      cases h
      exact lv_fsub hx hb hd hg (k H locs ls hP hS hl (fm_vd_st hv (List.forall_mem_cons.mpr ⟨trivial, fun w hw => hv.2.1 w (List.mem_cons_of_mem _ (List.mem_cons_of_mem _ hw))⟩)))
    · cases h
  case dmul =>
    simp only [fm_gdA] at h
    split at h
    · next y x r =>
      cases h
      exact lv_dmul hx hb hd hg (k H locs ls hP hS hl (fm_vd_st hv (List.forall_mem_cons.mpr ⟨trivial, fun w hw => hv.2.1 w (List.mem_cons_of_mem _ (List.mem_cons_of_mem _ hw))⟩)))
    · cases h
  case fmul =>
    simp only [fm_gdA] at h
    split at h
    · next y x r =>
      cases h
      exact lv_fmul hx hb hd hg (k H locs ls hP hS hl (fm_vd_st hv (List.forall_mem_cons.mpr ⟨trivial, fun w hw => hv.2.1 w (List.mem_cons_of_mem _ (List.mem_cons_of_mem _ hw))⟩)))
    · cases h
  case ddiv =>
    simp only [fm_gdA] at h
    split at h
    · next y x r =>
      cases h
      exact lv_ddiv hx hb hd hg (k H locs ls hP hS hl (fm_vd_st hv (List.forall_mem_cons.mpr ⟨trivial, fun w hw => hv.2.1 w (List.mem_cons_of_mem _ (List.mem_cons_of_mem _ hw))⟩)))
    · cases h
  case fdiv =>
    simp only [fm_gdA] at h
    split at h
    · next y x r =>
      cases h
      exact lv_fdiv hx hb hd hg (k H locs ls hP hS hl (fm_vd_st hv (List.forall_mem_cons.mpr ⟨trivial, fun w hw => hv.2.1 w (List.mem_cons_of_mem _ (List.mem_cons_of_mem _ hw))⟩)))
    · cases h
  case f2d =>
    simp only [fm_gdA] at h
    split at h
    · next x r =>
      cases h
      exact lv_f2d hx hb hd hg (k H locs ls hP hS hl (fm_vd_st hv (List.forall_mem_cons.mpr ⟨trivial, fun w hw => hv.2.1 w (List.mem_cons_of_mem _ hw)⟩)))
    · cases h
  case d2f =>
    simp only [fm_gdA] at h
    split at h
    · next x r =>
      cases h
      exact lv_d2f hx hb hd hg (k H locs ls hP hS hl (fm_vd_st hv (List.forall_mem_cons.mpr ⟨trivial, fun w hw => hv.2.1 w (List.mem_cons_of_mem _ hw)⟩)))
    · cases h
  all_goals (simp only [fm_gdA] at h; exact nomatch h)
end GdA
/-! arrays -/
def fm_gdB (ins : Instr) (pc : Nat) (l : List (Nat × fm_V)) (st : List fm_V) (M : fm_M) : Option (Prop × fm_C) :=
  match ins with
  | .iaload => match st with
    | .inl j :: .inr (.inr (.inr (.inr q))) :: r => match fm_ka q.1 with
      | some t => cond (Nat.blt q.1 50 && Nat.beq t.1 0) (some (vp_in j t.2, (pc + 1, l, .inl (M.1 q.1 q.2 j.toNatClampNeg) :: r, M))) none
      | none => none
    | _ => none
  | .baload => match st with
    | .inl j :: .inr (.inr (.inr (.inr q))) :: r => match fm_ka q.1 with
      | some t => cond (Nat.blt q.1 50 && Nat.beq t.1 3) (some (vp_in j t.2, (pc + 1, l, .inl (M.1 q.1 q.2 j.toNatClampNeg) :: r, M))) none
      | none => none
    | _ => none
  | .laload => match st with
    | .inl j :: .inr (.inr (.inr (.inr q))) :: r => match fm_ka q.1 with
      | some t => cond (Nat.blt q.1 50 && Nat.beq t.1 1) (some (vp_in j t.2, (pc + 1, l, .inr (.inl (M.2.1 q.1 q.2 j.toNatClampNeg)) :: r, M))) none
      | none => none
    | _ => none
  | .daload => match st with
    | .inl j :: .inr (.inr (.inr (.inr q))) :: r => match fm_ka q.1 with
      | some t => cond (Nat.blt q.1 50 && Nat.beq t.1 2) (some (vp_in j t.2, (pc + 1, l, .inr (.inr (.inr (.inl (M.2.2.1 q.1 q.2 j.toNatClampNeg)))) :: r, M))) none
      | none => none
    | _ => none
  | .aaload => match st with
    | .inl j :: .inr (.inr (.inr (.inr q))) :: r => match fm_ka q.1 with
      | some t => cond (Nat.blt q.1 50 && (Nat.beq t.1 4 || Nat.beq t.1 5)) (some (vp_in j t.2, (pc + 1, l, .inr (.inr (.inr (.inr (M.2.2.2 q.1 q.2 j.toNatClampNeg)))) :: r, M))) none
      | none => none
    | _ => none
  | .iastore => match st with
    | .inl x :: .inl j :: .inr (.inr (.inr (.inr q))) :: r => match fm_ka q.1 with
      | some t => cond (Nat.blt q.1 50 && Nat.beq t.1 0) (some (vp_in j t.2, (pc + 1, l, r, (fm_u M.1 q.1 q.2 j.toNatClampNeg x, M.2)))) none
      | none => none
    | _ => none
  | .bastore => match st with
    | .inl x :: .inl j :: .inr (.inr (.inr (.inr q))) :: r => match fm_ka q.1 with
      | some t => cond (Nat.blt q.1 50 && Nat.beq t.1 3) (some (vp_in j t.2 ∧ (x = 0 ∨ x = 1), (pc + 1, l, r, (fm_u M.1 q.1 q.2 j.toNatClampNeg x, M.2)))) none
      | none => none
    | _ => none
  | .lastore => match st with
    | .inr (.inl x) :: .inl j :: .inr (.inr (.inr (.inr q))) :: r => match fm_ka q.1 with
      | some t => cond (Nat.blt q.1 50 && Nat.beq t.1 1) (some (vp_in j t.2, (pc + 1, l, r, (M.1, fm_u M.2.1 q.1 q.2 j.toNatClampNeg x, M.2.2)))) none
      | none => none
    | _ => none
  | .dastore => match st with
    | .inr (.inr (.inr (.inl x))) :: .inl j :: .inr (.inr (.inr (.inr q))) :: r => match fm_ka q.1 with
      | some t => cond (Nat.blt q.1 50 && Nat.beq t.1 2) (some (vp_in j t.2, (pc + 1, l, r, (M.1, M.2.1, fm_u M.2.2.1 q.1 q.2 j.toNatClampNeg x, M.2.2.2)))) none
      | none => none
    | _ => none
  | _ => none
theorem fm_bb {x : Int32} (h : x = 0 ∨ x = 1) : vp_nar .boolean x = x := by
  rcases h with rfl | rfl <;> decide
section GdB
variable {l : Launch} {D : va_G} {cA : Nat → ClassId} {ad : fm_A} {L : Nat} {xs : Nat → Int32} {oc : Nat} {cc : ByteArray} {nL : Nat} {p : Program} {e : Env} {R : Room} {s : State} {m : MethodId} {args : Array Value} {below : List Frame} {meth : Method} {c : Code} {A : Nat → Prop} {Q : State → Prop} {cells slots : Nat}
set_option maxHeartbeats 4000000 in
theorem fm_goB (X : fm_cx l D cA ad L xs oc cc nL p s m args meth c A) {ins : Instr} {pc : Nat} {lo : List (Nat × fm_V)} {st : List fm_V} {M : fm_M} {g : Prop × fm_C} (hd : decode cc pc = .ok (ins, fm_ln ins)) (h : fm_gdB ins pc lo st M = some g) (hg : g.1)
    (k : fm_ww l D cA ad nL p e R s m args below meth c A Q cells slots g.2) : fm_ww l D cA ad nL p e R s m args below meth c A Q cells slots (pc, lo, st, M) := by
  obtain ⟨hx, hb, -, hown, hts, hK, hD, -⟩ := X
  intro H locs ls hP hS hl hv
  cases ins
  case iaload =>
    simp only [fm_gdB] at h
    split at h
    · next j q r =>
      split at h
      · next t ht =>
        cases h50 : Nat.blt q.1 50 with
        | false => rw [h50] at h; cases h
        | true =>
          cases h6 : Nat.beq t.1 0 with
          | false => rw [h50, h6] at h; cases h
          | true =>
            rw [h50, h6] at h
            cases h
            have hk50 : q.1 < 50 := Nat.le_of_ble_eq_true h50
            obtain ⟨i, hj⟩ := fm_ki_at hk50 (hv.2.1 _ (List.mem_cons_of_mem _ List.mem_cons_self))
            obtain ⟨t1, t2⟩ := t
            have e6 : t1 = 0 := Nat.eq_of_beq_eq_true h6
            subst e6
            have he : (fm_wl cA ad M)[i]? = some (ad q.1 q.2, .inl (cA 0, t2, fm_ar ad M 0 q.1 q.2)) := by rw [fm_wl_at hj, fm_ce_a hk50 ht]
            exact va_iald hx hb hK hP i 0 he rfl hg hd (k H locs ls hP hS hl (fm_vd_st hv (List.forall_mem_cons.mpr ⟨trivial, fun w hw => hv.2.1 w (List.mem_cons_of_mem _ (List.mem_cons_of_mem _ hw))⟩)))
      · cases h
    · cases h
  case baload =>
    simp only [fm_gdB] at h
    split at h
    · next j q r =>
      split at h
      · next t ht =>
        cases h50 : Nat.blt q.1 50 with
        | false => rw [h50] at h; cases h
        | true =>
          cases h6 : Nat.beq t.1 3 with
          | false => rw [h50, h6] at h; cases h
          | true =>
            rw [h50, h6] at h
            cases h
            have hk50 : q.1 < 50 := Nat.le_of_ble_eq_true h50
            obtain ⟨i, hj⟩ := fm_ki_at hk50 (hv.2.1 _ (List.mem_cons_of_mem _ List.mem_cons_self))
            obtain ⟨t1, t2⟩ := t
            have e6 : t1 = 3 := Nat.eq_of_beq_eq_true h6
            subst e6
            have he : (fm_wl cA ad M)[i]? = some (ad q.1 q.2, .inl (cA 3, t2, fm_ar ad M 3 q.1 q.2)) := by rw [fm_wl_at hj, fm_ce_a hk50 ht]
            exact va_zald hx hb hK hP i 3 he rfl hg hd (k H locs ls hP hS hl (fm_vd_st hv (List.forall_mem_cons.mpr ⟨trivial, fun w hw => hv.2.1 w (List.mem_cons_of_mem _ (List.mem_cons_of_mem _ hw))⟩)))
      · cases h
    · cases h
  case laload =>
    simp only [fm_gdB] at h
    split at h
    · next j q r =>
      split at h
      · next t ht =>
        cases h50 : Nat.blt q.1 50 with
        | false => rw [h50] at h; cases h
        | true =>
          cases h6 : Nat.beq t.1 1 with
          | false => rw [h50, h6] at h; cases h
          | true =>
            rw [h50, h6] at h
            cases h
            have hk50 : q.1 < 50 := Nat.le_of_ble_eq_true h50
            obtain ⟨i, hj⟩ := fm_ki_at hk50 (hv.2.1 _ (List.mem_cons_of_mem _ List.mem_cons_self))
            obtain ⟨t1, t2⟩ := t
            have e6 : t1 = 1 := Nat.eq_of_beq_eq_true h6
            subst e6
            have he : (fm_wl cA ad M)[i]? = some (ad q.1 q.2, .inl (cA 1, t2, fm_ar ad M 1 q.1 q.2)) := by rw [fm_wl_at hj, fm_ce_a hk50 ht]
            exact va_lald hx hb hK hP i 1 he rfl hg hd (k H locs ls hP hS hl (fm_vd_st hv (List.forall_mem_cons.mpr ⟨trivial, fun w hw => hv.2.1 w (List.mem_cons_of_mem _ (List.mem_cons_of_mem _ hw))⟩)))
      · cases h
    · cases h
  case daload =>
    simp only [fm_gdB] at h
    split at h
    · next j q r =>
      split at h
      · next t ht =>
        cases h50 : Nat.blt q.1 50 with
        | false => rw [h50] at h; cases h
        | true =>
          cases h6 : Nat.beq t.1 2 with
          | false => rw [h50, h6] at h; cases h
          | true =>
            rw [h50, h6] at h
            cases h
            have hk50 : q.1 < 50 := Nat.le_of_ble_eq_true h50
            obtain ⟨i, hj⟩ := fm_ki_at hk50 (hv.2.1 _ (List.mem_cons_of_mem _ List.mem_cons_self))
            obtain ⟨t1, t2⟩ := t
            have e6 : t1 = 2 := Nat.eq_of_beq_eq_true h6
            subst e6
            have he : (fm_wl cA ad M)[i]? = some (ad q.1 q.2, .inl (cA 2, t2, fm_ar ad M 2 q.1 q.2)) := by rw [fm_wl_at hj, fm_ce_a hk50 ht]
            exact va_dald hx hb hK hP i 2 he rfl hg hd (k H locs ls hP hS hl (fm_vd_st hv (List.forall_mem_cons.mpr ⟨trivial, fun w hw => hv.2.1 w (List.mem_cons_of_mem _ (List.mem_cons_of_mem _ hw))⟩)))
      · cases h
    · cases h
  case aaload =>
    simp only [fm_gdB] at h
    split at h
    · next j q r =>
      split at h
      · next t ht =>
        cases h50 : Nat.blt q.1 50 with
        | false => rw [h50] at h; cases h
        | true =>
          have hk50 : q.1 < 50 := Nat.le_of_ble_eq_true h50
          obtain ⟨i, hj⟩ := fm_ki_at hk50 (hv.2.1 _ (List.mem_cons_of_mem _ List.mem_cons_self))
          obtain ⟨t1, t2⟩ := t
          cases h6 : Nat.beq t1 4 with
          | true =>
            rw [h50, h6] at h
            cases h
            have e6 : t1 = 4 := Nat.eq_of_beq_eq_true h6
            subst e6
            have he : (fm_wl cA ad M)[i]? = some (ad q.1 q.2, .inl (cA 4, t2, fm_ar ad M 4 q.1 q.2)) := by rw [fm_wl_at hj, fm_ce_a hk50 ht]
            exact va_aldq hx hb hK hP i 4 he rfl hg hd (k H locs ls hP hS hl (fm_vd_st hv (List.forall_mem_cons.mpr ⟨hv.2.2 _ _ _ hk50 (hv.2.1 _ (List.mem_cons_of_mem _ List.mem_cons_self)) (by rw [fm_sz_a hk50 ht]; exact Nat.not_le.mp (fun y => hg (Or.inr y))), fun w hw => hv.2.1 w (List.mem_cons_of_mem _ (List.mem_cons_of_mem _ hw))⟩)))
          | false =>
            cases h7 : Nat.beq t1 5 with
            | false => rw [h50, h6, h7] at h; cases h
            | true =>
              rw [h50, h6, h7] at h
              cases h
              have e6 : t1 = 5 := Nat.eq_of_beq_eq_true h7
              subst e6
              have he : (fm_wl cA ad M)[i]? = some (ad q.1 q.2, .inl (cA 5, t2, fm_ar ad M 5 q.1 q.2)) := by rw [fm_wl_at hj, fm_ce_a hk50 ht]
              exact va_aldq hx hb hK hP i 5 he rfl hg hd (k H locs ls hP hS hl (fm_vd_st hv (List.forall_mem_cons.mpr ⟨hv.2.2 _ _ _ hk50 (hv.2.1 _ (List.mem_cons_of_mem _ List.mem_cons_self)) (by rw [fm_sz_a hk50 ht]; exact Nat.not_le.mp (fun y => hg (Or.inr y))), fun w hw => hv.2.1 w (List.mem_cons_of_mem _ (List.mem_cons_of_mem _ hw))⟩)))
      · cases h
    · cases h
  case iastore =>
    simp only [fm_gdB] at h
    split at h
    · next x j q r =>
      split at h
      · next t ht =>
        cases h50 : Nat.blt q.1 50 with
        | false => rw [h50] at h; cases h
        | true =>
          cases h6 : Nat.beq t.1 0 with
          | false => rw [h50, h6] at h; cases h
          | true =>
            rw [h50, h6] at h
            cases h
            have hk50 : q.1 < 50 := Nat.le_of_ble_eq_true h50
            obtain ⟨i, hj⟩ := fm_ki_at hk50 (hv.2.1 _ (List.mem_cons_of_mem _ (List.mem_cons_of_mem _ List.mem_cons_self)))
            obtain ⟨t1, t2⟩ := t
            have e6 : t1 = 0 := Nat.eq_of_beq_eq_true h6
            subst e6
            have he : (fm_wl cA ad M)[i]? = some (ad q.1 q.2, .inl (cA 0, t2, fm_ar ad M 0 q.1 q.2)) := by rw [fm_wl_at hj, fm_ce_a hk50 ht]
            refine va_iast hx hb hK hP (hD M) hS i 0 he rfl hg hd (fun H1 locs1 hP1 hD1 hS1 => ?_)
            have hset := fm_wl_set (cA := cA) (ad := ad) (M := M) (M' := (fm_u M.1 q.1 q.2 j.toNatClampNeg x, M.2)) hj (fun k' i' hne => fm_ce_congr (fun _ => fm_u_ne hne) (fun _ => rfl) (fun _ => rfl) (fun _ => rfl)) (e := .inl (cA 0, t2, .inl (upd (fun z => M.1 q.1 q.2 z) j.toNatClampNeg x))) (by
              rw [fm_ce_a hk50 ht]
              have ef : (fun z => fm_u M.1 q.1 q.2 j.toNatClampNeg x q.1 q.2 z) = upd (fun z => M.1 q.1 q.2 z) j.toNatClampNeg x := by
                funext z
                simp only [fm_u_if, upd, true_and]
              show (Sum.inl (cA 0, t2, .inl (fun z => fm_u M.1 q.1 q.2 j.toNatClampNeg x q.1 q.2 z)) : va_E) = _
              rw [ef])
            have hP2 : va_P D fm_cls (fm_wl cA ad (fm_u M.1 q.1 q.2 j.toNatClampNeg x, M.2)) H1 := by rw [← hset]; exact hP1
            exact k H1 locs1 ls hP2 hS1 hl (fm_vd_mem hv (fun w hw => List.mem_cons_of_mem _ (List.mem_cons_of_mem _ (List.mem_cons_of_mem _ hw))) hv.2.2)
      · cases h
    · cases h
  case bastore =>
    simp only [fm_gdB] at h
    split at h
    · next x j q r =>
      split at h
      · next t ht =>
        cases h50 : Nat.blt q.1 50 with
        | false => rw [h50] at h; cases h
        | true =>
          cases h6 : Nat.beq t.1 3 with
          | false => rw [h50, h6] at h; cases h
          | true =>
            rw [h50, h6] at h
            cases h
            have hk50 : q.1 < 50 := Nat.le_of_ble_eq_true h50
            obtain ⟨i, hj⟩ := fm_ki_at hk50 (hv.2.1 _ (List.mem_cons_of_mem _ (List.mem_cons_of_mem _ List.mem_cons_self)))
            obtain ⟨t1, t2⟩ := t
            have e6 : t1 = 3 := Nat.eq_of_beq_eq_true h6
            subst e6
            have he : (fm_wl cA ad M)[i]? = some (ad q.1 q.2, .inl (cA 3, t2, fm_ar ad M 3 q.1 q.2)) := by rw [fm_wl_at hj, fm_ce_a hk50 ht]
            refine va_zast hx hb hK hP (hD M) hS i 3 he rfl hg.1 hd (fun H1 locs1 hP1 hD1 hS1 => ?_)
            rw [fm_bb hg.2] at hP1
            have hset := fm_wl_set (cA := cA) (ad := ad) (M := M) (M' := (fm_u M.1 q.1 q.2 j.toNatClampNeg x, M.2)) hj (fun k' i' hne => fm_ce_congr (fun _ => fm_u_ne hne) (fun _ => rfl) (fun _ => rfl) (fun _ => rfl)) (e := .inl (cA 3, t2, .inl (upd (fun z => M.1 q.1 q.2 z) j.toNatClampNeg x))) (by
              rw [fm_ce_a hk50 ht]
              have ef : (fun z => fm_u M.1 q.1 q.2 j.toNatClampNeg x q.1 q.2 z) = upd (fun z => M.1 q.1 q.2 z) j.toNatClampNeg x := by
                funext z
                simp only [fm_u_if, upd, true_and]
              show (Sum.inl (cA 3, t2, .inl (fun z => fm_u M.1 q.1 q.2 j.toNatClampNeg x q.1 q.2 z)) : va_E) = _
              rw [ef])
            have hP2 : va_P D fm_cls (fm_wl cA ad (fm_u M.1 q.1 q.2 j.toNatClampNeg x, M.2)) H1 := by rw [← hset]; exact hP1
            exact k H1 locs1 ls hP2 hS1 hl (fm_vd_mem hv (fun w hw => List.mem_cons_of_mem _ (List.mem_cons_of_mem _ (List.mem_cons_of_mem _ hw))) hv.2.2)
      · cases h
    · cases h
  case lastore =>
    simp only [fm_gdB] at h
    split at h
    · next x j q r =>
      split at h
      · next t ht =>
        cases h50 : Nat.blt q.1 50 with
        | false => rw [h50] at h; cases h
        | true =>
          cases h6 : Nat.beq t.1 1 with
          | false => rw [h50, h6] at h; cases h
          | true =>
            rw [h50, h6] at h
            cases h
            have hk50 : q.1 < 50 := Nat.le_of_ble_eq_true h50
            obtain ⟨i, hj⟩ := fm_ki_at hk50 (hv.2.1 _ (List.mem_cons_of_mem _ (List.mem_cons_of_mem _ List.mem_cons_self)))
            obtain ⟨t1, t2⟩ := t
            have e6 : t1 = 1 := Nat.eq_of_beq_eq_true h6
            subst e6
            have he : (fm_wl cA ad M)[i]? = some (ad q.1 q.2, .inl (cA 1, t2, fm_ar ad M 1 q.1 q.2)) := by rw [fm_wl_at hj, fm_ce_a hk50 ht]
            refine va_last hx hb hK hP (hD M) hS i 1 he rfl hg hd (fun H1 locs1 hP1 hD1 hS1 => ?_)
            have hset := fm_wl_set (cA := cA) (ad := ad) (M := M) (M' := (M.1, fm_u M.2.1 q.1 q.2 j.toNatClampNeg x, M.2.2)) hj (fun k' i' hne => fm_ce_congr (fun _ => rfl) (fun _ => fm_u_ne hne) (fun _ => rfl) (fun _ => rfl)) (e := .inl (cA 1, t2, .inr (.inl (vp_updL (fun z => M.2.1 q.1 q.2 z) j.toNatClampNeg x)))) (by
              rw [fm_ce_a hk50 ht]
              have ef : (fun z => fm_u M.2.1 q.1 q.2 j.toNatClampNeg x q.1 q.2 z) = vp_updL (fun z => M.2.1 q.1 q.2 z) j.toNatClampNeg x := by
                funext z
                simp only [fm_u_if, vp_updL, true_and]
              show (Sum.inl (cA 1, t2, .inr (.inl (fun z => fm_u M.2.1 q.1 q.2 j.toNatClampNeg x q.1 q.2 z))) : va_E) = _
              rw [ef])
            have hP2 : va_P D fm_cls (fm_wl cA ad (M.1, fm_u M.2.1 q.1 q.2 j.toNatClampNeg x, M.2.2)) H1 := by rw [← hset]; exact hP1
            exact k H1 locs1 ls hP2 hS1 hl (fm_vd_mem hv (fun w hw => List.mem_cons_of_mem _ (List.mem_cons_of_mem _ (List.mem_cons_of_mem _ hw))) hv.2.2)
      · cases h
    · cases h
  case dastore =>
    simp only [fm_gdB] at h
    split at h
    · next x j q r =>
      split at h
      · next t ht =>
        cases h50 : Nat.blt q.1 50 with
        | false => rw [h50] at h; cases h
        | true =>
          cases h6 : Nat.beq t.1 2 with
          | false => rw [h50, h6] at h; cases h
          | true =>
            rw [h50, h6] at h
            cases h
            have hk50 : q.1 < 50 := Nat.le_of_ble_eq_true h50
            obtain ⟨i, hj⟩ := fm_ki_at hk50 (hv.2.1 _ (List.mem_cons_of_mem _ (List.mem_cons_of_mem _ List.mem_cons_self)))
            obtain ⟨t1, t2⟩ := t
            have e6 : t1 = 2 := Nat.eq_of_beq_eq_true h6
            subst e6
            have he : (fm_wl cA ad M)[i]? = some (ad q.1 q.2, .inl (cA 2, t2, fm_ar ad M 2 q.1 q.2)) := by rw [fm_wl_at hj, fm_ce_a hk50 ht]
            refine va_dast hx hb hK hP (hD M) hS i 2 he rfl hg hd (fun H1 locs1 hP1 hD1 hS1 => ?_)
            have hset := fm_wl_set (cA := cA) (ad := ad) (M := M) (M' := (M.1, M.2.1, fm_u M.2.2.1 q.1 q.2 j.toNatClampNeg x, M.2.2.2)) hj (fun k' i' hne => fm_ce_congr (fun _ => rfl) (fun _ => rfl) (fun _ => fm_u_ne hne) (fun _ => rfl)) (e := .inl (cA 2, t2, .inr (.inr (.inr (.inl (vf_upd (fun z => M.2.2.1 q.1 q.2 z) j.toNatClampNeg x)))))) (by
              rw [fm_ce_a hk50 ht]
              have ef : (fun z => fm_u M.2.2.1 q.1 q.2 j.toNatClampNeg x q.1 q.2 z) = vf_upd (fun z => M.2.2.1 q.1 q.2 z) j.toNatClampNeg x := by
                funext z
                simp only [fm_u_if, vf_upd, true_and]
              show (Sum.inl (cA 2, t2, .inr (.inr (.inr (.inl (fun z => fm_u M.2.2.1 q.1 q.2 j.toNatClampNeg x q.1 q.2 z))))) : va_E) = _
              rw [ef])
            have hP2 : va_P D fm_cls (fm_wl cA ad (M.1, M.2.1, fm_u M.2.2.1 q.1 q.2 j.toNatClampNeg x, M.2.2.2)) H1 := by rw [← hset]; exact hP1
            exact k H1 locs1 ls hP2 hS1 hl (fm_vd_mem hv (fun w hw => List.mem_cons_of_mem _ (List.mem_cons_of_mem _ (List.mem_cons_of_mem _ hw))) hv.2.2)
      · cases h
    · cases h
  all_goals (simp only [fm_gdB] at h; exact nomatch h)
end GdB
end
section
/-! a boolean field; the script; branches; switches -/
def fm_gdC (fl : Nat → Option (Nat × Nat)) (ins : Instr) (pc : Nat) (l : List (Nat × fm_V)) (st : List fm_V) (M : fm_M) : Option (Prop × fm_C) :=
  match ins with
  | .putfield ix => match st with
    | .inl x :: .inr (.inr (.inr (.inr q))) :: r => match fl ix with
      | some f => cond (fm_is q.1 f.1 && (Nat.beq (fm_ft f.1 f.2) 1 && !fm_fin f.1 f.2)) (some (x = 0 ∨ x = 1, (pc + 3, l, r, (fm_u M.1 q.1 q.2 f.2 x, M.2)))) none
      | none => none
    | _ => none
  | _ => none
theorem fm_bz {x : Int32} (h : x = 0 ∨ x = 1) : narrow .boolean (.int x) = .int x ∧ fits .boolean (.int x) = true := by
  rcases h with rfl | rfl <;> decide
section GdC
variable {l : Launch} {D : va_G} {cA : Nat → ClassId} {ad : fm_A} {L : Nat} {xs : Nat → Int32} {oc : Nat} {cc : ByteArray} {nL : Nat} {p : Program} {e : Env} {R : Room} {s : State} {m : MethodId} {args : Array Value} {below : List Frame} {meth : Method} {c : Code} {A : Nat → Prop} {Q : State → Prop} {cells slots : Nat}
set_option maxHeartbeats 4000000 in
theorem fm_goC (X : fm_cx l D cA ad L xs oc cc nL p s m args meth c A) {fl : Nat → Option (Nat × Nat)} (hfl : fm_flo oc fl) {ins : Instr} {pc : Nat} {lo : List (Nat × fm_V)} {st : List fm_V} {M : fm_M} {g : Prop × fm_C} (hd : decode cc pc = .ok (ins, fm_ln ins)) (h : fm_gdC fl ins pc lo st M = some g) (hg : g.1)
    (k : fm_ww l D cA ad nL p e R s m args below meth c A Q cells slots g.2) : fm_ww l D cA ad nL p e R s m args below meth c A Q cells slots (pc, lo, st, M) := by
  intro H locs ls hP hS hl hv
  cases ins
  case putfield ix =>
    simp only [fm_gdC] at h
    split at h
    · next x q r =>
      split at h
      · next f hf =>
        cases hq : fm_is q.1 f.1 with
        | false => rw [hq] at h; cases h
        | true =>
          cases hft : Nat.beq (fm_ft f.1 f.2) 1 with
          | false => rw [hq, hft] at h; cases h
          | true =>
            cases hfin : fm_fin f.1 f.2 with
            | true => rw [hq, hft, hfin] at h; cases h
            | false =>
              rw [hq, hft, hfin] at h
              cases h
              have hft' : fm_ft f.1 f.2 = 1 := Nat.eq_of_beq_eq_true hft
              have hsl := (hfl ix f hf).2.1
              refine fm_putf (M' := (fm_u M.1 q.1 q.2 f.2 x, M.2)) X hfl hq hf hfin (hv.2.1 _ (List.mem_cons_of_mem _ List.mem_cons_self)) (fun ty0 _ t1 _ => by rw [t1 f.2 hsl hft']; exact fm_bz hg) ?_ ?_ ?_ hd hP hS ?_
              · unfold fm_fv
                rw [hft']
                simp [fm_u_if, fm_cv]
                rfl
              · intro z hz
                unfold fm_fv
                simp [fm_u_if, hz]
              · intro k' i' hne
                exact fm_ce_congr (fun _ => fm_u_ne hne) (fun _ => rfl) (fun _ => rfl) (fun _ => rfl)
              · intro H1 locs1 hP1 hS1
                exact k H1 locs1 ls hP1 hS1 hl (fm_vd_mem hv (fun w hw => List.mem_cons_of_mem _ (List.mem_cons_of_mem _ hw)) hv.2.2)
      · cases h
    · cases h
  all_goals (simp only [fm_gdC] at h; exact nomatch h)
end GdC
def fm_tg (pc : Nat) (off : Int) : Option Nat := match (pc : Int) + off with
  | .ofNat t => some t
  | .negSucc _ => none
theorem fm_tg_ok {pc t : Nat} {off : Int} (h : fm_tg pc off = some t) : (pc : Int) + off = (t : Int) := by
  unfold fm_tg at h
  split at h
  · next t' ht => cases h; exact ht
  · cases h
def fm_br (ins : Instr) (pc : Nat) (l : List (Nat × fm_V)) (st : List fm_V) (M : fm_M) : Option (Prop × fm_C × fm_C) :=
  match ins with
  | .ifCond o off => match st with
    | .inl x :: r => match fm_tg pc off with
      | some t => match o with
        | .eq => some (x = 0, (t, l, r, M), (pc + 3, l, r, M))
        | .ne => some (x = 0, (pc + 3, l, r, M), (t, l, r, M))
        | .lt => some (x < 0, (t, l, r, M), (pc + 3, l, r, M))
        | .ge => some (0 ≤ x, (t, l, r, M), (pc + 3, l, r, M))
        | .gt => some (0 < x, (t, l, r, M), (pc + 3, l, r, M))
        | .le => some (x ≤ 0, (t, l, r, M), (pc + 3, l, r, M))
      | none => none
    | _ => none
  | .if_icmp o off => match st with
    | .inl y :: .inl x :: r => match fm_tg pc off with
      | some t => match o with
        | .eq => some (x = y, (t, l, r, M), (pc + 3, l, r, M))
        | .ne => some (x = y, (pc + 3, l, r, M), (t, l, r, M))
        | .lt => some (x < y, (t, l, r, M), (pc + 3, l, r, M))
        | .ge => some (y ≤ x, (t, l, r, M), (pc + 3, l, r, M))
        | .gt => some (y < x, (t, l, r, M), (pc + 3, l, r, M))
        | .le => some (x ≤ y, (t, l, r, M), (pc + 3, l, r, M))
      | none => none
    | _ => none
  | _ => none
section Br
variable {l : Launch} {D : va_G} {cA : Nat → ClassId} {ad : fm_A} {L : Nat} {xs : Nat → Int32} {oc : Nat} {cc : ByteArray} {nL : Nat} {p : Program} {e : Env} {R : Room} {s : State} {m : MethodId} {args : Array Value} {below : List Frame} {meth : Method} {c : Code} {A : Nat → Prop} {Q : State → Prop} {cells slots : Nat}
set_option maxHeartbeats 4000000 in
theorem fm_bro (X : fm_cx l D cA ad L xs oc cc nL p s m args meth c A) {ins : Instr} {pc : Nat} {lo : List (Nat × fm_V)} {st : List fm_V} {M : fm_M} {g : Prop × fm_C × fm_C} (hd : decode cc pc = .ok (ins, fm_ln ins)) (h : fm_br ins pc lo st M = some g)
    (kt : g.1 → fm_ww l D cA ad nL p e R s m args below meth c A Q cells slots g.2.1) (kf : ¬ g.1 → fm_ww l D cA ad nL p e R s m args below meth c A Q cells slots g.2.2) : fm_ww l D cA ad nL p e R s m args below meth c A Q cells slots (pc, lo, st, M) := by
  obtain ⟨hx, hb, -, hown, hts, hK, hD, -⟩ := X
  intro H locs ls hP hS hl hv
  cases ins
  case ifCond o off =>
    simp only [fm_br] at h
    split at h
    · next x r =>
      split at h
      · next t ht =>
        have v1 : fm_vd (t, lo, r, M) := ⟨hv.1, fun w hw => hv.2.1 w (List.mem_cons_of_mem _ hw), hv.2.2⟩
        have v2 : fm_vd (pc + 3, lo, r, M) := ⟨hv.1, fun w hw => hv.2.1 w (List.mem_cons_of_mem _ hw), hv.2.2⟩
        have ht := fm_tg_ok ht
        cases o <;> cases h
        · exact lv_if_eq hx hb hd ht (fun q => kt q H locs ls hP hS hl v1) (fun q => kf q H locs ls hP hS hl v2)
        · exact lv_if_ne hx hb hd ht (fun q => kf q H locs ls hP hS hl v1) (fun q => kt q H locs ls hP hS hl v2)
        · exact lv_if_lt hx hb hd ht (fun q => kt q H locs ls hP hS hl v1) (fun q => kf q H locs ls hP hS hl v2)
        · exact lv_if_ge hx hb hd ht (fun q => kt q H locs ls hP hS hl v1) (fun q => kf q H locs ls hP hS hl v2)
        · exact lv_if_gt hx hb hd ht (fun q => kt q H locs ls hP hS hl v1) (fun q => kf q H locs ls hP hS hl v2)
        · exact lv_if_le hx hb hd ht (fun q => kt q H locs ls hP hS hl v1) (fun q => kf q H locs ls hP hS hl v2)
      · cases h
    · cases h
  case if_icmp o off =>
    simp only [fm_br] at h
    split at h
    · next y x r =>
      split at h
      · next t ht =>
        have v1 : fm_vd (t, lo, r, M) := ⟨hv.1, fun w hw => hv.2.1 w (List.mem_cons_of_mem _ (List.mem_cons_of_mem _ hw)), hv.2.2⟩
        have v2 : fm_vd (pc + 3, lo, r, M) := ⟨hv.1, fun w hw => hv.2.1 w (List.mem_cons_of_mem _ (List.mem_cons_of_mem _ hw)), hv.2.2⟩
        have ht := fm_tg_ok ht
        cases o <;> cases h
        · exact lv_icmp_eq hx hb hd ht (fun q => kt q H locs ls hP hS hl v1) (fun q => kf q H locs ls hP hS hl v2)
        · exact lv_icmp_ne hx hb hd ht (fun q => kf q H locs ls hP hS hl v1) (fun q => kt q H locs ls hP hS hl v2)
        · exact lv_icmp_lt hx hb hd ht (fun q => kt q H locs ls hP hS hl v1) (fun q => kf q H locs ls hP hS hl v2)
        · exact lv_icmp_ge hx hb hd ht (fun q => kt q H locs ls hP hS hl v1) (fun q => kf q H locs ls hP hS hl v2)
        · exact lv_icmp_gt hx hb hd ht (fun q => kt q H locs ls hP hS hl v1) (fun q => kf q H locs ls hP hS hl v2)
        · exact lv_icmp_le hx hb hd ht (fun q => kt q H locs ls hP hS hl v1) (fun q => kf q H locs ls hP hS hl v2)
      · cases h
    · cases h
  all_goals (simp only [fm_br] at h; exact nomatch h)
/-- where a switch goes at the value v -/
def fm_sw (v : Int) (ins : Instr) (pc : Nat) (l : List (Nat × fm_V)) (st : List fm_V) (M : fm_M) : Option (Prop × fm_C) :=
  match ins with
  | .tableswitch d lo hi offs => match st with
    | .inl x :: r => match fm_tg pc (cond (decide (v < lo) || decide (hi < v)) d (offs.getD (v - lo).toNat d)) with
      | some t => cond (decide (v < lo) || decide (hi < v) || decide ((v - lo).toNat < offs.size)) (some (x.toInt = v, (t, l, r, M))) none
      | none => none
    | _ => none
  | _ => none
/-- a switch whose value lies outside -/
def fm_so (ins : Instr) (pc : Nat) (l : List (Nat × fm_V)) (st : List fm_V) (M : fm_M) : Option (Prop × fm_C) :=
  match ins with
  | .tableswitch d lo hi _ => match st with
    | .inl x :: r => match fm_tg pc d with
      | some t => some (x.toInt < lo ∨ hi < x.toInt, (t, l, r, M))
      | none => none
    | _ => none
  | _ => none
set_option maxHeartbeats 4000000 in
theorem fm_swo (X : fm_cx l D cA ad L xs oc cc nL p s m args meth c A) {v : Int} {ins : Instr} {pc len : Nat} {lo : List (Nat × fm_V)} {st : List fm_V} {M : fm_M} {g : Prop × fm_C} (hd : decode cc pc = .ok (ins, len)) (h : fm_sw v ins pc lo st M = some g) (hg : g.1)
    (k : fm_ww l D cA ad nL p e R s m args below meth c A Q cells slots g.2) : fm_ww l D cA ad nL p e R s m args below meth c A Q cells slots (pc, lo, st, M) := by
  obtain ⟨hx, hb, -, hown, hts, hK, hD, -⟩ := X
  intro H locs ls hP hS hl hv
  cases ins
  case tableswitch d lw hi offs =>
    simp only [fm_sw] at h
    split at h
    · next x r =>
      split at h
      · next t ht =>
        have ht := fm_tg_ok ht
        cases hc : (decide (v < lw) || decide (hi < v)) with
        | true =>
          rw [hc] at h ht
          simp only [Bool.true_or, cond_true] at h ht
          cases h
          refine lv_tableOut hx hb hd ?_ ht (k H locs ls hP hS hl ⟨hv.1, fun w hw => hv.2.1 w (List.mem_cons_of_mem _ hw), hv.2.2⟩)
          have hg : x.toInt = v := hg
          rw [hg]
          simpa using hc
        | false =>
          rw [hc] at h ht
          simp only [Bool.false_or, cond_false] at h ht
          cases hs : decide ((v - lw).toNat < offs.size) with
          | false => rw [hs] at h; cases h
          | true =>
            rw [hs] at h
            cases h
            have hg : x.toInt = v := hg
            simp only [Bool.or_eq_false_iff, decide_eq_false_iff_not] at hc
            have hs' : (v - lw).toNat < offs.size := of_decide_eq_true hs
            refine lv_tableIn hx hb hd (by rw [hg]; exact hc.1) (by rw [hg]; exact hc.2) (off := offs.getD (v - lw).toNat d) ?_ ht (k H locs ls hP hS hl ⟨hv.1, fun w hw => hv.2.1 w (List.mem_cons_of_mem _ hw), hv.2.2⟩)
            rw [hg, Array.getD_eq_getD_getElem?, Array.getElem?_eq_getElem hs']
            rfl
      · cases h
    · cases h
  all_goals (simp only [fm_sw] at h; exact nomatch h)
set_option maxHeartbeats 4000000 in
theorem fm_soo (X : fm_cx l D cA ad L xs oc cc nL p s m args meth c A) {ins : Instr} {pc len : Nat} {lo : List (Nat × fm_V)} {st : List fm_V} {M : fm_M} {g : Prop × fm_C} (hd : decode cc pc = .ok (ins, len)) (h : fm_so ins pc lo st M = some g) (hg : g.1)
    (k : fm_ww l D cA ad nL p e R s m args below meth c A Q cells slots g.2) : fm_ww l D cA ad nL p e R s m args below meth c A Q cells slots (pc, lo, st, M) := by
  obtain ⟨hx, hb, -, hown, hts, hK, hD, -⟩ := X
  intro H locs ls hP hS hl hv
  cases ins
  case tableswitch d lw hi offs =>
    simp only [fm_so] at h
    split at h
    · next x r =>
      split at h
      · next t ht =>
        cases h
        exact lv_tableOut hx hb hd hg (fm_tg_ok ht) (k H locs ls hP hS hl ⟨hv.1, fun w hw => hv.2.1 w (List.mem_cons_of_mem _ hw), hv.2.2⟩)
      · cases h
    · cases h
  all_goals (simp only [fm_so] at h; exact nomatch h)
/-- the script's ints, and its length -/
def fm_gdS (L : Nat) (xs : Nat → Int32) (ins : Instr) (pc : Nat) (l : List (Nat × fm_V)) (st : List fm_V) (M : fm_M) : Option (Prop × fm_C) :=
  match ins with
  | .iaload => match st with
    | .inl j :: .inr (.inr (.inr (.inr (50, 0)))) :: r => some (vp_in j L, (pc + 1, l, .inl (xs j.toNatClampNeg) :: r, M))
    | _ => none
  | .arraylength => match st with
    | .inr (.inr (.inr (.inr (50, 0)))) :: r => some (True, (pc + 1, l, .inl (nI L) :: r, M))
    | _ => none
  | _ => none
set_option maxHeartbeats 4000000 in
theorem fm_goS (X : fm_cx l D cA ad L xs oc cc nL p s m args meth c A) {ins : Instr} {pc : Nat} {lo : List (Nat × fm_V)} {st : List fm_V} {M : fm_M} {g : Prop × fm_C} (hd : decode cc pc = .ok (ins, fm_ln ins)) (h : fm_gdS L xs ins pc lo st M = some g) (hg : g.1)
    (k : fm_ww l D cA ad nL p e R s m args below meth c A Q cells slots g.2) : fm_ww l D cA ad nL p e R s m args below meth c A Q cells slots (pc, lo, st, M) := by
  obtain ⟨hx, hb, -, hown, hts, hK, hD, -, ⟨hX, hbl, hbA⟩, -⟩ := X
  intro H locs ls hP hS hl hv
  cases ins
  case iaload =>
    simp only [fm_gdS] at h
    split at h
    · next j r =>
      cases h
      exact va_sld hx hb hX hbl hbA hS hg hd (k H locs ls hP hS hl (fm_vd_st hv (List.forall_mem_cons.mpr ⟨trivial, fun w hw => hv.2.1 w (List.mem_cons_of_mem _ (List.mem_cons_of_mem _ hw))⟩)))
    · cases h
  case arraylength =>
    simp only [fm_gdS] at h
    split at h
    · next r =>
      cases h
      exact va_slen hx hb hX hbl hbA hS hd (k H locs ls hP hS hl (fm_vd_st hv (List.forall_mem_cons.mpr ⟨trivial, fun w hw => hv.2.1 w (List.mem_cons_of_mem _ hw)⟩)))
    · cases h
  all_goals (simp only [fm_gdS] at h; exact nomatch h)
end Br
end
section
/-! A METHOD AS DATA; the machine's walk as a judgement over pure configurations -/
/-- name, code, locals, answer's type, class, field links, instructions -/
abbrev fm_Me : Type := MethodName × ByteArray × Nat × Option FieldType × Nat × (Nat → Option (Nat × Nat)) × (Nat → Option Instr)
/-- launch, tables' numbers, array classes, addresses, the script's length and ints -/
abbrev fm_Ev : Type := Launch × va_G × (Nat → ClassId) × fm_A × Nat × (Nat → Int32)
def fm_isw : Instr → Bool
  | .tableswitch .. => true
  | .lookupswitch .. => true
  | _ => false
def fm_dc (cc : ByteArray) (ins : Nat → Option Instr) : Prop := ∀ pc i, ins pc = some i → ∃ len, decode cc pc = .ok (i, len) ∧ (fm_isw i = false → len = fm_ln i)
def fm_mo (u : fm_Me) : Prop := fm_flo u.2.2.2.2.1 u.2.2.2.2.2.1 ∧ fm_dc u.2.1 u.2.2.2.2.2.2
def fm_mok (u : fm_Me) : Prop := fm_mo u ∧ Cond.code u.1 u.2.1 u.2.2.1 u.2.2.2.1 ∈ fm_TB ∧ Cond.initialized u.1.cls ∈ fm_TB ∧ u.1.cls = fm_cn u.2.2.2.2.1 ∧ plainName u.1.cls = true ∧ u.2.2.1 ≤ 22
def fm_stp (u : fm_Me) (C : fm_C) : Option fm_C :=
  match u.2.2.2.2.2.2 C.1 with
  | none => none
  | some i => cond (fm_isw i) none (match fm_stA u.2.2.2.2.1 i C.1 C.2.1 C.2.2.1 C.2.2.2 with
    | some x => some x
    | none => match fm_stG u.2.2.2.2.2.1 i C.1 C.2.1 C.2.2.1 C.2.2.2 with
      | some x => some x
      | none => match fm_stC i C.1 C.2.1 C.2.2.1 C.2.2.2 with
        | some x => some x
        | none => fm_stB u.2.2.1 i C.1 C.2.1 C.2.2.1 C.2.2.2)
def fm_run (u : fm_Me) : Nat → fm_C → Option fm_C
  | 0, C => some C
  | n + 1, C => match fm_stp u C with
    | some x => fm_run u n x
    | none => none
def fm_gd (u : fm_Me) (C : fm_C) : Option (Prop × fm_C) :=
  match u.2.2.2.2.2.2 C.1 with
  | none => none
  | some i => cond (fm_isw i) none (match fm_gdA i C.1 C.2.1 C.2.2.1 C.2.2.2 with
    | some x => some x
    | none => match fm_gdB i C.1 C.2.1 C.2.2.1 C.2.2.2 with
      | some x => some x
      | none => fm_gdC u.2.2.2.2.2.1 i C.1 C.2.1 C.2.2.1 C.2.2.2)
def fm_brr (u : fm_Me) (C : fm_C) : Option (Prop × fm_C × fm_C) :=
  match u.2.2.2.2.2.2 C.1 with
  | none => none
  | some i => cond (fm_isw i) none (fm_br i C.1 C.2.1 C.2.2.1 C.2.2.2)
def fm_sww (u : fm_Me) (v : Int) (C : fm_C) : Option (Prop × fm_C) :=
  match u.2.2.2.2.2.2 C.1 with
  | none => none
  | some i => fm_sw v i C.1 C.2.1 C.2.2.1 C.2.2.2
def fm_swd (u : fm_Me) (C : fm_C) : Option (Prop × fm_C) :=
  match u.2.2.2.2.2.2 C.1 with
  | none => none
  | some i => fm_so i C.1 C.2.1 C.2.2.1 C.2.2.2
def fm_gss (L : Nat) (xs : Nat → Int32) (u : fm_Me) (C : fm_C) : Option (Prop × fm_C) :=
  match u.2.2.2.2.2.2 C.1 with
  | none => none
  | some i => cond (fm_isw i) none (fm_gdS L xs i C.1 C.2.1 C.2.2.1 C.2.2.2)
def fm_Aw (ad : fm_A) (sz : Nat) : Nat → Prop := fun q => (∃ k i, k < 50 ∧ i < fm_cnt k ∧ q = ad k i) ∨ sz ≤ q
/-- from the configuration C on the method comes to its end Z, with n new exceptions on the way, d frames deep at the most -/
def fm_Go (E : fm_Ev) (d : Nat) (u : fm_Me) (n : Nat) (C : fm_C) (Z : (Nat → Prop) → List Frame → Array Value → State → Nat → Nat → State → Prop) : Prop :=
  ∀ (p : Program) (e : Env) (R : Room) (s : State) (m : MethodId) (args : Array Value) (below : List Frame) (meth : Method) (c : Code) (A : Nat → Prop) (cells slots : Nat),
    fm_cx E.1 E.2.1 E.2.2.1 E.2.2.2.1 E.2.2.2.2.1 E.2.2.2.2.2 u.2.2.2.2.1 u.2.1 u.2.2.1 p s m args meth c A → meth.sig.returnType = u.2.2.2.1 → (∀ q, fm_Aw E.2.2.2.1 s.heap.size q → A q) → d ≤ R.frames → 41 * d ≤ R.locals → cells + n ≤ R.cells → slots + 6 * n ≤ R.slots →
    fm_ww E.1 E.2.1 E.2.2.1 E.2.2.2.1 u.2.2.1 p e R s m args below meth c A (Z A below args s (cells + n) (slots + 6 * n)) cells slots C
section Rules
variable {E : fm_Ev} {d n : Nat} {u : fm_Me} {C : fm_C} {Z : (Nat → Prop) → List Frame → Array Value → State → Nat → Nat → State → Prop}
theorem fm_g1 (O : fm_mo u) {C' : fm_C} (h : fm_stp u C = some C') (k : fm_Go E d u n C' Z) : fm_Go E d u n C Z := by
  intro p e R s m args below meth c A cells slots X hr hA h1 h2 h3 h4
  have kk := k p e R s m args below meth c A cells slots X hr hA h1 h2 h3 h4
  obtain ⟨pc, lo, st, M⟩ := C
  unfold fm_stp at h
  split at h
  · cases h
  · next i hi =>
    obtain ⟨len, hd, hln⟩ := O.2 pc i hi
    cases hw : fm_isw i with
    | true => rw [hw] at h; cases h
    | false =>
      rw [hw] at h
      rw [hln hw] at hd
      simp only [cond_false] at h
      split at h
      · next x hx =>
        cases h
        exact fm_soA X hd hx kk
      · split at h
        · next x hx =>
          cases h
          exact fm_soG X O.1 hd hx kk
        · split at h
          · next x hx =>
            cases h
            exact fm_soC X hd hx kk
          · exact fm_soB X hd h kk
theorem fm_gr (O : fm_mo u) : ∀ (j : Nat) {C C' : fm_C}, fm_run u j C = some C' → fm_Go E d u n C' Z → fm_Go E d u n C Z
  | 0, C, C', h, k => by cases h; exact k
  | j + 1, C, C', h, k => by
    unfold fm_run at h
    split at h
    · next x hx => exact fm_g1 O hx (fm_gr O j h k)
    · cases h
theorem fm_gg (O : fm_mo u) {g : Prop × fm_C} (h : fm_gd u C = some g) (hg : g.1) (k : fm_Go E d u n g.2 Z) : fm_Go E d u n C Z := by
  intro p e R s m args below meth c A cells slots X hr hA h1 h2 h3 h4
  have kk := k p e R s m args below meth c A cells slots X hr hA h1 h2 h3 h4
  obtain ⟨pc, lo, st, M⟩ := C
  unfold fm_gd at h
  split at h
  · cases h
  · next i hi =>
    obtain ⟨len, hd, hln⟩ := O.2 pc i hi
    cases hw : fm_isw i with
    | true => rw [hw] at h; cases h
    | false =>
      rw [hw] at h
      rw [hln hw] at hd
      simp only [cond_false] at h
      split at h
      · next x hx =>
        cases h
        exact fm_goA X hd hx hg kk
      · split at h
        · next x hx =>
          cases h
          exact fm_goB X hd hx hg kk
        · exact fm_goC X O.1 hd h hg kk
theorem fm_gb (O : fm_mo u) {g : Prop × fm_C × fm_C} (h : fm_brr u C = some g) (kt : g.1 → fm_Go E d u n g.2.1 Z) (kf : ¬ g.1 → fm_Go E d u n g.2.2 Z) : fm_Go E d u n C Z := by
  intro p e R s m args below meth c A cells slots X hr hA h1 h2 h3 h4
  obtain ⟨pc, lo, st, M⟩ := C
  unfold fm_brr at h
  split at h
  · cases h
  · next i hi =>
    obtain ⟨len, hd, hln⟩ := O.2 pc i hi
    cases hw : fm_isw i with
    | true => rw [hw] at h; cases h
    | false =>
      rw [hw] at h
      rw [hln hw] at hd
      exact fm_bro X hd h (fun q => kt q p e R s m args below meth c A cells slots X hr hA h1 h2 h3 h4) (fun q => kf q p e R s m args below meth c A cells slots X hr hA h1 h2 h3 h4)
theorem fm_gs (O : fm_mo u) (v : Int) {g : Prop × fm_C} (h : fm_sww u v C = some g) (hg : g.1) (k : fm_Go E d u n g.2 Z) : fm_Go E d u n C Z := by
  intro p e R s m args below meth c A cells slots X hr hA h1 h2 h3 h4
  have kk := k p e R s m args below meth c A cells slots X hr hA h1 h2 h3 h4
  obtain ⟨pc, lo, st, M⟩ := C
  unfold fm_sww at h
  split at h
  · cases h
  · next i hi =>
    obtain ⟨len, hd, hln⟩ := O.2 pc i hi
    exact fm_swo X hd h hg kk
theorem fm_gt (O : fm_mo u) {g : Prop × fm_C} (h : fm_swd u C = some g) (hg : g.1) (k : fm_Go E d u n g.2 Z) : fm_Go E d u n C Z := by
  intro p e R s m args below meth c A cells slots X hr hA h1 h2 h3 h4
  have kk := k p e R s m args below meth c A cells slots X hr hA h1 h2 h3 h4
  obtain ⟨pc, lo, st, M⟩ := C
  unfold fm_swd at h
  split at h
  · cases h
  · next i hi =>
    obtain ⟨len, hd, hln⟩ := O.2 pc i hi
    exact fm_soo X hd h hg kk
theorem fm_gx (O : fm_mo u) {g : Prop × fm_C} (h : fm_gss E.2.2.2.2.1 E.2.2.2.2.2 u C = some g) (hg : g.1) (k : fm_Go E d u n g.2 Z) : fm_Go E d u n C Z := by
  intro p e R s m args below meth c A cells slots X hr hA h1 h2 h3 h4
  have kk := k p e R s m args below meth c A cells slots X hr hA h1 h2 h3 h4
  obtain ⟨pc, lo, st, M⟩ := C
  unfold fm_gss at h
  split at h
  · cases h
  · next i hi =>
    obtain ⟨len, hd, hln⟩ := O.2 pc i hi
    cases hw : fm_isw i with
    | true => rw [hw] at h; cases h
    | false =>
      rw [hw] at h
      rw [hln hw] at hd
      exact fm_goS X hd h hg kk
/-- at the end: it has returned v, with the memory M' -/
def fm_Q (E : fm_Ev) (A : Nat → Prop) (v : Option fm_V) (M' : fm_M) : Array Value → State → Outcome → State → Prop := fun _ st o t =>
  o = .returned (v.map (fm_cv E.2.2.2.1)) ∧ va_P E.2.1 fm_cls (fm_wl E.2.2.1 E.2.2.2.1 M') t.heap ∧ va_F A st t ∧ (∀ w ∈ v, fm_ok w) ∧ fm_okM M'
abbrev fm_Zr (E : fm_Ev) (v : Option fm_V) (M' : fm_M) : (Nat → Prop) → List Frame → Array Value → State → Nat → Nat → State → Prop := fun A below args s cells slots => MQ below (fm_Q E A v M') args s cells slots A
/-- the method returns -/
def fm_rt? (u : fm_Me) (C : fm_C) : Option (Prop × Option fm_V) :=
  match u.2.2.2.2.2.2 C.1 with
  | some .return_ => match u.2.2.2.1, C.2.2.1 with
    | none, [] => some (True, none)
    | _, _ => none
  | some .ireturn => match u.2.2.2.1, C.2.2.1 with
    | some .int, [.inl x] => some (True, some (.inl x))
    | some .boolean, [.inl x] => some (x = 0 ∨ x = 1, some (.inl x))
    | _, _ => none
  | some .lreturn => match u.2.2.2.1, C.2.2.1 with
    | some .long, [.inr (.inl x)] => some (True, some (.inr (.inl x)))
    | _, _ => none
  | some .freturn => match u.2.2.2.1, C.2.2.1 with
    | some .float, [.inr (.inr (.inl x))] => some (True, some (.inr (.inr (.inl x))))
    | _, _ => none
  | some .dreturn => match u.2.2.2.1, C.2.2.1 with
    | some .double, [.inr (.inr (.inr (.inl x)))] => some (True, some (.inr (.inr (.inr (.inl x)))))
    | _, _ => none
  | some .areturn => match u.2.2.2.1, C.2.2.1 with
    | some (.object _), [.inr (.inr (.inr (.inr x)))] => some (True, some (.inr (.inr (.inr (.inr x)))))
    | _, _ => none
  | _ => none
end Rules
end
section
/-! RETURNS, CONTRACTS, CALLS -/
section Ret
variable {E : fm_Ev} {d : Nat} {u : fm_Me} {C : fm_C}
set_option maxHeartbeats 4000000 in
theorem fm_gR0 (O : fm_mo u) {g : Prop × Option fm_V} (h : fm_rt? u C = some g) (hg : g.1) : fm_Go E d u 0 C (fm_Zr E g.2 C.2.2.2) := by
  intro p e R s m args below meth c A cells slots X hr hA h1 h2 h3 h4
  obtain ⟨hx, hb, -, hown, hts, hK, hD, hAs, -, -, hlocks, -⟩ := X
  obtain ⟨pc, lo, st, M⟩ := C
  intro H locs ls hP hS hl hv
  have hq : ∀ v : Option fm_V, (∀ w ∈ v, fm_ok w) → ∀ t : State, t.heap = H → s.WarmedH t.vm → fm_Q E A v M args s (.returned (v.map (fm_cv E.2.2.2.1))) t := fun v hvv t ht _ => ⟨rfl, by rw [ht]; exact hP, hS.F ht, hvv, hv.2.2⟩
  unfold fm_rt? at h
  split at h
  · next hi =>
    obtain ⟨len, hd, hln⟩ := O.2 pc _ hi
    rw [hln rfl] at hd
    split at h
    · next e1 e2 =>
      cases h
      cases e2
      rw [e1] at hr
      exact W.vret hx hb hr (hq none (fun w hw => nomatch hw)) hS.2.2 hd
    · cases h
  · next hi =>
    obtain ⟨len, hd, hln⟩ := O.2 pc _ hi
    rw [hln rfl] at hd
    split at h
    · next x e1 e2 =>
      cases h
      cases e2
      rw [e1] at hr
      exact W.iret (v := x) hx hb hr (hq (some (.inl x)) (fun w hw => by cases hw; trivial)) hS.2.2 hd
    · next x e1 e2 =>
      cases h
      cases e2
      rw [e1] at hr
      exact W.zret (v := x) hx hb hr (fm_bz hg).1 (hq (some (.inl x)) (fun w hw => by cases hw; trivial)) hS.2.2 hd
    · cases h
  · next hi =>
    obtain ⟨len, hd, hln⟩ := O.2 pc _ hi
    rw [hln rfl] at hd
    split at h
    · next x e1 e2 =>
      cases h
      cases e2
      rw [e1] at hr
      exact W.lret (v := x) hx hb hr (hq (some (.inr (.inl x))) (fun w hw => by cases hw; trivial)) hS.2.2 hd
    · cases h
  · next hi =>
    obtain ⟨len, hd, hln⟩ := O.2 pc _ hi
    rw [hln rfl] at hd
    split at h
    · next x e1 e2 =>
      cases h
      cases e2
      rw [e1] at hr
      exact W.fret (v := x) hx hb hr (hq (some (.inr (.inr (.inl x)))) (fun w hw => by cases hw; trivial)) hS.2.2 hd
    · cases h
  · next hi =>
    obtain ⟨len, hd, hln⟩ := O.2 pc _ hi
    rw [hln rfl] at hd
    split at h
    · next x e1 e2 =>
      cases h
      cases e2
      rw [e1] at hr
      exact W.dret (v := x) hx hb hr (hq (some (.inr (.inr (.inr (.inl x))))) (fun w hw => by cases hw; trivial)) hS.2.2 hd
    · cases h
  · next hi =>
    obtain ⟨len, hd, hln⟩ := O.2 pc _ hi
    rw [hln rfl] at hd
    split at h
    · next nm x e1 e2 =>
      cases h
      cases e2
      rw [e1] at hr
      exact W.aret (v := fm_cv E.2.2.2.1 (.inr (.inr (.inr (.inr x))))) hx hb hr (Or.inl ⟨_, rfl⟩) (Or.inr ⟨_, rfl⟩) (hq (some (.inr (.inr (.inr (.inr x))))) (fun w hw => by cases hw; exact hv.2.1 _ List.mem_cons_self)) hS.2.2 hd
    · cases h
  · cases h
theorem fm_gR (O : fm_mo u) {pc : Nat} {lo : List (Nat × fm_V)} {st : List fm_V} {M : fm_M} {P : Prop} {v : Option fm_V} (h : fm_rt? u (pc, lo, st, M) = some (P, v)) (hg : P) : fm_Go E d u 0 (pc, lo, st, M) (fm_Zr E v M) := fm_gR0 O h hg
end Ret
def fm_rm (d n : Nat) : Room := { frames := d, cells := n, slots := 6 * n, locals := 41 * d }
abbrev fm_ws (u : fm_Me) : List Cond := Cond.code u.1 u.2.1 u.2.2.1 u.2.2.2.1 :: fm_TB
/-- what a callee finds -/
def fm_pre (E : fm_Ev) (sz : Nat) (as : List fm_V) (M : fm_M) (U : State) : Prop :=
  U.heap.size = sz ∧ va_P E.2.1 fm_cls (fm_wl E.2.2.1 E.2.2.2.1 M) U.heap ∧ va_K E.2.1 fm_cls (fm_tys E.2.2.1) U ∧ (∀ M, va_D (fm_Aw E.2.2.2.1 sz) (fm_wl E.2.2.1 E.2.2.2.1 M)) ∧
  (va_X (E.2.2.2.1 50 0) E.2.2.2.2.1 E.2.2.2.2.2 U U.heap ∧ E.2.2.2.1 50 0 < sz ∧ ¬ fm_Aw E.2.2.2.1 sz (E.2.2.2.1 50 0)) ∧ fm_nw (fm_Aw E.2.2.2.1 sz) U U.heap ∧ fm_okM M ∧ ∀ v ∈ as, fm_ok v
/-- A CONTRACT: called with these values on this memory, the method returns v and leaves the memory M' -/
def fm_Ct (E : fm_Ev) (d : Nat) (u : fm_Me) (n : Nat) (as : List fm_V) (M : fm_M) (v : Option fm_V) (M' : fm_M) : Prop :=
  ∀ sz, Met E.1 u.1 (fm_ws u) (fm_rm d n) (va_Pc (fm_cs E.2.2.2.1 as) (fm_pre E sz as M)) (fm_Q E (fm_Aw E.2.2.2.1 sz) v M') n (6 * n) (fm_Aw E.2.2.2.1 sz)
def fm_al : Nat → List fm_V → List (Nat × fm_V)
  | _, [] => []
  | i, v :: r => (i, v) :: fm_al (cond (fm_c2 v) (i + 2) (i + 1)) r
def fm_wd : List fm_V → Nat
  | [] => 0
  | v :: r => cond (fm_c2 v) 2 1 + fm_wd r
theorem fm_cat2 (ad : fm_A) (v : fm_V) : (fm_cv ad v).category = cond (fm_c2 v) 2 1 := by
  rcases v with x | x | x | x | x <;> rfl
theorem fm_al_cl (ad : fm_A) : ∀ (as : List fm_V) (i : Nat), lv_args i (fm_cs ad as) = fm_cl ad (fm_al i as)
  | [], i => rfl
  | v :: r, i => by
    show (i, fm_cv ad v) :: lv_args _ (fm_cs ad r) = (i, fm_cv ad v) :: fm_cl ad (fm_al _ r)
    rw [fm_cat2, fm_al_cl ad r]
    cases fm_c2 v <;> rfl
theorem fm_wd_sl (ad : fm_A) : ∀ as : List fm_V, (lg_sl (fm_cs ad as)).length = fm_wd as
  | [] => rfl
  | v :: r => by
    have ih := fm_wd_sl ad r
    unfold lg_sl at ih ⊢
    simp only [fm_cs, List.map_cons, List.flatMap_cons, List.length_append, fm_wd]
    rw [← ih, fm_cat2]
    cases fm_c2 v <;> rfl
theorem fm_wd_cat (ad : fm_A) : ∀ as : List fm_V, ((fm_cs ad as).map fun v => v.category).sum = fm_wd as
  | [] => rfl
  | v :: r => by
    have ih := fm_wd_cat ad r
    simp only [fm_cs, List.map_cons, List.sum_cons, fm_wd] at ih ⊢
    rw [ih, fm_cat2]
theorem fm_al_ok {as : List fm_V} (h : ∀ v ∈ as, fm_ok v) : ∀ i, ∀ q ∈ fm_al i as, fm_ok q.2 := by
  induction as with
  | nil => intro i q hq; cases hq
  | cons v r ih =>
    intro i q hq
    rcases List.mem_cons.mp hq with rfl | hq
    · exact h _ List.mem_cons_self
    · exact ih (fun w hw => h w (List.mem_cons_of_mem _ hw)) _ q hq
set_option maxHeartbeats 4000000 in
theorem fm_ct {E : fm_Ev} {d n : Nat} {u : fm_Me} {as : List fm_V} {M M' : fm_M} {v : Option fm_V} (O : fm_mok u) (hl : E.1.stackTraces = false) (hw : fm_wd as ≤ u.2.2.1) (G : fm_Go E d u n (0, fm_al 0 as, [], M) (fm_Zr E v M')) : fm_Ct E d u n as M v M' := by
  intro sz
  refine Met.ofW (cc := u.2.1) (maxL := u.2.2.1) (ret := u.2.2.2.1) O.2.2.2.2.1 rfl ?_
  intro p e s m args below meth c s₁ B hml hv
  obtain ⟨rfl, hsz, hP, hK, hD, hX, hnw, hM, has⟩ := hv
  subst hsz
  have hts := atoms_spec (ws := fm_ws u) B.pre
  have hown : s.vm.findClass u.1.cls = some m.cls := findClass_of_methodNamed B.named
  rw [O.2.2.2.1] at hown
  have hle := lv_entry (fm_cs E.2.2.2.1 as) (n := u.2.2.1) (by rw [fm_wd_sl]; exact hw)
  rw [fm_al_cl] at hle
  rw [lg_entry_eq]
  have G0 := G p e (fm_rm d n) s m (fm_cs E.2.2.2.1 as).toArray below meth c (fm_Aw E.2.2.2.1 s.heap.size) 0 0
    ⟨B.exec, B.bytes, hml, hown, fun w hw => hts w (List.mem_cons_of_mem _ hw), hK, hD, fun q h => Or.inr h, hX, hnw, B.notSynchronized, hl, Or.inr (by simpa using B.noHandlers (hts _ List.mem_cons_self))⟩ B.returns (fun q h => h) (Nat.le_refl _) (Nat.le_refl _) (by simp [fm_rm]) (by simp [fm_rm])
    s.heap [] _ hP va_S.rf hle ⟨fun q hq => fm_al_ok has 0 q hq, fun w hw => (List.not_mem_nil hw).elim, hM⟩
  rw [Nat.zero_add, Nat.zero_add] at G0
  exact G0
theorem fm_pre_blind {E : fm_Ev} {sz : Nat} {as : List fm_V} {M : fm_M} : FrameBlind (va_Pc (fm_cs E.2.2.2.1 as) (fm_pre E sz as M)) := by
  intro a U g mk h
  obtain ⟨q0, q1, qP, qK, qD, ⟨qX, qX2⟩, qN, qM⟩ := h
  exact ⟨q0, q1, qP, va_K.moved (u := U) (U := U.calling g mk a) (Vm.Alike.refl U.vm) qK, qD, ⟨va_X.moved (u := U) (U := U.calling g mk a) (Vm.Alike.refl U.vm) qX, qX2⟩, qN.same (U := U.calling g mk a) rfl, qM⟩
/-- behind a call -/
theorem fm_after {p : Program} {l : Launch} {e : Env} {R : Room} {s : State} {m : MethodId} {args : Array Value} {below : List Frame} {meth : Method} {c : Code} {H : Heap} {locs : List Loc} {cells slots mc ms : Nat} {Q : State → Prop} {pc : Nat} {ls : Array Slot} {st0 rest : List Value} {A A1 free : Nat → Prop} {Qa : State → Outcome → State → Prop} {v0 : Option Value} {PH : Heap → Prop}
    (hr : va_Run p l e R s m args below meth c H locs cells slots mc ms (F0 m pc ls st0) rest Qa free) (hQ : ∀ (st : State) (v : Option Value) (t : State), Qa st (.returned v) t → v = v0 ∧ PH t.heap ∧ va_F A1 st t) (hS : va_S A s.heap H locs) (hA : ∀ q, q < H.size → A1 q → A q) (hf : ∀ q, free q → A q)
    (kk : ∀ (H1 : Heap) (locs1 : List Loc), PH H1 → va_S A s.heap H1 locs1 → W p l e R s m args below meth c H1 locs1 (cells + mc) (slots + ms) Q (F0 m (pc + 3) ls (v0.toList ++ rest))) : W p l e R s m args below meth c H locs cells slots Q (F0 m pc ls st0) := by
  intro T hT X
  obtain ⟨v, st₀, t, T', Lc, h0, X', hL, e1, e2, hq, st⟩ := hr T hT X
  obtain ⟨rfl, hp, hz, hk⟩ := hQ _ _ _ hq
  rw [h0] at hz hk
  obtain ⟨t2, a1, b1⟩ := kk T'.heap (locs ++ Lc) (by rw [e1]; exact hp)
    ⟨Nat.le_trans hS.1 (by rw [e1]; exact hz), fun q h1 h2 => by rw [e1, hk q (Nat.lt_of_lt_of_le h1 hS.1) (fun z => h2 (hA q (Nat.lt_of_lt_of_le h1 hS.1) z))]; exact hS.2.1 q h1 h2, fun q hq => by
      rcases List.mem_append.mp hq with h | h
      · exact hS.2.2 q h
      · exact hf _ (hL q h)⟩ T' rfl X'
  exact ⟨t2, st t2 a1, b1⟩
theorem fm_Aw_sub {ad : fm_A} {A : Nat → Prop} {a b : Nat} (h : ∀ q, fm_Aw ad a q → A q) (hab : a ≤ b) : ∀ q, fm_Aw ad b q → A q := fun q hq => h q (hq.elim Or.inl (fun z => Or.inr (Nat.le_trans hab z)))
theorem fm_preAt {E : fm_Ev} {u : fm_Me} {p : Program} {s : State} {m : MethodId} {args : Array Value} {meth : Method} {c : Code} {A : Nat → Prop} (X : fm_cx E.1 E.2.1 E.2.2.1 E.2.2.2.1 E.2.2.2.2.1 E.2.2.2.2.2 u.2.2.2.2.1 u.2.1 u.2.2.1 p s m args meth c A) (hA : ∀ q, fm_Aw E.2.2.2.1 s.heap.size q → A q)
    {H : Heap} {locs : List Loc} {M : fm_M} (hP : va_P E.2.1 fm_cls (fm_wl E.2.2.1 E.2.2.2.1 M) H) (hS : va_S A s.heap H locs) (hM : fm_okM M) {as : List fm_V} (has : ∀ v ∈ as, fm_ok v) :
    ∀ U : State, U.heap = H → s.WarmedH U.vm → fm_pre E H.size as M U := by
  obtain ⟨-, -, -, -, -, hK, hD, -, ⟨hX, hbl, hbA⟩, hnw, -⟩ := X
  intro U hU hW
  refine ⟨by rw [hU], by rw [hU]; exact hP, va_K.moved hW.alike hK, fun M' => ⟨(hD M').1, fun k q hk => ?_⟩, ⟨?_, Nat.lt_of_lt_of_le hbl hS.1, fun z => hbA (fm_Aw_sub hA hS.1 _ z)⟩, ?_, hM, has⟩
  · obtain ⟨j, hj⟩ : ∃ j : Nat × Nat, fm_ki[k]? = some j ∧ q.1 = E.2.2.2.1 j.1 j.2 := by
      unfold fm_wl at hk
      rw [List.getElem?_map] at hk
      cases hz : fm_ki[k]? with
      | none => rw [hz] at hk; cases hk
      | some j =>
        rw [hz] at hk
        cases hk
        exact ⟨j, rfl, rfl⟩
    have hmem := List.mem_of_getElem? hj.1
    have hall := List.all_eq_true.mp (show fm_ki.all (fun q => decide (q.1 < 50) && decide (q.2 < fm_cnt q.1)) = true by decide +kernel) j hmem
    simp only [Bool.and_eq_true, decide_eq_true_eq] at hall
    exact Or.inl ⟨j.1, j.2, hall.1, hall.2, hj.2⟩
  · rw [hU]
    exact (va_X.kept (hX.moved hW.alike) (hS.2.1 _ hbl hbA))
  · rw [hU]
    exact hnw.to hW (fun a h1 h2 => hS.2.1 a h1 h2) (fm_Aw_sub hA hS.1)
end
section
/-! CALLS of methods that return -/
theorem fm_good {ws : List Cond} (h : ∀ w ∈ ws, w ∈ fm_TB) : GoodIn fm_TB ws := fun w hw => ⟨h w hw, good_of_word (List.mem_filter.mp (h w hw)).2⟩
/-- the words of a virtual call -/
def fm_lv (oc ix : Nat) (y : MethodName) : Prop := Cond.methodLink (fm_cn oc) ix y ∈ fm_TB ∧ Cond.instanceMethod y ∈ fm_TB ∧ Cond.selects y.cls y y ∈ fm_TB
/-- the words of a static call -/
def fm_lst (oc ix : Nat) (y : MethodName) : Prop := Cond.methodLink (fm_cn oc) ix y ∈ fm_TB ∧ Cond.static y ∈ fm_TB
def fm_np (y : MethodName) (n : Nat) : Prop := (y.cls ≠ "java/lang/invoke/MethodHandle" ∧ y.cls ≠ "java/lang/invoke/VarHandle") ∧ (parseMethodDescriptor y.desc).map (fun d => d.parameters.length) = some n
section Calls
variable {E : fm_Ev} {d n n1 : Nat} {u u' : fm_Me} {Z : (Nat → Prop) → List Frame → Array Value → State → Nat → Nat → State → Prop}
theorem fm_Ctv {E : fm_Ev} {A : Nat → Prop} {v : Option fm_V} {M' : fm_M} {a : Array Value} {st : State} {w : Option Value} {t : State} (h : fm_Q E A v M' a st (.returned w) t) : w = v.map (fm_cv E.2.2.2.1) ∧ (va_P E.2.1 fm_cls (fm_wl E.2.2.1 E.2.2.2.1 M') t.heap ∧ (∀ w ∈ v, fm_ok w) ∧ fm_okM M') ∧ va_F A st t :=
  ⟨Outcome.returned.inj h.1, ⟨h.2.1, h.2.2.2⟩, h.2.2.1⟩
theorem fm_vm {v : Option fm_V} {ad : fm_A} {rest : List fm_V} : (v.map (fm_cv ad)).toList ++ fm_cs ad rest = fm_cs ad (v.toList ++ rest) := by
  cases v <;> rfl
set_option maxHeartbeats 4000000 in
theorem fm_cV (O : fm_mo u) (O' : fm_mok u') {pc ix kd i : Nat} {lo : List (Nat × fm_V)} {as rest : List fm_V} {M M1 : fm_M} {v : Option fm_V} (hi : u.2.2.2.2.2.2 pc = some (.invokevirtual ix)) (hlk : fm_lv u.2.2.2.2.1 ix u'.1) (hkd : fm_is kd u'.2.2.2.2.1 = true) (h7 : u'.2.2.2.2.1 < 7)
    (hn : fm_np u'.1 as.length) (hrest : fm_wd rest ≤ 8) (K : fm_Ct E d u' n1 (.inr (.inr (.inr (.inr (kd, i)))) :: as) M v M1)
    (k : fm_Go E (d + 1) u n (pc + 3, lo, v.toList ++ rest, M1) Z) : fm_Go E (d + 1) u (n1 + n) (pc, lo, as.reverse ++ .inr (.inr (.inr (.inr (kd, i)))) :: rest, M) Z := by
  intro p e R s m args below meth c A cells slots X hr hA h1 h2 h3 h4
  have X0 := X
  obtain ⟨hx, hb, hml, hown, hts, hK, hD, -⟩ := X
  obtain ⟨len, hd, hln⟩ := O.2 pc _ hi
  rw [hln rfl] at hd
  intro H locs ls hP hS hl hv
  have has : ∀ w ∈ (.inr (.inr (.inr (.inr (kd, i)))) :: as : List fm_V), fm_ok w := by
    intro w hw
    rcases List.mem_cons.mp hw with rfl | hw
    · exact hv.2.1 _ (List.mem_append_right _ List.mem_cons_self)
    · exact hv.2.1 _ (List.mem_append_left _ (List.mem_reverse.mpr hw))
  have hpre := fm_preAt X0 hA hP hS hv.2.2 has
  obtain ⟨hkc, hk50⟩ := fm_is_ok hkd
  obtain ⟨j, hj⟩ := fm_ki_at hk50 (show i < fm_cnt kd from has _ List.mem_cons_self)
  obtain ⟨Cn, T, N, ty0, hc, hgd, hN, hin, hty0, hnm, hC, hfi, t0, t1, t2⟩ := fm_clo u'.2.2.2.2.1 h7
  have hCn : Cn = u'.1.cls := by
    rw [O'.2.2.2.1]
    have h9 := hgd
    rcases (show u'.2.2.2.2.1 = 0 ∨ u'.2.2.2.2.1 = 1 ∨ u'.2.2.2.2.1 = 2 ∨ u'.2.2.2.2.1 = 3 ∨ u'.2.2.2.2.1 = 4 ∨ u'.2.2.2.2.1 = 5 ∨ u'.2.2.2.2.1 = 6 by omega) with q | q | q | q | q | q | q <;> (rw [q] at h9 ⊢; cases h9; rfl)
  have he : (fm_wl E.2.2.1 E.2.2.2.1 M)[j]? = some (E.2.2.2.1 kd i, .inr (u'.2.2.2.2.1, (List.range (fm_nf u'.2.2.2.2.1)).map (fm_fv E.2.2.2.1 M u'.2.2.2.2.1 kd i))) := by rw [fm_wl_at hj, fm_ce_o hkc]
  have hG : GoodIn fm_TB (wsV (fm_cn u.2.2.2.2.1) ix u'.1.cls u'.1 (fm_ws u')) := fm_good (by
    intro w hw
    unfold wsV at hw
    rcases List.mem_append.mp hw with hw | hw
    · simp only [List.mem_cons, List.not_mem_nil, or_false] at hw
      rcases hw with rfl | rfl | rfl | rfl
      · exact hlk.1
      · exact hlk.2.1
      · exact hlk.2.2
      · exact O'.2.2.1
    · rcases List.mem_cons.mp hw with rfl | hw
      · exact O'.2.1
      · exact hw)
  have hroom : (fm_rm d n1).frames + 1 ≤ R.frames ∧ 8 + (u'.2.2.1 + 11) + (fm_rm d n1).locals ≤ R.locals := by
    have := O'.2.2.2.2.2
    simp only [fm_rm]
    omega
  have hst : fm_cs E.2.2.2.1 (as.reverse ++ .inr (.inr (.inr (.inr (kd, i)))) :: rest) = (fm_cs E.2.2.2.1 as).reverse ++ .ref (E.2.2.2.1 kd i) :: fm_cs E.2.2.2.1 rest := by
    simp only [fm_cs, List.map_append, List.map_reverse, List.map_cons]
    rfl
  rw [hst]
  refine fm_after (A1 := fm_Aw E.2.2.2.1 H.size) (free := fm_Aw E.2.2.2.1 H.size) (v0 := v.map (fm_cv E.2.2.2.1)) (PH := fun H1 => va_P E.2.1 fm_cls (fm_wl E.2.2.1 E.2.2.2.1 M1) H1 ∧ (∀ w ∈ v, fm_ok w) ∧ fm_okM M1) (va_runV (As := fm_cs E.2.2.2.1 as) (rest := fm_cs E.2.2.2.1 rest) (n := as.length) ⟨hx, hb, hml, hown, hts⟩ (K H.size) (cwV as.length hts hG rfl rfl rfl ⟨rfl, hn.1.1, hn.1.2, hn.2⟩ hroom) ⟨fm_pre_blind, ?_, fun U hU hW => ⟨rfl, hpre U hU hW⟩⟩ rfl (by simp [fm_cs]) hl.1 rfl (lv_room (by rw [fm_wd_cat]; exact hrest)) hd ⟨by omega, by omega⟩) (fun st w t h => fm_Ctv h) hS (fun q _ h => fm_Aw_sub hA hS.1 q h) (fun q h => fm_Aw_sub hA hS.1 q h) ?_
  · have := va_recv hK hP hc he
    rw [hCn] at this
    exact this
  · intro H1 locs1 hPP hS1
    have kk := k p e R s m args below meth c A (cells + n1) (slots + 6 * n1) X0 hr hA h1 h2 (by omega) (by omega) H1 locs1 ls hPP.1 hS1 hl ⟨hv.1, fun w hw => ?_, hPP.2.2⟩
    · rw [show cells + n1 + n = cells + (n1 + n) by omega, show slots + 6 * n1 + 6 * n = slots + 6 * (n1 + n) by omega] at kk
      rw [fm_vm]
      exact kk
    · rcases List.mem_append.mp hw with h | h
      · exact hPP.2.1 w (Option.mem_toList.mp h)
      · exact hv.2.1 w (List.mem_append_right _ (List.mem_cons_of_mem _ h))
set_option maxHeartbeats 4000000 in
theorem fm_cS (O : fm_mo u) (O' : fm_mok u') {pc ix : Nat} {lo : List (Nat × fm_V)} {as rest : List fm_V} {M M1 : fm_M} {v : Option fm_V} (hi : u.2.2.2.2.2.2 pc = some (.invokestatic ix)) (hlk : fm_lst u.2.2.2.2.1 ix u'.1)
    (hn : fm_np u'.1 as.length) (hrest : fm_wd rest ≤ 8) (K : fm_Ct E d u' n1 as M v M1)
    (k : fm_Go E (d + 1) u n (pc + 3, lo, v.toList ++ rest, M1) Z) : fm_Go E (d + 1) u (n1 + n) (pc, lo, as.reverse ++ rest, M) Z := by
  intro p e R s m args below meth c A cells slots X hr hA h1 h2 h3 h4
  have X0 := X
  obtain ⟨hx, hb, hml, hown, hts, hK, hD, -⟩ := X
  obtain ⟨len, hd, hln⟩ := O.2 pc _ hi
  rw [hln rfl] at hd
  intro H locs ls hP hS hl hv
  have has : ∀ w ∈ as, fm_ok w := fun w hw => hv.2.1 _ (List.mem_append_left _ (List.mem_reverse.mpr hw))
  have hpre := fm_preAt X0 hA hP hS hv.2.2 has
  have hG : GoodIn fm_TB (va_wsS (fm_cn u.2.2.2.2.1) ix u'.1 (fm_ws u')) := fm_good (by
    intro w hw
    unfold va_wsS at hw
    rcases List.mem_append.mp hw with hw | hw
    · simp only [List.mem_cons, List.not_mem_nil, or_false] at hw
      rcases hw with rfl | rfl | rfl
      · exact hlk.1
      · exact hlk.2
      · exact O'.2.2.1
    · rcases List.mem_cons.mp hw with rfl | hw
      · exact O'.2.1
      · exact hw)
  have hroom : (fm_rm d n1).frames + 1 ≤ R.frames ∧ 8 + (u'.2.2.1 + 11) + (fm_rm d n1).locals ≤ R.locals := by
    have := O'.2.2.2.2.2
    simp only [fm_rm]
    omega
  have hst : fm_cs E.2.2.2.1 (as.reverse ++ rest) = (fm_cs E.2.2.2.1 as).reverse ++ fm_cs E.2.2.2.1 rest := by
    simp only [fm_cs, List.map_append, List.map_reverse]
  rw [hst]
  refine fm_after (A1 := fm_Aw E.2.2.2.1 H.size) (free := fm_Aw E.2.2.2.1 H.size) (v0 := v.map (fm_cv E.2.2.2.1)) (PH := fun H1 => va_P E.2.1 fm_cls (fm_wl E.2.2.1 E.2.2.2.1 M1) H1 ∧ (∀ w ∈ v, fm_ok w) ∧ fm_okM M1) (va_runS (As := fm_cs E.2.2.2.1 as) (rest := fm_cs E.2.2.2.1 rest) (n := as.length) ⟨hx, hb, hml, hown, hts⟩ (K H.size) (va_cwS as.length hts hG rfl rfl rfl ⟨hn.1.1, hn.1.2, hn.2⟩ hroom) ⟨fm_pre_blind, fun U hU hW => ⟨rfl, hpre U hU hW⟩⟩ rfl (by simp [fm_cs]) hl.1 rfl (lv_room (by rw [fm_wd_cat]; exact hrest)) hd ⟨by omega, by omega⟩) (fun st w t h => fm_Ctv h) hS (fun q _ h => fm_Aw_sub hA hS.1 q h) (fun q h => fm_Aw_sub hA hS.1 q h) ?_
  intro H1 locs1 hPP hS1
  have kk := k p e R s m args below meth c A (cells + n1) (slots + 6 * n1) X0 hr hA h1 h2 (by omega) (by omega) H1 locs1 ls hPP.1 hS1 hl ⟨hv.1, fun w hw => ?_, hPP.2.2⟩
  · rw [show cells + n1 + n = cells + (n1 + n) by omega, show slots + 6 * n1 + 6 * n = slots + 6 * (n1 + n) by omega] at kk
    rw [fm_vm]
    exact kk
  · rcases List.mem_append.mp hw with h | h
    · exact hPP.2.1 w (Option.mem_toList.mp h)
    · exact hv.2.1 w (List.mem_append_right _ h)
set_option maxHeartbeats 4000000 in
/-- Checker's call of FlatModule.isWithin, a nest mate's private method -/
theorem fm_cN (O : fm_mo u) (O' : fm_mok u') {pc : Nat} {lo : List (Nat × fm_V)} {as rest : List fm_V} {M M1 : fm_M} {v : Option fm_V} (hi : u.2.2.2.2.2.2 pc = some (.invokestatic 93)) (hoc : u.2.2.2.2.1 = 1) (hy : u'.1 = ⟨"FlatModule", "isWithin", "(II)Z"⟩) (hsw : Cond.static u'.1 ∈ fm_TB)
    (hn : fm_np u'.1 as.length) (hrest : fm_wd rest ≤ 8) (K : fm_Ct E d u' n1 as M v M1)
    (k : fm_Go E (d + 1) u n (pc + 3, lo, v.toList ++ rest, M1) Z) : fm_Go E (d + 1) u (n1 + n) (pc, lo, as.reverse ++ rest, M) Z := by
  intro p e R s m args below meth c A cells slots X hr hA h1 h2 h3 h4
  have X0 := X
  obtain ⟨hx, hb, hml, hown, hts, hK, hD, -, -, hnw, -, -⟩ := X
  obtain ⟨len, hd, hln⟩ := O.2 pc _ hi
  rw [hln rfl] at hd
  intro H locs ls hP hS hl hv
  have has : ∀ w ∈ as, fm_ok w := fun w hw => hv.2.1 _ (List.mem_append_left _ (List.mem_reverse.mpr hw))
  have hpre := fm_preAt X0 hA hP hS hv.2.2 has
  have hG : GoodIn fm_TB (fm_ws u') := fm_good (by
    intro w hw
    rcases List.mem_cons.mp hw with rfl | hw
    · exact O'.2.1
    · exact hw)
  have hroom : (fm_rm d n1).frames + 1 ≤ R.frames ∧ 8 + (u'.2.2.1 + 11) + (fm_rm d n1).locals ≤ R.locals := by
    have := O'.2.2.2.2.2
    simp only [fm_rm]
    omega
  have hst : fm_cs E.2.2.2.1 (as.reverse ++ rest) = (fm_cs E.2.2.2.1 as).reverse ++ fm_cs E.2.2.2.1 rest := by
    simp only [fm_cs, List.map_append, List.map_reverse]
  rw [hst]
  have hlink : va_Nw (.methodLinkNest (fm_cn u.2.2.2.2.1) 93 u'.1 "FlatModule") s := by
    rw [hoc, hy]
    exact hnw.1
  refine fm_after (A1 := fm_Aw E.2.2.2.1 H.size) (free := fm_Aw E.2.2.2.1 H.size) (v0 := v.map (fm_cv E.2.2.2.1)) (PH := fun H1 => va_P E.2.1 fm_cls (fm_wl E.2.2.1 E.2.2.2.1 M1) H1 ∧ (∀ w ∈ v, fm_ok w) ∧ fm_okM M1) (va_runSN (As := fm_cs E.2.2.2.1 as) (rest := fm_cs E.2.2.2.1 rest) (n := as.length) ⟨hx, hb, hml, hown, hts⟩ (K H.size) ⟨va_cnB as.length hts hG rfl rfl rfl hlink (hts _ O'.2.2.1) ⟨hn.1.1, hn.1.2, hn.2⟩ hroom, hts _ hsw, trivial⟩ ⟨fm_pre_blind, fun U hU hW => ⟨rfl, hpre U hU hW⟩⟩ rfl (by simp [fm_cs]) hl.1 rfl (lv_room (by rw [fm_wd_cat]; exact hrest)) hd ⟨by omega, by omega⟩) (fun st w t h => fm_Ctv h) hS (fun q _ h => fm_Aw_sub hA hS.1 q h) (fun q h => fm_Aw_sub hA hS.1 q h) ?_
  intro H1 locs1 hPP hS1
  have kk := k p e R s m args below meth c A (cells + n1) (slots + 6 * n1) X0 hr hA h1 h2 (by omega) (by omega) H1 locs1 ls hPP.1 hS1 hl ⟨hv.1, fun w hw => ?_, hPP.2.2⟩
  · rw [show cells + n1 + n = cells + (n1 + n) by omega, show slots + 6 * n1 + 6 * n = slots + 6 * (n1 + n) by omega] at kk
    rw [fm_vm]
    exact kk
  · rcases List.mem_append.mp hw with h | h
    · exact hPP.2.1 w (Option.mem_toList.mp h)
    · exact hv.2.1 w (List.mem_append_right _ h)
end Calls
end
section
/-! tables that end -/
def fm_cut {α : Type} (N : Nat) (f : Nat → Option α) : Nat → Option α := fun k => cond (Nat.blt k N) (f k) none
theorem fm_cut_lt {α : Type} {N : Nat} {f : Nat → Option α} {k : Nat} {x : α} (h : fm_cut N f k = some x) : k < N ∧ f k = some x := by
  unfold fm_cut at h
  cases hb : Nat.blt k N with
  | false => rw [hb] at h; cases h
  | true => rw [hb] at h; exact ⟨Nat.le_of_ble_eq_true hb, h⟩
def fm_dck (cc : ByteArray) (f : Nat → Option Instr) (pc : Nat) : Bool := match f pc with
  | none => true
  | some i => match decode cc pc with
    | .ok q => decide (q.1 = i) && (fm_isw i || Nat.beq q.2 (fm_ln i))
    | .error _ => false
theorem fm_dc_of {cc : ByteArray} {N : Nat} {f : Nat → Option Instr} (h : (List.range N).all (fm_dck cc f) = true) : fm_dc cc (fm_cut N f) := by
  intro pc i hi
  obtain ⟨hN, hf⟩ := fm_cut_lt hi
  have h1 := List.all_eq_true.mp h pc (List.mem_range.mpr hN)
  unfold fm_dck at h1
  rw [hf] at h1
  simp only at h1
  split at h1
  · next q hq =>
    simp only [Bool.and_eq_true, decide_eq_true_eq, Bool.or_eq_true] at h1
    refine ⟨q.2, by rw [hq, ← h1.1], fun hw => ?_⟩
    rcases h1.2 with z | z
    · rw [hw] at z; cases z
    · exact Nat.eq_of_beq_eq_true z
  · cases h1
theorem fm_flo_of {oc N : Nat} {f : Nat → Option (Nat × Nat)} {L : List (Nat × Nat × Nat)} (h : (List.range N).all (fun ix => match f ix with
    | none => true
    | some q => decide (q.1 < 7) && (decide (q.2 < fm_nf q.1) && decide ((ix, q.1, q.2) ∈ L))) = true)
    (hL : ∀ w ∈ L.map (fun q => Cond.fieldLink (fm_cn oc) q.1 (fm_cls.getD q.2.1 ("", fm_T0, 0)).1 ((fm_cls.getD q.2.1 ("", fm_T0, 0)).2.1 q.2.2).2.1 ((fm_cls.getD q.2.1 ("", fm_T0, 0)).2.1 q.2.2).2.2.1), w ∈ fm_TB) : fm_flo oc (fm_cut N f) := by
  intro ix q hq
  obtain ⟨hN, hf⟩ := fm_cut_lt hq
  have h1 := List.all_eq_true.mp h ix (List.mem_range.mpr hN)
  rw [hf] at h1
  simp only [Bool.and_eq_true, decide_eq_true_eq] at h1
  exact ⟨h1.1, h1.2.1, hL _ (List.mem_map.mpr ⟨(ix, q.1, q.2), h1.2.2, rfl⟩)⟩

def fm_f0 : Nat → Option (Nat × Nat) := fm_cut 300 fm_fl0
theorem fm_f0_o : fm_flo 0 fm_f0 := fm_flo_of (L := fm_fll0) (by decide +kernel) fm_flw0
def fm_f1 : Nat → Option (Nat × Nat) := fm_cut 300 fm_fl1
theorem fm_f1_o : fm_flo 1 fm_f1 := fm_flo_of (L := fm_fll1) (by decide +kernel) fm_flw1
def fm_f2 : Nat → Option (Nat × Nat) := fm_cut 300 fm_fl2
theorem fm_f2_o : fm_flo 2 fm_f2 := fm_flo_of (L := fm_fll2) (by decide +kernel) fm_flw2
def fm_f3 : Nat → Option (Nat × Nat) := fm_cut 300 fm_fl3
theorem fm_f3_o : fm_flo 3 fm_f3 := fm_flo_of (L := fm_fll3) (by decide +kernel) fm_flw3
def fm_f4 : Nat → Option (Nat × Nat) := fm_cut 300 fm_fl4
theorem fm_f4_o : fm_flo 4 fm_f4 := fm_flo_of (L := fm_fll4) (by decide +kernel) fm_flw4
def fm_f5 : Nat → Option (Nat × Nat) := fm_cut 300 fm_fl5
theorem fm_f5_o : fm_flo 5 fm_f5 := fm_flo_of (L := fm_fll5) (by decide +kernel) fm_flw5
def fm_f6 : Nat → Option (Nat × Nat) := fm_cut 300 fm_fl6
theorem fm_f6_o : fm_flo 6 fm_f6 := fm_flo_of (L := fm_fll6) (by decide +kernel) fm_flw6
def fm_f7 : Nat → Option (Nat × Nat) := fm_cut 300 fm_fl7
theorem fm_f7_o : fm_flo 7 fm_f7 := fm_flo_of (L := fm_fll7) (by decide +kernel) (fun w h => by cases h)
def fm_f8 : Nat → Option (Nat × Nat) := fm_cut 300 fm_fl8
theorem fm_f8_o : fm_flo 8 fm_f8 := fm_flo_of (L := fm_fll8) (by decide +kernel) (fun w h => by cases h)
def fm_f9 : Nat → Option (Nat × Nat) := fm_cut 300 fm_fl9
theorem fm_f9_o : fm_flo 9 fm_f9 := fm_flo_of (L := fm_fll9) (by decide +kernel) (fun w h => by cases h)
end
section
/-! THROWS: a method that ends by an exception -/
/-- at the end: a new object of the class cl is thrown, with the memory M' -/
def fm_X (E : fm_Ev) (A : Nat → Prop) (cl : String) (M' : fm_M) : Array Value → State → Outcome → State → Prop := fun _ st o t =>
  ∃ (q : Addr) (ce : Cell), o = .threw q ∧ t.heap[q]? = some ce ∧ ce.vm = .none ∧ st.vm.findClass cl = some ce.cls ∧ va_P E.2.1 fm_cls (fm_wl E.2.2.1 E.2.2.2.1 M') t.heap ∧ va_F A st t ∧ fm_okM M'
def fm_Xe (st t : State) (cells slots : Nat) (free : Nat → Prop) : Prop := ∃ Lc : List Loc, st.WarmedH t.vm ∧ st.sameButNew ({ t with vm := st.vm } : State) Lc cells slots ∧ ∀ q ∈ Lc, free q.base
abbrev fm_Zx (E : fm_Ev) (cl : String) (M' : fm_M) : (Nat → Prop) → List Frame → Array Value → State → Nat → Nat → State → Prop := fun A below args s cells slots t =>
  ∃ o, t.status = .running ∧ Ended t below o ∧ fm_X E A cl M' args s o t ∧ fm_Xe s t cells slots A
/-- A CONTRACT: called with these values on this memory, the method throws a new cl and leaves the memory M' -/
def fm_Cx (E : fm_Ev) (d : Nat) (u : fm_Me) (n : Nat) (as : List fm_V) (M : fm_M) (cl : String) (M' : fm_M) : Prop :=
  ∀ sz, MetFree E.1 u.1 (headSpec (fm_ws u) (fm_rm d n)) (va_Pc (fm_cs E.2.2.2.1 as) (fm_pre E sz as M)) (fun _ _ _ _ _ => True) (fun a st o t => fm_X E (fm_Aw E.2.2.2.1 sz) cl M' a st o t ∧ fm_Xe st t n (6 * n) (fm_Aw E.2.2.2.1 sz))
set_option maxHeartbeats 4000000 in
theorem fm_cxt {E : fm_Ev} {d n : Nat} {u : fm_Me} {as : List fm_V} {M M' : fm_M} {cl : String} (O : fm_mok u) (hl : E.1.stackTraces = false) (hw : fm_wd as ≤ u.2.2.1) (G : fm_Go E d u n (0, fm_al 0 as, [], M) (fm_Zx E cl M')) : fm_Cx E d u n as M cl M' := by
  intro sz
  refine MetFree.of_bodyS (code := u.2.1) (maxLocals := u.2.2.1) (ret := u.2.2.2.1) O.2.2.2.2.1 ?_ ?_
  · intro args s m h hn
    obtain ⟨meth, c, h1, h2, h3, h4, h5, h6, -, -⟩ := Cond.code_spec hn (atoms_spec (ws := fm_ws u) h _ List.mem_cons_self)
    exact ⟨meth, c, h1, h2, h3, h4, h5, h6⟩
  · intro p e s m args below meth c s₁ B hml hv _
    have hh0 : s₁.heap = s.heap := by rw [B.state]; rfl
    obtain ⟨rfl, hsz, hP, hK, hD, hX, hnw, hM, has⟩ := hv
    subst hsz
    have hts := atoms_spec (ws := fm_ws u) B.pre
    have hown : s.vm.findClass u.1.cls = some m.cls := findClass_of_methodNamed B.named
    rw [O.2.2.2.1] at hown
    have hle := lv_entry (fm_cs E.2.2.2.1 as) (n := u.2.2.1) (by rw [fm_wd_sl]; exact hw)
    rw [fm_al_cl] at hle
    have G0 := G p e (fm_rm d n) s m (fm_cs E.2.2.2.1 as).toArray below meth c (fm_Aw E.2.2.2.1 s.heap.size) 0 0
      ⟨B.exec, B.bytes, hml, hown, fun w hw => hts w (List.mem_cons_of_mem _ hw), hK, hD, fun q h => Or.inr h, hX, hnw, B.notSynchronized, hl, Or.inr (by simpa using B.noHandlers (hts _ List.mem_cons_self))⟩ B.returns (fun q h => h) (Nat.le_refl _) (Nat.le_refl _) (by simp [fm_rm]) (by simp [fm_rm])
      s.heap [] _ hP va_S.rf hle ⟨fun q hq => fm_al_ok has 0 q hq, fun w hw => (List.not_mem_nil hw).elim, hM⟩
    rw [Nat.zero_add, Nat.zero_add] at G0
    rw [lg_entry_eq]
    obtain ⟨t, a1, o, b1, b2, b3, b4⟩ := G0 s₁ hh0 (Stand.of_body B)
    exact ⟨t, o, a1, b1, b2, b3, b4⟩
/-- a callee throws: the walk stands behind it, the note laid -/
theorem fm_xback {l : Launch} {p : Program} {e : Env} {R : Room} {s : State} {m : MethodId} {args : Array Value} {below : List Frame} {meth : Method} {c : Code} {T : State} {locs : List Loc} {cells slots : Nat} {y : MethodName} {ws : List Cond} {rm : Room} {Pc : Array Value → State → Prop} {Qx : Array Value → State → Outcome → State → Prop} {mc ms : Nat} {free : Nat → Prop} {bytes : ByteArray} {maxL : Nat} {ret : Option FieldType}
    (X : Stand p l e R s m args below meth c T locs cells slots) (hM : MetFree l y (headSpec ws rm) Pc (fun _ _ _ _ _ => True) (fun a st o t => Qx a st o t ∧ fm_Xe st t mc ms free)) (hbl : FrameBlind Pc) (hthr : ∀ a st o t, Qx a st o t → ∃ q, o = .threw q)
    (hframes : rm.frames + 1 ≤ R.frames) (hlocals : 8 + (maxL + 11) + rm.locals ≤ R.locals) (hc : cells + rm.cells ≤ R.cells) (hs : slots + rm.slots ≤ R.slots)
    (hws : ∀ w ∈ ws, ∀ (a' : Array Value) (U : State), s.WarmedH U.vm → w.before a' U = true) (hcode : Cond.code y bytes maxL ret ∈ ws) (hini : ∀ (a' : Array Value) (U : State), s.WarmedH U.vm → (Cond.initialized y.cls).before a' U = true)
    {g : JFrame} {ig : Instr} {mk : MethodId} {a : Array Value} (hg : g.method = m) (hsize : g.locals.size = c.maxLocals) (hdg : decode c.code g.pc = .ok (ig, 3)) (hW : 2 * g.monitorRoom + (g.stack.map fun v => v.category).sum ≤ 8) (hn : T.methodNamed? y = some mk) (hp : Pc a T) :
    ∃ (q : Addr) (t T' : State) (Lc : List Loc), Stand p l e R s m args below meth c T' (locs ++ Lc) (cells + mc) (slots + ms) ∧ (∀ z ∈ Lc, free z.base) ∧ T'.heap = t.heap ∧ T'.vm = t.vm ∧ Qx a (T.calling g mk a) (.threw q) t ∧ Steps p.tables e below (doInvoke e (T.setTop g) [] mk a).1 ((T'.setTop g).pushFrame (.throwing q)) := by
  obtain ⟨methY, cY, hmY, hcY, -, hlY, -, -, -, -⟩ := Cond.code_spec hn (hws _ hcode a T X.warmed)
  obtain ⟨kY, hkY, -⟩ := className_of_methodNamed hn
  have hinitY : kY.init = .initialized := Cond.initialized_spec (findClass_of_methodNamed hn) hkY (hini a T X.warmed)
  have h : At T g.method c below := by rw [hg]; exact X.here
  have happ : (headSpec ws rm).appliesLoose y e.platform (T.calling g mk a) = true :=
    Spec.appliesLoose_calling (g := g) h hdg hn hkY hinitY
      (X.room_calling (g := g) (R' := (headSpec ws rm).room) hsize hmY hcY hframes (by rw [hlY]; show _ + _ + rm.locals ≤ _; omega) hc hs) (atoms_intro fun w hw => hws w hw _ _ X.warmed)
  obtain ⟨mid, hmid⟩ := h.above
  have hfr : (T.setTop g).frames = (.java g :: mid) ++ below := by rw [State.frames_setTop' g h.top, hmid]; rfl
  obtain ⟨o, s₂, hsteps, -, hend, hq, Lc, hWu, hsame, hL⟩ := Steps.callFree hM p X.admits X.cas X.clock (acts := []) hfr happ (hbl _ _ _ _ hp) trivial
  obtain ⟨q, rfl⟩ := hthr _ _ _ _ hq
  rw [State.frames_setTop' g h.top] at hend
  have hmb : T.frames.tail = below := X.tail
  rw [hmb] at hend
  obtain ⟨T', X', hW', -, ht⟩ := X.outOfThrown hg hend hWu hsame
  refine ⟨q, s₂, T', Lc, X', hL, ?_, ?_, hq, by rw [← ht]; exact hsteps⟩
  · rw [ht, Stand.throwing_heap]
  · rw [ht, Stand.throwing_vm]

section Throws
variable {E : fm_Ev} {d n n1 : Nat} {u u' : fm_Me}
theorem fm_thr {E : fm_Ev} {A : Nat → Prop} {cl : String} {M' : fm_M} : ∀ a st o t, fm_X E A cl M' a st o t → ∃ q, o = Outcome.threw q := fun a st o t h => by
  obtain ⟨q, ce, h1, -⟩ := h
  exact ⟨q, h1⟩
/-- the exception goes on, out of a method without handlers -/
theorem fm_xout {E : fm_Ev} {u : fm_Me} {p : Program} {e : Env} {R : Room} {s : State} {m : MethodId} {args : Array Value} {below : List Frame} {meth : Method} {c : Code} {A : Nat → Prop} {cells slots : Nat} (X : fm_cx E.1 E.2.1 E.2.2.1 E.2.2.2.1 E.2.2.2.2.1 E.2.2.2.2.2 u.2.2.2.2.1 u.2.1 u.2.2.1 p s m args meth c A) (hoc : u.2.2.2.2.1 ≠ 8)
    {cl : String} {M1 : fm_M} {H : Heap} {locs : List Loc} (hS : va_S A s.heap H locs) (hf : ∀ q, fm_Aw E.2.2.2.1 H.size q → A q) {T' t : State} {q : Addr} {Lc : List Loc} {g : JFrame} (hg : g.method = m) (hk1 : g.locked = none) (hk2 : g.entered = []) {st : State} {a : Array Value} (hst : st.heap = H) (hvm : s.vm.Alike st.vm)
    (X' : Stand p E.1 e R s m args below meth c T' (locs ++ Lc) cells slots) (hL : ∀ z ∈ Lc, fm_Aw E.2.2.2.1 H.size z.base) (e1 : T'.heap = t.heap) (hq : fm_X E (fm_Aw E.2.2.2.1 H.size) cl M1 a st (.threw q) t) :
    ∃ t2, Steps p.tables e below ((T'.setTop g).pushFrame (.throwing q)) t2 ∧ fm_Zx E cl M1 A below args s cells slots t2 := by
  obtain ⟨-, -, -, -, -, -, -, -, -, -, hlocks, -, hh⟩ := X
  have hempty : c.exceptionTable.toList = [] := hh.resolve_left hoc
  obtain ⟨hsteps, hrun, hend, hWu, hsame⟩ := X'.leaveThrown q hg hk1 hk2 (fun x hx => by rw [hempty] at hx; cases hx)
  obtain ⟨q', ce, eq, h1, h2, h3, h4, h5, h6⟩ := hq
  cases eq
  have hF : va_F A s (T'.setFrames (.throwing q :: below)) := by
    obtain ⟨z1, z2⟩ := h5
    rw [hst] at z1 z2
    refine ⟨?_, fun w hw hA => ?_⟩
    · show s.heap.size ≤ T'.heap.size
      rw [e1]
      exact Nat.le_trans hS.1 z1
    · show T'.heap[w]? = s.heap[w]?
      rw [e1, z2 w (Nat.lt_of_lt_of_le hw hS.1) (fun z => hA (hf w z))]
      exact hS.2.1 w hw hA
  exact ⟨_, hsteps, .threw q, hrun, hend, ⟨q, ce, rfl, by show T'.heap[q]? = _; rw [e1]; exact h1, h2, by rw [← hvm.findClass]; exact h3, by show va_P _ _ _ T'.heap; rw [e1]; exact h4, hF, h6⟩, locs ++ Lc, hWu, hsame, fun z hz => (List.mem_append.mp hz).elim (hS.2.2 z) (fun y => hf _ (hL z y))⟩
end Throws

section ThrowCalls
variable {E : fm_Ev} {d n n1 : Nat} {u u' : fm_Me}
set_option maxHeartbeats 4000000 in
/-- an invokevirtual whose callee throws, in a method without handlers -/
theorem fm_xV (O : fm_mo u) (O' : fm_mok u') (hoc : u.2.2.2.2.1 ≠ 8) {pc ix kd i : Nat} {lo : List (Nat × fm_V)} {as rest : List fm_V} {M M1 : fm_M} {cl : String} (hi : u.2.2.2.2.2.2 pc = some (.invokevirtual ix)) (hlk : fm_lv u.2.2.2.2.1 ix u'.1) (hkd : fm_is kd u'.2.2.2.2.1 = true) (h7 : u'.2.2.2.2.1 < 7)
    (hn : fm_np u'.1 as.length) (hrest : fm_wd rest ≤ 8) (K : fm_Cx E d u' n (.inr (.inr (.inr (.inr (kd, i)))) :: as) M cl M1) : fm_Go E (d + 1) u n (pc, lo, as.reverse ++ .inr (.inr (.inr (.inr (kd, i)))) :: rest, M) (fm_Zx E cl M1) := by
  intro p e R s m args below meth c A cells slots X hr hA h1 h2 h3 h4
  have X0 := X
  obtain ⟨hx, hb, hml, hown, hts, hK, hD, -⟩ := X
  obtain ⟨len, hd, hln⟩ := O.2 pc _ hi
  rw [hln rfl] at hd
  intro H locs ls hP hS hl hv
  have has : ∀ w ∈ (.inr (.inr (.inr (.inr (kd, i)))) :: as : List fm_V), fm_ok w := by
    intro w hw
    rcases List.mem_cons.mp hw with rfl | hw
    · exact hv.2.1 _ (List.mem_append_right _ List.mem_cons_self)
    · exact hv.2.1 _ (List.mem_append_left _ (List.mem_reverse.mpr hw))
  have hpre := fm_preAt X0 hA hP hS hv.2.2 has
  obtain ⟨hkc, hk50⟩ := fm_is_ok hkd
  obtain ⟨j, hj⟩ := fm_ki_at hk50 (show i < fm_cnt kd from has _ List.mem_cons_self)
  obtain ⟨Cn, T0, N, ty0, hc, hgd, hN, hin, hty0, hnm, hC, hfi, t0, t1, t2⟩ := fm_clo u'.2.2.2.2.1 h7
  have hCn : Cn = u'.1.cls := by
    rw [O'.2.2.2.1]
    have h9 := hgd
    rcases (show u'.2.2.2.2.1 = 0 ∨ u'.2.2.2.2.1 = 1 ∨ u'.2.2.2.2.1 = 2 ∨ u'.2.2.2.2.1 = 3 ∨ u'.2.2.2.2.1 = 4 ∨ u'.2.2.2.2.1 = 5 ∨ u'.2.2.2.2.1 = 6 by omega) with q | q | q | q | q | q | q <;> (rw [q] at h9 ⊢; cases h9; rfl)
  have he : (fm_wl E.2.2.1 E.2.2.2.1 M)[j]? = some (E.2.2.2.1 kd i, .inr (u'.2.2.2.2.1, (List.range (fm_nf u'.2.2.2.2.1)).map (fm_fv E.2.2.2.1 M u'.2.2.2.2.1 kd i))) := by rw [fm_wl_at hj, fm_ce_o hkc]
  obtain ⟨cellB, hcB, hoB, hclB⟩ := va_recv hK hP hc he
  rw [show (Cn, T0, N).1 = u'.1.cls from hCn] at hclB
  have hw : ∀ w ∈ fm_ws u', ∀ (a' : Array Value) (U : State), s.WarmedH U.vm → w.before a' U = true := by
    intro w hw a' U hW
    have hin : w ∈ fm_TB := by
      rcases List.mem_cons.mp hw with rfl | hw
      · exact O'.2.1
      · exact hw
    exact word_at hW (good_of_word (List.mem_filter.mp hin).2) (hts w hin)
  have hst : fm_cs E.2.2.2.1 (as.reverse ++ .inr (.inr (.inr (.inr (kd, i)))) :: rest) = (fm_cs E.2.2.2.1 as).reverse ++ .ref (E.2.2.2.1 kd i) :: fm_cs E.2.2.2.1 rest := by
    simp only [fm_cs, List.map_append, List.map_reverse, List.map_cons]
    rfl
  rw [hst]
  intro T hT XS
  have hcode := hts _ O'.2.1
  obtain ⟨mk, methM, hnamed, hmethM, hstM, habM⟩ := Cond.instanceMethod_spec (hts _ hlk.2.1)
  obtain ⟨methM', cM, hmethM', -, -, -, -, -, -, hsigM⟩ := Cond.code_spec hnamed hcode
  cases hmethM.symm.trans hmethM'
  obtain ⟨c2, r2, m2, q1, q2, q3, q4, kP, hkP, hkPi⟩ := Cond.selects_spec (hts _ hlk.2.2)
  cases hclB.symm.trans q1
  cases (State.methodFound?_of_named hnamed hn.1).symm.trans q2
  cases hnamed.symm.trans q3
  have hselP : selectMethod e.platform s.vm cellB.cls mk = .method mk := by rw [Launch.admits_selectMethod XS.admits]; exact q4
  have hlen : (fm_cs E.2.2.2.1 as).length = methM.sig.parameters.length := by
    have h9 := hn.2
    rw [hsigM] at h9
    simp only [fm_cs, List.length_map]
    exact (Option.some.inj h9).symm
  obtain ⟨vm₁, X₁, hstep₁⟩ := XS.invokevirtual hx hown (hts _ hlk.1) hnamed hmethM hstM hkP hkPi hn.1 (a := E.2.2.2.1 kd i) (cell := cellB) (by rw [hT]; exact hcB)
    (fun z h => by rw [h] at hoB; cases hoB) hselP hmethM habM hkP hkPi (g := F0 m pc ls ((fm_cs E.2.2.2.1 as).reverse ++ .ref (E.2.2.2.1 kd i) :: fm_cs E.2.2.2.1 rest)) rfl (argsL := fm_cs E.2.2.2.1 as) (rest := fm_cs E.2.2.2.1 rest) hlen rfl (by rw [hb]; exact hd)
  have hroom := O'.2.2.2.2.2
  obtain ⟨q, t, T', Lc, X', hL, e1, e2, hq, hsteps⟩ := fm_xback (bytes := u'.2.1) (maxL := u'.2.2.1) (ret := u'.2.2.2.1) (g := F0 m pc ls (fm_cs E.2.2.2.1 rest)) (ig := .invokevirtual ix) (a := (Value.ref (E.2.2.2.1 kd i) :: fm_cs E.2.2.2.1 as).toArray) X₁ (K H.size) fm_pre_blind fm_thr (by simp only [fm_rm]; omega) (by simp only [fm_rm]; omega) (by simp only [fm_rm]; omega) (by simp only [fm_rm]; omega) hw List.mem_cons_self
    (fun a' U hW => word_at hW (good_of_word (List.mem_filter.mp O'.2.2.1).2) (hts _ O'.2.2.1)) rfl (hl.1.trans hml.symm) (by rw [hb]; exact hd) (lv_room (by rw [fm_wd_cat]; exact hrest)) (X₁.named hnamed) ⟨rfl, hpre (T.setVm vm₁) hT X₁.warmed⟩
  obtain ⟨t2, a2, z2⟩ := fm_xout X0 hoc hS (fm_Aw_sub hA hS.1) (g := F0 m pc ls (fm_cs E.2.2.2.1 rest)) rfl rfl rfl (st := (T.setVm vm₁).calling (F0 m pc ls (fm_cs E.2.2.2.1 rest)) mk (Value.ref (E.2.2.2.1 kd i) :: fm_cs E.2.2.2.1 as).toArray) hT X₁.warmed.alike X' hL e1 hq
  exact ⟨t2, hstep₁ _ fun acts => by rw [doInvoke_state]; exact hsteps.trans a2, z2⟩
set_option maxHeartbeats 4000000 in
/-- an invokestatic whose callee throws, in a method without handlers -/
theorem fm_xS (O : fm_mo u) (O' : fm_mok u') (hoc : u.2.2.2.2.1 ≠ 8) {pc ix : Nat} {lo : List (Nat × fm_V)} {as rest : List fm_V} {M M1 : fm_M} {cl : String} (hi : u.2.2.2.2.2.2 pc = some (.invokestatic ix)) (hlk : fm_lst u.2.2.2.2.1 ix u'.1)
    (hn : fm_np u'.1 as.length) (hrest : fm_wd rest ≤ 8) (K : fm_Cx E d u' n as M cl M1) : fm_Go E (d + 1) u n (pc, lo, as.reverse ++ rest, M) (fm_Zx E cl M1) := by
  intro p e R s m args below meth c A cells slots X hr hA h1 h2 h3 h4
  have X0 := X
  obtain ⟨hx, hb, hml, hown, hts, hK, hD, -⟩ := X
  obtain ⟨len, hd, hln⟩ := O.2 pc _ hi
  rw [hln rfl] at hd
  intro H locs ls hP hS hl hv
  have has : ∀ w ∈ as, fm_ok w := fun w hw => hv.2.1 _ (List.mem_append_left _ (List.mem_reverse.mpr hw))
  have hpre := fm_preAt X0 hA hP hS hv.2.2 has
  have hw : ∀ w ∈ fm_ws u', ∀ (a' : Array Value) (U : State), s.WarmedH U.vm → w.before a' U = true := by
    intro w hw a' U hW
    have hin : w ∈ fm_TB := by
      rcases List.mem_cons.mp hw with rfl | hw
      · exact O'.2.1
      · exact hw
    exact word_at hW (good_of_word (List.mem_filter.mp hin).2) (hts w hin)
  have hst : fm_cs E.2.2.2.1 (as.reverse ++ rest) = (fm_cs E.2.2.2.1 as).reverse ++ fm_cs E.2.2.2.1 rest := by
    simp only [fm_cs, List.map_append, List.map_reverse]
  rw [hst]
  intro T hT XS
  have hcode := hts _ O'.2.1
  obtain ⟨mk, hnamed⟩ := Cond.code_named hcode
  obtain ⟨methM, cM, hmethM, -, -, -, -, -, -, hsigM⟩ := Cond.code_spec hnamed hcode
  have hstatic : methM.isStatic = true := Cond.static_spec hnamed hmethM (hts _ hlk.2)
  obtain ⟨kP, hkP, -⟩ := className_of_methodNamed hnamed
  have hinitP : kP.init = .initialized := Cond.initialized_spec (findClass_of_methodNamed hnamed) hkP (hts _ O'.2.2.1)
  have hlen : (fm_cs E.2.2.2.1 as).length = methM.sig.parameters.length := by
    have h9 := hn.2
    rw [hsigM] at h9
    simp only [fm_cs, List.length_map]
    exact (Option.some.inj h9).symm
  obtain ⟨vm₁, X₁, hstep₁⟩ := XS.invokestatic hx hown (hts _ hlk.1) hnamed hmethM hstatic hkP hinitP hn.1 (g := F0 m pc ls ((fm_cs E.2.2.2.1 as).reverse ++ fm_cs E.2.2.2.1 rest)) rfl (argsL := fm_cs E.2.2.2.1 as) (rest := fm_cs E.2.2.2.1 rest) hlen rfl (by rw [hb]; exact hd)
  have hroom := O'.2.2.2.2.2
  obtain ⟨q, t, T', Lc, X', hL, e1, e2, hq, hsteps⟩ := fm_xback (bytes := u'.2.1) (maxL := u'.2.2.1) (ret := u'.2.2.2.1) (g := F0 m pc ls (fm_cs E.2.2.2.1 rest)) (ig := .invokestatic ix) (a := (fm_cs E.2.2.2.1 as).toArray) X₁ (K H.size) fm_pre_blind fm_thr (by simp only [fm_rm]; omega) (by simp only [fm_rm]; omega) (by simp only [fm_rm]; omega) (by simp only [fm_rm]; omega) hw List.mem_cons_self
    (fun a' U hW => word_at hW (good_of_word (List.mem_filter.mp O'.2.2.1).2) (hts _ O'.2.2.1)) rfl (hl.1.trans hml.symm) (by rw [hb]; exact hd) (lv_room (by rw [fm_wd_cat]; exact hrest)) (X₁.named hnamed) ⟨rfl, hpre (T.setVm vm₁) hT X₁.warmed⟩
  obtain ⟨t2, a2, z2⟩ := fm_xout X0 hoc hS (fm_Aw_sub hA hS.1) (g := F0 m pc ls (fm_cs E.2.2.2.1 rest)) rfl rfl rfl (st := (T.setVm vm₁).calling (F0 m pc ls (fm_cs E.2.2.2.1 rest)) mk (fm_cs E.2.2.2.1 as).toArray) hT X₁.warmed.alike X' hL e1 hq
  exact ⟨t2, hstep₁ _ fun acts => by rw [doInvoke_state]; exact hsteps.trans a2, z2⟩
end ThrowCalls
end
section
/-! A NEW EXCEPTION IS THROWN (the words by program: wip/tools/gen_throw.py) -/
def fm_nms : List String := ["java/lang/RuntimeException", "java/lang/Exception"]
def fm_bad (cl : String) : List Cond := [.laysStatic fm_tN "UNASSIGNED_STACK" fm_sD, .laysStatic fm_tN "SUPPRESSED_SENTINEL" fm_lD, .declares ⟨"java/lang/RuntimeException", "<init>", "()V"⟩, .declares ⟨"java/lang/Exception", "<init>", "()V"⟩, .declares ⟨"java/lang/Throwable", "<init>", "()V"⟩, .castable cl cl, .isRef (.static fm_tN "UNASSIGNED_STACK" fm_sD), .isRef (.static fm_tN "SUPPRESSED_SENTINEL" fm_lD)]
/-- the words of 'throw new cl()' at pool entries ik, ic of class oc -/
def fm_at (oc ik ic : Nat) (cl : String) : Prop := (∀ w ∈ (Bundle.ownAtoms0 (fm_cn oc) ic cl fm_nms).filter goodWord, w ∈ fm_TB) ∧ (Bundle.ownAtoms0 (fm_cn oc) ic cl fm_nms).filter (fun w => !goodWord w) = fm_bad cl ∧
  Cond.classLink (fm_cn oc) ik cl ∈ fm_TB ∧ Cond.instantiable cl 6 ∈ fm_TB ∧ Cond.initialized cl ∈ fm_TB ∧ Bundle.fit cl = true ∧ (cl = "java/lang/IllegalArgumentException" ∨ cl = "java/lang/IllegalStateException" ∨ cl = "java/lang/ArithmeticException" ∨ cl = "java/lang/UnsupportedOperationException")

theorem fm_atFI : fm_at 0 34 36 "java/lang/IllegalArgumentException" := ⟨fm_in _ [8, 378, 387, 392, 395, 397, 379, 380, 23, 24, 381, 386, 393, 409, 368, 410, 370, 411, 372, 382, 384, 374, 399, 400, 401, 402, 402, 403, 404, 405, 405, 406, 407, 379, 398, 357, 365, 366, 367, 369, 371, 373, 377, 376, 375] (by decide +kernel) (by decide +kernel), by decide +kernel, fm_tb (List.mem_of_getElem? (i := 356) (by decide +kernel)) rfl, fm_tb (List.mem_of_getElem? (i := 357) (by decide +kernel)) rfl, fm_tb (List.mem_of_getElem? (i := 11) (by decide +kernel)) rfl, by decide +kernel, by decide +kernel⟩
theorem fm_atFS : fm_at 0 53 55 "java/lang/IllegalStateException" := ⟨fm_in _ [8, 378, 387, 392, 395, 397, 379, 380, 23, 24, 381, 386, 393, 409, 368, 410, 370, 411, 372, 382, 384, 374, 446, 447, 448, 402, 402, 403, 404, 405, 405, 406, 407, 379, 445, 437, 439, 390, 440, 441, 442, 443, 377, 376, 444] (by decide +kernel) (by decide +kernel), by decide +kernel, fm_tb (List.mem_of_getElem? (i := 436) (by decide +kernel)) rfl, fm_tb (List.mem_of_getElem? (i := 437) (by decide +kernel)) rfl, fm_tb (List.mem_of_getElem? (i := 12) (by decide +kernel)) rfl, by decide +kernel, by decide +kernel⟩
theorem fm_atAA : fm_at 7 19 21 "java/lang/ArithmeticException" := ⟨fm_in _ [8, 378, 387, 392, 395, 397, 379, 380, 23, 24, 381, 386, 393, 409, 368, 410, 370, 411, 372, 382, 384, 374, 538, 539, 540, 402, 402, 403, 404, 405, 405, 406, 407, 379, 537, 529, 531, 389, 532, 533, 534, 535, 377, 376, 536] (by decide +kernel) (by decide +kernel), by decide +kernel, fm_tb (List.mem_of_getElem? (i := 528) (by decide +kernel)) rfl, fm_tb (List.mem_of_getElem? (i := 529) (by decide +kernel)) rfl, fm_tb (List.mem_of_getElem? (i := 15) (by decide +kernel)) rfl, by decide +kernel, by decide +kernel⟩
theorem fm_atMS : fm_at 5 64 66 "java/lang/IllegalStateException" := ⟨fm_in _ [8, 378, 387, 392, 395, 397, 379, 380, 23, 24, 381, 386, 393, 409, 368, 410, 370, 411, 372, 382, 384, 374, 446, 447, 448, 402, 402, 403, 404, 405, 405, 406, 407, 379, 581, 437, 439, 390, 440, 441, 442, 443, 377, 376, 444] (by decide +kernel) (by decide +kernel), by decide +kernel, fm_tb (List.mem_of_getElem? (i := 580) (by decide +kernel)) rfl, fm_tb (List.mem_of_getElem? (i := 437) (by decide +kernel)) rfl, fm_tb (List.mem_of_getElem? (i := 12) (by decide +kernel)) rfl, by decide +kernel, by decide +kernel⟩
theorem fm_atMU : fm_at 5 157 159 "java/lang/UnsupportedOperationException" := ⟨fm_in _ [8, 378, 387, 392, 395, 397, 379, 380, 23, 24, 381, 386, 393, 409, 368, 410, 370, 411, 372, 382, 384, 374, 592, 593, 594, 402, 402, 403, 404, 405, 405, 406, 407, 379, 591, 583, 585, 391, 586, 587, 588, 589, 377, 376, 590] (by decide +kernel) (by decide +kernel), by decide +kernel, fm_tb (List.mem_of_getElem? (i := 582) (by decide +kernel)) rfl, fm_tb (List.mem_of_getElem? (i := 583) (by decide +kernel)) rfl, fm_tb (List.mem_of_getElem? (i := 16) (by decide +kernel)) rfl, by decide +kernel, by decide +kernel⟩
/-- the state at the method's entry, with the heap as it is now -/
abbrev fm_s' (s T : State) : State := { s with heap := T.heap, slotsUsed := T.slotsUsed }
theorem fm_rebase {l : Launch} {p : Program} {e : Env} {R R' : Room} {s : State} {m : MethodId} {args : Array Value} {below : List Frame} {meth : Method} {c : Code} {T : State} {locs : List Loc} {cells slots : Nat} (X : Stand p l e R s m args below meth c T locs cells slots)
    (hf : R'.frames ≤ R.frames) (hl : R'.locals ≤ R.locals) (hc : cells + R'.cells ≤ R.cells) (hs : slots + R'.slots ≤ R.slots) : Stand p l e R' (fm_s' s T) m args below meth c T [] 0 0 := by
  have hroom := X.room
  have hbook := X.book
  have hh := X.heapSize
  have hu := X.used
  refine ⟨X.admits, X.cas, X.clock, X.frames, ?_, X.hears, X.method, X.code, X.here, X.tail, X.warmed, X.limits, X.bytes, ?_⟩
  · simp only [State.hasRoom, Bool.and_eq_true, decide_eq_true_eq] at hroom ⊢
    obtain ⟨⟨⟨⟨r1, r2, r3, r4, r5, r6⟩, r7⟩, r8⟩, r9⟩ := hroom
    have f1 : (fm_s' s T).localsInUse = s.localsInUse := rfl
    have f2 : (fm_s' s T).frames = s.frames := rfl
    have f3 : (fm_s' s T).me = s.me := rfl
    rw [f1, f2, f3]
    refine ⟨⟨⟨⟨?_, ?_, ?_, ?_, ?_, r6⟩, ?_⟩, ?_⟩, hbook⟩
    · omega
    · omega
    · omega
    · omega
    · omega
    · show T.heap.size + R'.cells ≤ _
      omega
    · show T.slotsUsed + R'.slots ≤ _
      omega
  · refine ⟨?_, Nat.le_refl _, Nat.le_refl _, ?_, ?_, fun a c hc => ⟨c, hc, rfl, rfl, fun _ _ => rfl⟩⟩
    · exact X.same.1
    · show T.slotsUsed = T.slotsUsed + _
      rw [show (T.setVm s.vm).heap.toList.drop (fm_s' s T).heap.size = [] from List.drop_eq_nil_of_le (by show T.heap.toList.length ≤ T.heap.size; simp)]
      rfl
    · rw [show (T.setVm (fm_s' s T).vm).heap.toList.drop (fm_s' s T).heap.size = [] from List.drop_eq_nil_of_le (by show T.heap.toList.length ≤ T.heap.size; simp)]
      exact Nat.le_refl _
end
section
/-! 'throw new cl()' ends the method -/
theorem fm_isref {C n d : String} {A : Nat → Prop} {U : State} {args : Array Value} (h : va_Zq C n d A U U.heap) : (Cond.isRef (.static C n d)).before args U = true := by
  have key : ∀ v : Value, va_Z C n d v A U U.heap → (Term.static C n d).eval args U none [] U = some v := by
    intro v hz
    obtain ⟨cf, kf, fi, f, a, cell, h1, h2, h3, h4, h5, h6, h7, h8⟩ := hz
    exact Term.static_eval h1 h2 h4 h5 h6 h7
  rcases h with h | ⟨t, h⟩
  · simp [Cond.before, Cond.holds, Cond.value, key _ h]
  · simp [Cond.before, Cond.holds, Cond.value, key _ h]
section ThrowW
set_option maxHeartbeats 4000000 in
/-- new, dup, <init>, athrow, from a state in which nothing has been done yet -/
theorem fm_thW {p : Program} {l : Launch} {e : Env} {R : Room} {s : State} {m : MethodId} {args : Array Value} {below : List Frame} {meth : Method} {c : Code} {cc : ByteArray} {own cl : String} {ik ic pc : Nat} {ls : Array Slot} {st : List Value} (hx : p.tables.exec = Jvm.exec) (hb : c.code = cc) (htr : l.stackTraces = false) (hlocks : meth.locks = false) (hempty : c.exceptionTable.toList = [])
    (hown : s.vm.findClass own = some m.cls) (hcl : (Cond.classLink own ik cl).before args s = true) (hins : (Cond.instantiable cl 6).before args s = true) (hini : (Cond.initialized cl).before args s = true) (hfit : Bundle.fit cl = true) (hall : ∀ a ∈ Bundle.ownAtoms0 own ic cl fm_nms, a.before args s = true)
    (d0 : decode cc pc = .ok (.new ik, 3)) (d1 : decode cc (pc + 3) = .ok (.dup, 1)) (d2 : decode cc (pc + 4) = .ok (.invokespecial ic, 3)) (d3 : decode cc (pc + 7) = .ok (.athrow, 1)) (hsl : ls.size = c.maxLocals)
    (hf : 5 < R.frames) (hlo : (st.map fun v => v.category).sum + 81 ≤ R.locals) (hc1 : 1 ≤ R.cells) (hs6 : 6 ≤ R.slots) :
    W p l e R s m args below meth c s.heap [] 0 0 (fun t => ∃ q ce, t.status = .running ∧ Ended t below (.threw q) ∧ s.WarmedH t.vm ∧ s.sameButNew ({ t with vm := s.vm } : State) [] 1 6 ∧ t.heap[q]? = some ce ∧ ce.vm = .none ∧ s.vm.findClass cl = some ce.cls) (F0 m pc ls st) := by
  refine W.newc (g := F0 m pc ls st) (C := cl) (n := 6) hx hb (own := own) hown hcl hins hini rfl d0 (by rw [Nat.zero_add]; exact hc1) (by rw [Nat.zero_add]; exact hs6) (fun cC kC f1 f2 f3 f4 => ?_)
  refine W.eq (g2 := F0 m (pc + 3) ls (.ref s.heap.size :: st)) rfl ?_
  refine lv_dup hx hb d1 rfl ?_
  intro T2 hT2 X2
  have htr' : e.platform.stackTraces = false := by rw [X2.admits.platform]; exact htr
  have hcell : T2.heap[s.heap.size]? = some (freshCell cC kC) := by
    rw [hT2]
    simp [freshCell]
  obtain ⟨U, s1, s2, s3, s4, s5, ce, s6, s7⟩ := X2.ctorThrow0 hx htr' (own := own) (cls := cl) (names := fm_nms) (ic := ic) hown hfit (by decide +kernel) hall (fun x hx => by cases hx) (a := s.heap.size) f1 f2 hcell (Nat.le_refl _) (g := F0 m (pc + 3 + 1) ls (.ref s.heap.size :: .ref s.heap.size :: st)) rfl hsl rfl rfl (rest := st) rfl (by rw [hb]; exact d2) (by rw [hb]; exact d3) (fun x hx => by rw [hempty] at hx; cases hx)
    (by show 2 + 3 < R.frames; omega) (by
      show 2 * 0 + ((Value.ref s.heap.size :: st).map fun v => v.category).sum + (13 * (2 + 1) + 41) ≤ R.locals
      rw [List.map_cons, List.sum_cons]
      show 2 * 0 + (1 + _) + (13 * (2 + 1) + 41) ≤ R.locals
      omega)
  rw [Nat.zero_add] at s5
  exact ⟨U, s1, _, ce, s2, s3, s4, s5, s6, s7.vm, s7.cls⟩
end ThrowW
section ThrowNew
variable {E : fm_Ev} {d : Nat} {u : fm_Me}
set_option maxHeartbeats 4000000 in
theorem fm_th (O : fm_mo u) (hoc : u.2.2.2.2.1 ≠ 8) {pc ik ic : Nat} {lo : List (Nat × fm_V)} {st : List fm_V} {M : fm_M} {cl : String} (hw : fm_at u.2.2.2.2.1 ik ic cl)
    (i0 : u.2.2.2.2.2.2 pc = some (.new ik)) (i1 : u.2.2.2.2.2.2 (pc + 3) = some .dup) (i2 : u.2.2.2.2.2.2 (pc + 4) = some (.invokespecial ic)) (i3 : u.2.2.2.2.2.2 (pc + 7) = some .athrow) (hst : fm_wd st ≤ 8) : fm_Go E (d + 6) u 1 (pc, lo, st, M) (fm_Zx E cl M) := by
  intro p e R s m args below meth c A cells slots X hr hA h1 h2 h3 h4
  obtain ⟨hx, hb, hml, hown, hts, hK, hD, hAs, hXs, hnw, hlocks, htr0, hh⟩ := X
  have hempty : c.exceptionTable.toList = [] := hh.resolve_left hoc
  obtain ⟨len0, d0, l0⟩ := O.2 _ _ i0
  rw [l0 rfl] at d0
  obtain ⟨len1, d1, l1⟩ := O.2 _ _ i1
  rw [l1 rfl] at d1
  obtain ⟨len2, d2, l2⟩ := O.2 _ _ i2
  rw [l2 rfl] at d2
  obtain ⟨len3, d3, l3⟩ := O.2 _ _ i3
  rw [l3 rfl] at d3
  intro H locs ls hP hS hl hv
  intro T hT XS
  have XR : Stand p E.1 e { frames := R.frames, cells := 1, slots := 6, locals := R.locals } (fm_s' s T) m args below meth c T [] 0 0 := fm_rebase XS (Nat.le_refl _) (Nat.le_refl _) (by show cells + 1 ≤ _; omega) (by show slots + 6 ≤ _; omega)
  have gw : ∀ w, goodWord w = true → w.before args s = true → w.before args (fm_s' s T) = true := by
    intro w hg hb'
    have := word_at (s := s) (U := fm_s' s T) (a' := args) (State.WarmedH.refl s) (good_of_word hg) hb'
    exact this
  have inTB : ∀ w, w ∈ fm_TB → w.before args (fm_s' s T) = true := fun w hw => gw w (List.mem_filter.mp hw).2 (hts w hw)
  have hkeep : ∀ a : Nat, a < s.heap.size → ¬ A a → T.heap[a]? = s.heap[a]? := fun a q1 q2 => by rw [hT]; exact hS.2.1 a q1 q2
  have hnw' : fm_nw A (fm_s' s T) T.heap := hnw.to (U := fm_s' s T) (State.WarmedH.refl s) hkeep (fun q h => h)
  obtain ⟨hg, hbad, hcl, hins, hini, hfit, hfour⟩ := hw
  have hall : ∀ a ∈ Bundle.ownAtoms0 (fm_cn u.2.2.2.2.1) ic cl fm_nms, a.before args (fm_s' s T) = true := by
    intro a ha
    cases hgw : goodWord a with
    | true => exact inTB a (hg a (List.mem_filter.mpr ⟨ha, hgw⟩))
    | false =>
      have hin : a ∈ fm_bad cl := by
        rw [← hbad]
        exact List.mem_filter.mpr ⟨ha, by rw [hgw]; rfl⟩
      obtain ⟨-, c1, c2, c3, c4, k1, k2, z1, z2, e1, e2, e3, -⟩ := hnw'
      simp only [fm_bad, List.mem_cons, List.not_mem_nil, or_false] at hin
      rcases hin with rfl | rfl | rfl | rfl | rfl | rfl | rfl | rfl
      · exact k1.use
      · exact k2.use
      · exact e1.use rfl
      · exact e2.use rfl
      · exact e3.use rfl
      · rcases hfour with rfl | rfl | rfl | rfl
        · exact c1.use rfl
        · exact c2.use rfl
        · exact c3.use rfl
        · exact c4.use rfl
      · exact fm_isref z1
      · exact fm_isref z2
  have hsl : ls.size = c.maxLocals := hl.1.trans hml.symm
  have Hw := fm_thW (R := { frames := R.frames, cells := 1, slots := 6, locals := R.locals }) (s := fm_s' s T) (p := p) (l := E.1) (e := e) (m := m) (args := args) (below := below) (pc := pc) (ls := ls) (st := fm_cs E.2.2.2.1 st) hx hb htr0 hlocks hempty hown (inTB _ hcl) (inTB _ hins) (inTB _ hini) hfit hall d0 d1 d2 d3 hsl (by show 5 < R.frames; omega) (by show _ + 81 ≤ R.locals; rw [fm_wd_cat]; omega) (Nat.le_refl _) (Nat.le_refl _)
  obtain ⟨t, a1, q, ce, b1, b2, b3, b4, b5, b6, b7⟩ := Hw T rfl XR
  have hsame : s.sameButNew ({ t with vm := s.vm } : State) locs (cells + 1) (slots + 6 * 1) := by
    have hmid : s.sameButNew (fm_s' s T) locs cells slots := by
      obtain ⟨y1, y2, y3, y4, y5, y6⟩ := XS.same
      refine ⟨?_, y2, y3, y4, y5, y6⟩
      have hfr : s.setFrames s.frames = s := by
        obtain ⟨t9, ht9, -⟩ := State.frames_cons XS.frames
        exact State.setFrames_self ht9
      show fm_s' s T = { s.setFrames s.frames with heap := T.heap, slotsUsed := T.slotsUsed }
      rw [hfr]
    have := hmid.trans b4
    rw [List.append_nil] at this
    exact this
  have hheap : ∀ z : Nat, z < T.heap.size → t.heap[z]? = T.heap[z]? := by
    intro z hz
    obtain ⟨y1, y2, y3, y4, y5, y6⟩ := b4
    obtain ⟨c', w1, w2, w3, w4⟩ := y6 z T.heap[z] (Array.getElem?_eq_getElem hz)
    have ec : c' = T.heap[z] := by
      rw [w2]
      have : c'.slots = T.heap[z].slots := by
        apply Array.ext_getElem?
        intro i
        exact w4 i (fun h => nomatch h)
      rw [this]
    show t.heap[z]? = _
    rw [Array.getElem?_eq_getElem hz, ← ec]
    exact w1
  have hsz : T.heap.size ≤ t.heap.size := b4.2.1
  refine ⟨t, a1, .threw q, b1, b2, ⟨q, ce, rfl, b5, b6, b7, ?_, ?_, hv.2.2⟩, locs, b3, hsame, hS.2.2⟩
  · refine hP.kept (fun k z hk => ?_)
    have hlt := (hP k z hk).lt
    rw [hheap z.1 (by rw [hT]; exact hlt), hT]
  · refine ⟨Nat.le_trans hS.1 (by rw [← hT]; exact hsz), fun z q1 q2 => ?_⟩
    rw [hheap z (by rw [hT]; exact Nat.lt_of_lt_of_le q1 hS.1), hT]
    exact hS.2.1 z q1 q2
end ThrowNew
end
