section
-- ===== PART A: goes FIRST, ahead of the names: the tables' words, and 'selects' of the private methods out of them =====
/-- a private method of a class that the tables say can be made, by its rows of tables_1 -/
def lw_okq (q : MethodName × Nat) : Prop := (q.1.cls ≠ "java/lang/invoke/MethodHandle" ∧ q.1.cls ≠ "java/lang/invoke/VarHandle") ∧ Cond.instantiable q.1.cls q.2 ∈ tables_1 ∧ Cond.privateMethod q.1 ∈ tables_1 ∧ Cond.instanceMethod q.1 ∈ tables_1
theorem lw_p0 : lw_okq (⟨"FlatModule$Checker", "subject", "()LFlatModule$Function;"⟩, 7) := ⟨⟨by decide +kernel, by decide +kernel⟩, List.mem_of_getElem? (i := 28) (by decide +kernel), List.mem_of_getElem? (i := 241) (by decide +kernel), List.mem_of_getElem? (i := 242) (by decide +kernel)⟩
theorem lw_p1 : lw_okq (⟨"FlatModule$Checker", "instruction", "(II)V"⟩, 7) := ⟨⟨by decide +kernel, by decide +kernel⟩, List.mem_of_getElem? (i := 28) (by decide +kernel), List.mem_of_getElem? (i := 249) (by decide +kernel), List.mem_of_getElem? (i := 250) (by decide +kernel)⟩
theorem lw_p2 : lw_okq (⟨"FlatModule$Checker", "isAsSaid", "(II)Z"⟩, 7) := ⟨⟨by decide +kernel, by decide +kernel⟩, List.mem_of_getElem? (i := 28) (by decide +kernel), List.mem_of_getElem? (i := 253) (by decide +kernel), List.mem_of_getElem? (i := 254) (by decide +kernel)⟩
theorem lw_p3 : lw_okq (⟨"FlatModule$Checker", "moveValues", "(II)V"⟩, 7) := ⟨⟨by decide +kernel, by decide +kernel⟩, List.mem_of_getElem? (i := 28) (by decide +kernel), List.mem_of_getElem? (i := 260) (by decide +kernel), List.mem_of_getElem? (i := 261) (by decide +kernel)⟩
theorem lw_p4 : lw_okq (⟨"FlatModule$Checker", "addRow", "(II)I"⟩, 7) := ⟨⟨by decide +kernel, by decide +kernel⟩, List.mem_of_getElem? (i := 28) (by decide +kernel), List.mem_of_getElem? (i := 264) (by decide +kernel), List.mem_of_getElem? (i := 265) (by decide +kernel)⟩
theorem lw_p5 : lw_okq (⟨"FlatModule$Checker", "isLive", "()Z"⟩, 7) := ⟨⟨by decide +kernel, by decide +kernel⟩, List.mem_of_getElem? (i := 28) (by decide +kernel), List.mem_of_getElem? (i := 268) (by decide +kernel), List.mem_of_getElem? (i := 269) (by decide +kernel)⟩
theorem lw_p6 : lw_okq (⟨"FlatModule$Checker", "put", "(I)V"⟩, 7) := ⟨⟨by decide +kernel, by decide +kernel⟩, List.mem_of_getElem? (i := 28) (by decide +kernel), List.mem_of_getElem? (i := 276) (by decide +kernel), List.mem_of_getElem? (i := 277) (by decide +kernel)⟩
theorem lw_p7 : lw_okq (⟨"FlatModule$Checker", "take", "(I)I"⟩, 7) := ⟨⟨by decide +kernel, by decide +kernel⟩, List.mem_of_getElem? (i := 28) (by decide +kernel), List.mem_of_getElem? (i := 280) (by decide +kernel), List.mem_of_getElem? (i := 281) (by decide +kernel)⟩
theorem lw_p8 : lw_okq (⟨"FlatModule$Checker", "compute", "(II)V"⟩, 7) := ⟨⟨by decide +kernel, by decide +kernel⟩, List.mem_of_getElem? (i := 28) (by decide +kernel), List.mem_of_getElem? (i := 284) (by decide +kernel), List.mem_of_getElem? (i := 285) (by decide +kernel)⟩
theorem lw_p9 : lw_okq (⟨"FlatModule$Checker", "nest", "(II)V"⟩, 7) := ⟨⟨by decide +kernel, by decide +kernel⟩, List.mem_of_getElem? (i := 28) (by decide +kernel), List.mem_of_getElem? (i := 288) (by decide +kernel), List.mem_of_getElem? (i := 289) (by decide +kernel)⟩
theorem lw_p10 : lw_okq (⟨"FlatModule$Checker", "openFrame", "(II)V"⟩, 7) := ⟨⟨by decide +kernel, by decide +kernel⟩, List.mem_of_getElem? (i := 28) (by decide +kernel), List.mem_of_getElem? (i := 292) (by decide +kernel), List.mem_of_getElem? (i := 293) (by decide +kernel)⟩
theorem lw_p11 : lw_okq (⟨"FlatModule$Checker", "turnToElse", "()V"⟩, 7) := ⟨⟨by decide +kernel, by decide +kernel⟩, List.mem_of_getElem? (i := 28) (by decide +kernel), List.mem_of_getElem? (i := 296) (by decide +kernel), List.mem_of_getElem? (i := 297) (by decide +kernel)⟩
theorem lw_p12 : lw_okq (⟨"FlatModule$Checker", "takeJustWhatIsGiven", "()V"⟩, 7) := ⟨⟨by decide +kernel, by decide +kernel⟩, List.mem_of_getElem? (i := 28) (by decide +kernel), List.mem_of_getElem? (i := 300) (by decide +kernel), List.mem_of_getElem? (i := 301) (by decide +kernel)⟩
theorem lw_p13 : lw_okq (⟨"FlatModule$Checker", "closeFrame", "()V"⟩, 7) := ⟨⟨by decide +kernel, by decide +kernel⟩, List.mem_of_getElem? (i := 28) (by decide +kernel), List.mem_of_getElem? (i := 308) (by decide +kernel), List.mem_of_getElem? (i := 309) (by decide +kernel)⟩
theorem lw_p14 : lw_okq (⟨"FlatModule$Checker", "leave", "(II)V"⟩, 7) := ⟨⟨by decide +kernel, by decide +kernel⟩, List.mem_of_getElem? (i := 28) (by decide +kernel), List.mem_of_getElem? (i := 316) (by decide +kernel), List.mem_of_getElem? (i := 317) (by decide +kernel)⟩
theorem lw_p15 : lw_okq (⟨"FlatModule$Checker", "jump", "(II)V"⟩, 7) := ⟨⟨by decide +kernel, by decide +kernel⟩, List.mem_of_getElem? (i := 28) (by decide +kernel), List.mem_of_getElem? (i := 320) (by decide +kernel), List.mem_of_getElem? (i := 321) (by decide +kernel)⟩
def lw_privs_1 : List (MethodName × Nat) := [(⟨"FlatModule$Checker", "subject", "()LFlatModule$Function;"⟩, 7), (⟨"FlatModule$Checker", "instruction", "(II)V"⟩, 7), (⟨"FlatModule$Checker", "isAsSaid", "(II)Z"⟩, 7), (⟨"FlatModule$Checker", "moveValues", "(II)V"⟩, 7), (⟨"FlatModule$Checker", "addRow", "(II)I"⟩, 7), (⟨"FlatModule$Checker", "isLive", "()Z"⟩, 7), (⟨"FlatModule$Checker", "put", "(I)V"⟩, 7), (⟨"FlatModule$Checker", "take", "(I)I"⟩, 7), (⟨"FlatModule$Checker", "compute", "(II)V"⟩, 7), (⟨"FlatModule$Checker", "nest", "(II)V"⟩, 7), (⟨"FlatModule$Checker", "openFrame", "(II)V"⟩, 7), (⟨"FlatModule$Checker", "turnToElse", "()V"⟩, 7), (⟨"FlatModule$Checker", "takeJustWhatIsGiven", "()V"⟩, 7), (⟨"FlatModule$Checker", "closeFrame", "()V"⟩, 7), (⟨"FlatModule$Checker", "leave", "(II)V"⟩, 7), (⟨"FlatModule$Checker", "jump", "(II)V"⟩, 7)]
theorem lw_r1 : ∀ q ∈ lw_privs_1, lw_okq q := List.forall_mem_cons.mpr ⟨lw_p0, List.forall_mem_cons.mpr ⟨lw_p1, List.forall_mem_cons.mpr ⟨lw_p2, List.forall_mem_cons.mpr ⟨lw_p3, List.forall_mem_cons.mpr ⟨lw_p4, List.forall_mem_cons.mpr ⟨lw_p5, List.forall_mem_cons.mpr ⟨lw_p6, List.forall_mem_cons.mpr ⟨lw_p7, List.forall_mem_cons.mpr ⟨lw_p8, List.forall_mem_cons.mpr ⟨lw_p9, List.forall_mem_cons.mpr ⟨lw_p10, List.forall_mem_cons.mpr ⟨lw_p11, List.forall_mem_cons.mpr ⟨lw_p12, List.forall_mem_cons.mpr ⟨lw_p13, List.forall_mem_cons.mpr ⟨lw_p14, List.forall_mem_cons.mpr ⟨lw_p15, fun _ h => absurd h List.not_mem_nil⟩⟩⟩⟩⟩⟩⟩⟩⟩⟩⟩⟩⟩⟩⟩⟩
theorem lw_p16 : lw_okq (⟨"FlatModule$Checker", "die", "()V"⟩, 7) := ⟨⟨by decide +kernel, by decide +kernel⟩, List.mem_of_getElem? (i := 28) (by decide +kernel), List.mem_of_getElem? (i := 328) (by decide +kernel), List.mem_of_getElem? (i := 329) (by decide +kernel)⟩
theorem lw_p17 : lw_okq (⟨"FlatModule$Checker", "callFunction", "(I)V"⟩, 7) := ⟨⟨by decide +kernel, by decide +kernel⟩, List.mem_of_getElem? (i := 28) (by decide +kernel), List.mem_of_getElem? (i := 332) (by decide +kernel), List.mem_of_getElem? (i := 333) (by decide +kernel)⟩
theorem lw_p18 : lw_okq (⟨"FlatModule$Checker", "endOfCode", "()V"⟩, 7) := ⟨⟨by decide +kernel, by decide +kernel⟩, List.mem_of_getElem? (i := 28) (by decide +kernel), List.mem_of_getElem? (i := 336) (by decide +kernel), List.mem_of_getElem? (i := 337) (by decide +kernel)⟩
theorem lw_p19 : lw_okq (⟨"FlatModule", "functionsThere", "()I"⟩, 4) := ⟨⟨by decide +kernel, by decide +kernel⟩, List.mem_of_getElem? (i := 18) (by decide +kernel), List.mem_of_getElem? (i := 344) (by decide +kernel), List.mem_of_getElem? (i := 345) (by decide +kernel)⟩
theorem lw_p20 : lw_okq (⟨"java/lang/Throwable", "fillInStackTrace", "(I)Ljava/lang/Throwable;"⟩, 6) := ⟨⟨by decide +kernel, by decide +kernel⟩, List.mem_of_getElem? (i := 396) (by decide +kernel), List.mem_of_getElem? (i := 394) (by decide +kernel), List.mem_of_getElem? (i := 395) (by decide +kernel)⟩
theorem lw_p21 : lw_okq (⟨"FlatModule", "isThere", "(I)Z"⟩, 4) := ⟨⟨by decide +kernel, by decide +kernel⟩, List.mem_of_getElem? (i := 18) (by decide +kernel), List.mem_of_getElem? (i := 433) (by decide +kernel), List.mem_of_getElem? (i := 434) (by decide +kernel)⟩
theorem lw_p22 : lw_okq (⟨"FlatModule$Machine", "enter", "(I)V"⟩, 9) := ⟨⟨by decide +kernel, by decide +kernel⟩, List.mem_of_getElem? (i := 94) (by decide +kernel), List.mem_of_getElem? (i := 476) (by decide +kernel), List.mem_of_getElem? (i := 477) (by decide +kernel)⟩
theorem lw_p23 : lw_okq (⟨"FlatModule$Machine", "leaveWhatHasEnded", "()V"⟩, 9) := ⟨⟨by decide +kernel, by decide +kernel⟩, List.mem_of_getElem? (i := 94) (by decide +kernel), List.mem_of_getElem? (i := 494) (by decide +kernel), List.mem_of_getElem? (i := 495) (by decide +kernel)⟩
theorem lw_p24 : lw_okq (⟨"FlatModule$Machine", "backToCaller", "(LFlatModule$Function;)V"⟩, 9) := ⟨⟨by decide +kernel, by decide +kernel⟩, List.mem_of_getElem? (i := 94) (by decide +kernel), List.mem_of_getElem? (i := 498) (by decide +kernel), List.mem_of_getElem? (i := 499) (by decide +kernel)⟩
theorem lw_p25 : lw_okq (⟨"FlatModule$Machine", "copy", "(II)V"⟩, 9) := ⟨⟨by decide +kernel, by decide +kernel⟩, List.mem_of_getElem? (i := 94) (by decide +kernel), List.mem_of_getElem? (i := 502) (by decide +kernel), List.mem_of_getElem? (i := 503) (by decide +kernel)⟩
theorem lw_p26 : lw_okq (⟨"FlatModule$Machine", "step", "()V"⟩, 9) := ⟨⟨by decide +kernel, by decide +kernel⟩, List.mem_of_getElem? (i := 94) (by decide +kernel), List.mem_of_getElem? (i := 506) (by decide +kernel), List.mem_of_getElem? (i := 507) (by decide +kernel)⟩
theorem lw_p27 : lw_okq (⟨"FlatModule$Machine", "moveValues", "(III)V"⟩, 9) := ⟨⟨by decide +kernel, by decide +kernel⟩, List.mem_of_getElem? (i := 94) (by decide +kernel), List.mem_of_getElem? (i := 510) (by decide +kernel), List.mem_of_getElem? (i := 511) (by decide +kernel)⟩
theorem lw_p28 : lw_okq (⟨"FlatModule$Machine", "compute", "(III)V"⟩, 9) := ⟨⟨by decide +kernel, by decide +kernel⟩, List.mem_of_getElem? (i := 94) (by decide +kernel), List.mem_of_getElem? (i := 516) (by decide +kernel), List.mem_of_getElem? (i := 517) (by decide +kernel)⟩
theorem lw_p29 : lw_okq (⟨"FlatModule$Machine", "convert", "(III)V"⟩, 9) := ⟨⟨by decide +kernel, by decide +kernel⟩, List.mem_of_getElem? (i := 94) (by decide +kernel), List.mem_of_getElem? (i := 520) (by decide +kernel), List.mem_of_getElem? (i := 521) (by decide +kernel)⟩
theorem lw_p30 : lw_okq (⟨"FlatModule$Machine", "holds", "(III)Z"⟩, 9) := ⟨⟨by decide +kernel, by decide +kernel⟩, List.mem_of_getElem? (i := 94) (by decide +kernel), List.mem_of_getElem? (i := 544) (by decide +kernel), List.mem_of_getElem? (i := 545) (by decide +kernel)⟩
theorem lw_p31 : lw_okq (⟨"FlatModule$Machine", "goOnElsewhere", "(LFlatModule$FlatCode;II)V"⟩, 9) := ⟨⟨by decide +kernel, by decide +kernel⟩, List.mem_of_getElem? (i := 94) (by decide +kernel), List.mem_of_getElem? (i := 569) (by decide +kernel), List.mem_of_getElem? (i := 570) (by decide +kernel)⟩
def lw_privs_2 : List (MethodName × Nat) := [(⟨"FlatModule$Checker", "die", "()V"⟩, 7), (⟨"FlatModule$Checker", "callFunction", "(I)V"⟩, 7), (⟨"FlatModule$Checker", "endOfCode", "()V"⟩, 7), (⟨"FlatModule", "functionsThere", "()I"⟩, 4), (⟨"java/lang/Throwable", "fillInStackTrace", "(I)Ljava/lang/Throwable;"⟩, 6), (⟨"FlatModule", "isThere", "(I)Z"⟩, 4), (⟨"FlatModule$Machine", "enter", "(I)V"⟩, 9), (⟨"FlatModule$Machine", "leaveWhatHasEnded", "()V"⟩, 9), (⟨"FlatModule$Machine", "backToCaller", "(LFlatModule$Function;)V"⟩, 9), (⟨"FlatModule$Machine", "copy", "(II)V"⟩, 9), (⟨"FlatModule$Machine", "step", "()V"⟩, 9), (⟨"FlatModule$Machine", "moveValues", "(III)V"⟩, 9), (⟨"FlatModule$Machine", "compute", "(III)V"⟩, 9), (⟨"FlatModule$Machine", "convert", "(III)V"⟩, 9), (⟨"FlatModule$Machine", "holds", "(III)Z"⟩, 9), (⟨"FlatModule$Machine", "goOnElsewhere", "(LFlatModule$FlatCode;II)V"⟩, 9)]
theorem lw_r2 : ∀ q ∈ lw_privs_2, lw_okq q := List.forall_mem_cons.mpr ⟨lw_p16, List.forall_mem_cons.mpr ⟨lw_p17, List.forall_mem_cons.mpr ⟨lw_p18, List.forall_mem_cons.mpr ⟨lw_p19, List.forall_mem_cons.mpr ⟨lw_p20, List.forall_mem_cons.mpr ⟨lw_p21, List.forall_mem_cons.mpr ⟨lw_p22, List.forall_mem_cons.mpr ⟨lw_p23, List.forall_mem_cons.mpr ⟨lw_p24, List.forall_mem_cons.mpr ⟨lw_p25, List.forall_mem_cons.mpr ⟨lw_p26, List.forall_mem_cons.mpr ⟨lw_p27, List.forall_mem_cons.mpr ⟨lw_p28, List.forall_mem_cons.mpr ⟨lw_p29, List.forall_mem_cons.mpr ⟨lw_p30, List.forall_mem_cons.mpr ⟨lw_p31, fun _ h => absurd h List.not_mem_nil⟩⟩⟩⟩⟩⟩⟩⟩⟩⟩⟩⟩⟩⟩⟩⟩
theorem lw_p32 : lw_okq (⟨"FlatModule$Machine", "jump", "(LFlatModule$FlatCode;II)V"⟩, 9) := ⟨⟨by decide +kernel, by decide +kernel⟩, List.mem_of_getElem? (i := 94) (by decide +kernel), List.mem_of_getElem? (i := 573) (by decide +kernel), List.mem_of_getElem? (i := 574) (by decide +kernel)⟩
theorem lw_p33 : lw_okq (⟨"FlatModule$Machine", "callFunction", "(II)V"⟩, 9) := ⟨⟨by decide +kernel, by decide +kernel⟩, List.mem_of_getElem? (i := 94) (by decide +kernel), List.mem_of_getElem? (i := 577) (by decide +kernel), List.mem_of_getElem? (i := 578) (by decide +kernel)⟩
theorem lw_p34 : lw_okq (⟨"FlatModule$Machine", "valueOf", "(II)D"⟩, 9) := ⟨⟨by decide +kernel, by decide +kernel⟩, List.mem_of_getElem? (i := 94) (by decide +kernel), List.mem_of_getElem? (i := 602) (by decide +kernel), List.mem_of_getElem? (i := 603) (by decide +kernel)⟩
theorem lw_p35 : lw_okq (⟨"FlatModuleModel", "bad", "(Z)Z"⟩, 33) := ⟨⟨by decide +kernel, by decide +kernel⟩, List.mem_of_getElem? (i := 617) (by decide +kernel), List.mem_of_getElem? (i := 735) (by decide +kernel), List.mem_of_getElem? (i := 736) (by decide +kernel)⟩
theorem lw_p36 : lw_okq (⟨"FlatModuleModel", "isFunction", "(I)Z"⟩, 33) := ⟨⟨by decide +kernel, by decide +kernel⟩, List.mem_of_getElem? (i := 617) (by decide +kernel), List.mem_of_getElem? (i := 743) (by decide +kernel), List.mem_of_getElem? (i := 744) (by decide +kernel)⟩
theorem lw_p37 : lw_okq (⟨"FlatModuleModel", "checkFunction", "(I)I"⟩, 33) := ⟨⟨by decide +kernel, by decide +kernel⟩, List.mem_of_getElem? (i := 617) (by decide +kernel), List.mem_of_getElem? (i := 755) (by decide +kernel), List.mem_of_getElem? (i := 756) (by decide +kernel)⟩
theorem lw_p38 : lw_okq (⟨"FlatModuleModel", "begin", "(II)V"⟩, 33) := ⟨⟨by decide +kernel, by decide +kernel⟩, List.mem_of_getElem? (i := 617) (by decide +kernel), List.mem_of_getElem? (i := 759) (by decide +kernel), List.mem_of_getElem? (i := 760) (by decide +kernel)⟩
theorem lw_p39 : lw_okq (⟨"FlatModuleModel", "checkOne", "(III)V"⟩, 33) := ⟨⟨by decide +kernel, by decide +kernel⟩, List.mem_of_getElem? (i := 617) (by decide +kernel), List.mem_of_getElem? (i := 763) (by decide +kernel), List.mem_of_getElem? (i := 764) (by decide +kernel)⟩
theorem lw_p40 : lw_okq (⟨"FlatModuleModel", "put", "(I)V"⟩, 33) := ⟨⟨by decide +kernel, by decide +kernel⟩, List.mem_of_getElem? (i := 617) (by decide +kernel), List.mem_of_getElem? (i := 767) (by decide +kernel), List.mem_of_getElem? (i := 768) (by decide +kernel)⟩
theorem lw_p41 : lw_okq (⟨"FlatModuleModel", "checkLocal", "(III)V"⟩, 33) := ⟨⟨by decide +kernel, by decide +kernel⟩, List.mem_of_getElem? (i := 617) (by decide +kernel), List.mem_of_getElem? (i := 771) (by decide +kernel), List.mem_of_getElem? (i := 772) (by decide +kernel)⟩
theorem lw_p42 : lw_okq (⟨"FlatModuleModel", "wrong", "(I)V"⟩, 33) := ⟨⟨by decide +kernel, by decide +kernel⟩, List.mem_of_getElem? (i := 617) (by decide +kernel), List.mem_of_getElem? (i := 775) (by decide +kernel), List.mem_of_getElem? (i := 776) (by decide +kernel)⟩
theorem lw_p43 : lw_okq (⟨"FlatModuleModel", "take", "(I)I"⟩, 33) := ⟨⟨by decide +kernel, by decide +kernel⟩, List.mem_of_getElem? (i := 617) (by decide +kernel), List.mem_of_getElem? (i := 779) (by decide +kernel), List.mem_of_getElem? (i := 780) (by decide +kernel)⟩
theorem lw_p44 : lw_okq (⟨"FlatModuleModel", "checkGlobal", "(II)V"⟩, 33) := ⟨⟨by decide +kernel, by decide +kernel⟩, List.mem_of_getElem? (i := 617) (by decide +kernel), List.mem_of_getElem? (i := 783) (by decide +kernel), List.mem_of_getElem? (i := 784) (by decide +kernel)⟩
theorem lw_p45 : lw_okq (⟨"FlatModuleModel", "choose", "()V"⟩, 33) := ⟨⟨by decide +kernel, by decide +kernel⟩, List.mem_of_getElem? (i := 617) (by decide +kernel), List.mem_of_getElem? (i := 787) (by decide +kernel), List.mem_of_getElem? (i := 788) (by decide +kernel)⟩
theorem lw_p46 : lw_okq (⟨"FlatModuleModel", "two", "(II)V"⟩, 33) := ⟨⟨by decide +kernel, by decide +kernel⟩, List.mem_of_getElem? (i := 617) (by decide +kernel), List.mem_of_getElem? (i := 791) (by decide +kernel), List.mem_of_getElem? (i := 792) (by decide +kernel)⟩
theorem lw_p47 : lw_okq (⟨"FlatModuleModel", "checkFrame", "(II)V"⟩, 33) := ⟨⟨by decide +kernel, by decide +kernel⟩, List.mem_of_getElem? (i := 617) (by decide +kernel), List.mem_of_getElem? (i := 795) (by decide +kernel), List.mem_of_getElem? (i := 796) (by decide +kernel)⟩
def lw_privs_3 : List (MethodName × Nat) := [(⟨"FlatModule$Machine", "jump", "(LFlatModule$FlatCode;II)V"⟩, 9), (⟨"FlatModule$Machine", "callFunction", "(II)V"⟩, 9), (⟨"FlatModule$Machine", "valueOf", "(II)D"⟩, 9), (⟨"FlatModuleModel", "bad", "(Z)Z"⟩, 33), (⟨"FlatModuleModel", "isFunction", "(I)Z"⟩, 33), (⟨"FlatModuleModel", "checkFunction", "(I)I"⟩, 33), (⟨"FlatModuleModel", "begin", "(II)V"⟩, 33), (⟨"FlatModuleModel", "checkOne", "(III)V"⟩, 33), (⟨"FlatModuleModel", "put", "(I)V"⟩, 33), (⟨"FlatModuleModel", "checkLocal", "(III)V"⟩, 33), (⟨"FlatModuleModel", "wrong", "(I)V"⟩, 33), (⟨"FlatModuleModel", "take", "(I)I"⟩, 33), (⟨"FlatModuleModel", "checkGlobal", "(II)V"⟩, 33), (⟨"FlatModuleModel", "choose", "()V"⟩, 33), (⟨"FlatModuleModel", "two", "(II)V"⟩, 33), (⟨"FlatModuleModel", "checkFrame", "(II)V"⟩, 33)]
theorem lw_r3 : ∀ q ∈ lw_privs_3, lw_okq q := List.forall_mem_cons.mpr ⟨lw_p32, List.forall_mem_cons.mpr ⟨lw_p33, List.forall_mem_cons.mpr ⟨lw_p34, List.forall_mem_cons.mpr ⟨lw_p35, List.forall_mem_cons.mpr ⟨lw_p36, List.forall_mem_cons.mpr ⟨lw_p37, List.forall_mem_cons.mpr ⟨lw_p38, List.forall_mem_cons.mpr ⟨lw_p39, List.forall_mem_cons.mpr ⟨lw_p40, List.forall_mem_cons.mpr ⟨lw_p41, List.forall_mem_cons.mpr ⟨lw_p42, List.forall_mem_cons.mpr ⟨lw_p43, List.forall_mem_cons.mpr ⟨lw_p44, List.forall_mem_cons.mpr ⟨lw_p45, List.forall_mem_cons.mpr ⟨lw_p46, List.forall_mem_cons.mpr ⟨lw_p47, fun _ h => absurd h List.not_mem_nil⟩⟩⟩⟩⟩⟩⟩⟩⟩⟩⟩⟩⟩⟩⟩⟩
theorem lw_p48 : lw_okq (⟨"FlatModuleModel", "finish", "()V"⟩, 33) := ⟨⟨by decide +kernel, by decide +kernel⟩, List.mem_of_getElem? (i := 617) (by decide +kernel), List.mem_of_getElem? (i := 799) (by decide +kernel), List.mem_of_getElem? (i := 800) (by decide +kernel)⟩
theorem lw_p49 : lw_okq (⟨"FlatModuleModel", "jump", "(IZ)V"⟩, 33) := ⟨⟨by decide +kernel, by decide +kernel⟩, List.mem_of_getElem? (i := 617) (by decide +kernel), List.mem_of_getElem? (i := 803) (by decide +kernel), List.mem_of_getElem? (i := 804) (by decide +kernel)⟩
theorem lw_p50 : lw_okq (⟨"FlatModuleModel", "die", "()V"⟩, 33) := ⟨⟨by decide +kernel, by decide +kernel⟩, List.mem_of_getElem? (i := 617) (by decide +kernel), List.mem_of_getElem? (i := 807) (by decide +kernel), List.mem_of_getElem? (i := 808) (by decide +kernel)⟩
theorem lw_p51 : lw_okq (⟨"FlatModuleModel", "checkCall", "(I)V"⟩, 33) := ⟨⟨by decide +kernel, by decide +kernel⟩, List.mem_of_getElem? (i := 617) (by decide +kernel), List.mem_of_getElem? (i := 811) (by decide +kernel), List.mem_of_getElem? (i := 812) (by decide +kernel)⟩
theorem lw_p52 : lw_okq (⟨"FlatModuleModel", "pass", "(IID)V"⟩, 33) := ⟨⟨by decide +kernel, by decide +kernel⟩, List.mem_of_getElem? (i := 617) (by decide +kernel), List.mem_of_getElem? (i := 819) (by decide +kernel), List.mem_of_getElem? (i := 820) (by decide +kernel)⟩
theorem lw_p53 : lw_okq (⟨"FlatModuleModel", "push", "(IJD)V"⟩, 33) := ⟨⟨by decide +kernel, by decide +kernel⟩, List.mem_of_getElem? (i := 617) (by decide +kernel), List.mem_of_getElem? (i := 823) (by decide +kernel), List.mem_of_getElem? (i := 824) (by decide +kernel)⟩
theorem lw_p54 : lw_okq (⟨"FlatModuleModel", "enter", "(I)V"⟩, 33) := ⟨⟨by decide +kernel, by decide +kernel⟩, List.mem_of_getElem? (i := 617) (by decide +kernel), List.mem_of_getElem? (i := 827) (by decide +kernel), List.mem_of_getElem? (i := 828) (by decide +kernel)⟩
theorem lw_p55 : lw_okq (⟨"FlatModuleModel", "go", "(I)V"⟩, 33) := ⟨⟨by decide +kernel, by decide +kernel⟩, List.mem_of_getElem? (i := 617) (by decide +kernel), List.mem_of_getElem? (i := 831) (by decide +kernel), List.mem_of_getElem? (i := 832) (by decide +kernel)⟩
theorem lw_p56 : lw_okq (⟨"FlatModuleModel", "leave", "(I)V"⟩, 33) := ⟨⟨by decide +kernel, by decide +kernel⟩, List.mem_of_getElem? (i := 617) (by decide +kernel), List.mem_of_getElem? (i := 835) (by decide +kernel), List.mem_of_getElem? (i := 836) (by decide +kernel)⟩
theorem lw_p57 : lw_okq (⟨"FlatModuleModel", "keep", "(ZI)V"⟩, 33) := ⟨⟨by decide +kernel, by decide +kernel⟩, List.mem_of_getElem? (i := 617) (by decide +kernel), List.mem_of_getElem? (i := 839) (by decide +kernel), List.mem_of_getElem? (i := 840) (by decide +kernel)⟩
theorem lw_p58 : lw_okq (⟨"FlatModuleModel", "perform", "(IIII)V"⟩, 33) := ⟨⟨by decide +kernel, by decide +kernel⟩, List.mem_of_getElem? (i := 617) (by decide +kernel), List.mem_of_getElem? (i := 843) (by decide +kernel), List.mem_of_getElem? (i := 844) (by decide +kernel)⟩
theorem lw_p59 : lw_okq (⟨"FlatModuleModel", "choice", "()V"⟩, 33) := ⟨⟨by decide +kernel, by decide +kernel⟩, List.mem_of_getElem? (i := 617) (by decide +kernel), List.mem_of_getElem? (i := 849) (by decide +kernel), List.mem_of_getElem? (i := 850) (by decide +kernel)⟩
theorem lw_p60 : lw_okq (⟨"FlatModuleModel", "convert", "(II)V"⟩, 33) := ⟨⟨by decide +kernel, by decide +kernel⟩, List.mem_of_getElem? (i := 617) (by decide +kernel), List.mem_of_getElem? (i := 853) (by decide +kernel), List.mem_of_getElem? (i := 854) (by decide +kernel)⟩
theorem lw_p61 : lw_okq (⟨"FlatModuleModel", "openFrame", "(I)V"⟩, 33) := ⟨⟨by decide +kernel, by decide +kernel⟩, List.mem_of_getElem? (i := 617) (by decide +kernel), List.mem_of_getElem? (i := 862) (by decide +kernel), List.mem_of_getElem? (i := 863) (by decide +kernel)⟩
theorem lw_p62 : lw_okq (⟨"FlatModuleModel", "endOf", "(IIZ)I"⟩, 33) := ⟨⟨by decide +kernel, by decide +kernel⟩, List.mem_of_getElem? (i := 617) (by decide +kernel), List.mem_of_getElem? (i := 866) (by decide +kernel), List.mem_of_getElem? (i := 867) (by decide +kernel)⟩
theorem lw_p63 : lw_okq (⟨"FlatModuleModel", "jumpTo", "(II)V"⟩, 33) := ⟨⟨by decide +kernel, by decide +kernel⟩, List.mem_of_getElem? (i := 617) (by decide +kernel), List.mem_of_getElem? (i := 870) (by decide +kernel), List.mem_of_getElem? (i := 871) (by decide +kernel)⟩
def lw_privs_4 : List (MethodName × Nat) := [(⟨"FlatModuleModel", "finish", "()V"⟩, 33), (⟨"FlatModuleModel", "jump", "(IZ)V"⟩, 33), (⟨"FlatModuleModel", "die", "()V"⟩, 33), (⟨"FlatModuleModel", "checkCall", "(I)V"⟩, 33), (⟨"FlatModuleModel", "pass", "(IID)V"⟩, 33), (⟨"FlatModuleModel", "push", "(IJD)V"⟩, 33), (⟨"FlatModuleModel", "enter", "(I)V"⟩, 33), (⟨"FlatModuleModel", "go", "(I)V"⟩, 33), (⟨"FlatModuleModel", "leave", "(I)V"⟩, 33), (⟨"FlatModuleModel", "keep", "(ZI)V"⟩, 33), (⟨"FlatModuleModel", "perform", "(IIII)V"⟩, 33), (⟨"FlatModuleModel", "choice", "()V"⟩, 33), (⟨"FlatModuleModel", "convert", "(II)V"⟩, 33), (⟨"FlatModuleModel", "openFrame", "(I)V"⟩, 33), (⟨"FlatModuleModel", "endOf", "(IIZ)I"⟩, 33), (⟨"FlatModuleModel", "jumpTo", "(II)V"⟩, 33)]
theorem lw_r4 : ∀ q ∈ lw_privs_4, lw_okq q := List.forall_mem_cons.mpr ⟨lw_p48, List.forall_mem_cons.mpr ⟨lw_p49, List.forall_mem_cons.mpr ⟨lw_p50, List.forall_mem_cons.mpr ⟨lw_p51, List.forall_mem_cons.mpr ⟨lw_p52, List.forall_mem_cons.mpr ⟨lw_p53, List.forall_mem_cons.mpr ⟨lw_p54, List.forall_mem_cons.mpr ⟨lw_p55, List.forall_mem_cons.mpr ⟨lw_p56, List.forall_mem_cons.mpr ⟨lw_p57, List.forall_mem_cons.mpr ⟨lw_p58, List.forall_mem_cons.mpr ⟨lw_p59, List.forall_mem_cons.mpr ⟨lw_p60, List.forall_mem_cons.mpr ⟨lw_p61, List.forall_mem_cons.mpr ⟨lw_p62, List.forall_mem_cons.mpr ⟨lw_p63, fun _ h => absurd h List.not_mem_nil⟩⟩⟩⟩⟩⟩⟩⟩⟩⟩⟩⟩⟩⟩⟩⟩
theorem lw_p64 : lw_okq (⟨"FlatModuleModel", "arithmetic", "(II)V"⟩, 33) := ⟨⟨by decide +kernel, by decide +kernel⟩, List.mem_of_getElem? (i := 617) (by decide +kernel), List.mem_of_getElem? (i := 874) (by decide +kernel), List.mem_of_getElem? (i := 875) (by decide +kernel)⟩
theorem lw_p65 : lw_okq (⟨"FlatModuleModel", "fractions", "(IIDD)V"⟩, 33) := ⟨⟨by decide +kernel, by decide +kernel⟩, List.mem_of_getElem? (i := 617) (by decide +kernel), List.mem_of_getElem? (i := 878) (by decide +kernel), List.mem_of_getElem? (i := 879) (by decide +kernel)⟩
def lw_privs_5 : List (MethodName × Nat) := [(⟨"FlatModuleModel", "arithmetic", "(II)V"⟩, 33), (⟨"FlatModuleModel", "fractions", "(IIDD)V"⟩, 33)]
theorem lw_r5 : ∀ q ∈ lw_privs_5, lw_okq q := List.forall_mem_cons.mpr ⟨lw_p64, List.forall_mem_cons.mpr ⟨lw_p65, fun _ h => absurd h List.not_mem_nil⟩⟩
def lw_privs : List (MethodName × Nat) := lw_privs_1 ++ (lw_privs_2 ++ (lw_privs_3 ++ (lw_privs_4 ++ (lw_privs_5))))
def lw_tbl : List Cond := k2_sels lw_privs ++ tables_1
theorem lw_privs_ok : ∀ q ∈ lw_privs, lw_okq q := by
  show ∀ q ∈ lw_privs_1 ++ (lw_privs_2 ++ (lw_privs_3 ++ (lw_privs_4 ++ (lw_privs_5)))), lw_okq q
  exact List.forall_mem_append.mpr ⟨lw_r1, List.forall_mem_append.mpr ⟨lw_r2, List.forall_mem_append.mpr ⟨lw_r3, List.forall_mem_append.mpr ⟨lw_r4, lw_r5⟩⟩⟩⟩
end
section
/-! PURE VALUES, PURE MEMORY: what the machine does with the fixed graph of cells, said without heap and frames -/
/-- int, long, float, double, a reference (kind, number) -/
abbrev fm_V : Type := Int32 ⊕ Int64 ⊕ UInt32 ⊕ UInt64 ⊕ (Nat × Nat)
abbrev fm_A : Type := Nat → Nat → Nat
/-- ints, longs, doubles, references: by kind, number, slot -/
abbrev fm_M : Type := (Nat → Nat → Nat → Int32) × (Nat → Nat → Nat → Int64) × (Nat → Nat → Nat → UInt64) × (Nat → Nat → Nat → Nat × Nat)
/-- pc, locals, stack, memory -/
abbrev fm_C : Type := Nat × List (Nat × fm_V) × List fm_V × fm_M
def fm_cv (ad : fm_A) : fm_V → Value
  | .inl x => .int x
  | .inr (.inl x) => .long x
  | .inr (.inr (.inl x)) => .float x
  | .inr (.inr (.inr (.inl x))) => .double x
  | .inr (.inr (.inr (.inr q))) => .ref (ad q.1 q.2)
def fm_c2 : fm_V → Bool
  | .inr (.inl _) => true
  | .inr (.inr (.inr (.inl _))) => true
  | _ => false
def fm_u {α : Type} (f : Nat → Nat → Nat → α) (k i s : Nat) (x : α) : Nat → Nat → Nat → α := fun k' i' s' => cond (Nat.beq k' k && (Nat.beq s' s && Nat.beq i' i)) x (f k' i' s')
theorem fm_u_if {α : Type} (f : Nat → Nat → Nat → α) (k i s : Nat) (x : α) (k' i' s' : Nat) : fm_u f k i s x k' i' s' = if k' = k ∧ i' = i ∧ s' = s then x else f k' i' s' := by
  unfold fm_u
  by_cases h1 : k' = k
  · by_cases h2 : i' = i
    · by_cases h3 : s' = s
      · subst h1; subst h2; subst h3
        simp
      · have e : Nat.beq s' s = false := by rw [← Bool.not_eq_true]; exact fun z => h3 (Nat.eq_of_beq_eq_true z)
        simp [e, h3]
    · have e : Nat.beq i' i = false := by rw [← Bool.not_eq_true]; exact fun z => h2 (Nat.eq_of_beq_eq_true z)
      simp [e, h2]
  · have e : Nat.beq k' k = false := by rw [← Bool.not_eq_true]; exact fun z => h1 (Nat.eq_of_beq_eq_true z)
    simp [e, h1]
def fm_lk : List (Nat × fm_V) → Nat → Option fm_V
  | [], _ => none
  | (k, v) :: r, n => cond (Nat.beq k n) (some v) (fm_lk r n)
def fm_set1 (l : List (Nat × fm_V)) (n : Nat) (v : fm_V) : List (Nat × fm_V) := (n, v) :: l.filter (fun q => !(q.1 == n) && !(q.1 + 1 == n && fm_c2 q.2))
def fm_set2 (l : List (Nat × fm_V)) (n : Nat) (v : fm_V) : List (Nat × fm_V) := (n, v) :: l.filter (fun q => !(q.1 == n) && (!(q.1 == n + 1) && !(q.1 + 1 == n && fm_c2 q.2)))
theorem fm_cat (ad : fm_A) (v : fm_V) : ((fm_cv ad v).category == 2) = fm_c2 v := by
  rcases v with x | x | x | x | x <;> rfl
theorem fm_lk_mem {l : List (Nat × fm_V)} {n : Nat} {v : fm_V} (h : fm_lk l n = some v) : (n, v) ∈ l := by
  induction l with
  | nil => simp [fm_lk] at h
  | cons q r ih =>
    obtain ⟨k, w⟩ := q
    unfold fm_lk at h
    cases hb : Nat.beq k n with
    | true =>
      rw [hb] at h
      simp only [cond_true, Option.some.injEq] at h
      rw [Nat.eq_of_beq_eq_true hb, h]
      exact List.mem_cons_self
    | false =>
      rw [hb] at h
      exact List.mem_cons_of_mem _ (ih h)
abbrev fm_cl (ad : fm_A) (l : List (Nat × fm_V)) : List (Nat × Value) := l.map (fun q => (q.1, fm_cv ad q.2))
abbrev fm_cs (ad : fm_A) (st : List fm_V) : List Value := st.map (fm_cv ad)
theorem fm_set1_cl (ad : fm_A) (l : List (Nat × fm_V)) (n : Nat) (v : fm_V) : (n, fm_cv ad v) :: (fm_cl ad l).filter (fun q => !(q.1 == n) && !(q.1 + 1 == n && q.2.category == 2)) = fm_cl ad (fm_set1 l n v) := by
  simp only [fm_set1, fm_cl, List.map_cons, List.filter_map]
  congr 2
  apply List.filter_congr
  intro q _
  simp only [Function.comp, fm_cat]
theorem fm_set2_cl (ad : fm_A) (l : List (Nat × fm_V)) (n : Nat) (v : fm_V) : (n, fm_cv ad v) :: (fm_cl ad l).filter (fun q => !(q.1 == n) && (!(q.1 == n + 1) && !(q.1 + 1 == n && q.2.category == 2))) = fm_cl ad (fm_set2 l n v) := by
  simp only [fm_set2, fm_cl, List.map_cons, List.filter_map]
  congr 2
  apply List.filter_congr
  intro q _
  simp only [Function.comp, fm_cat]
theorem fm_lk_at {ls : Array Slot} {nL : Nat} {ad : fm_A} {l : List (Nat × fm_V)} {n : Nat} {v : fm_V} (h : lv_has ls nL (fm_cl ad l)) (hk : fm_lk l n = some v) : ls[n]? = some (.val (fm_cv ad v)) :=
  h.2.2 (n, fm_cv ad v) (List.mem_map.mpr ⟨(n, v), fm_lk_mem hk, rfl⟩)
/-- how many bytes an instruction has (a switch apart) -/
def fm_ln : Instr → Nat
  | .iload _ | .lload _ | .fload _ | .dload _ | .aload _ | .istore _ | .lstore _ | .fstore _ | .dstore _ | .astore _ | .ldc _ | .bipush _ | .newarray _ => 2
  | .sipush _ | .ldc2_w _ | .goto _ | .ifCond _ _ | .if_icmp _ _ | .iinc _ _ | .getfield _ | .putfield _ | .invokevirtual _ | .invokespecial _ | .invokestatic _ | .new _ | .anewarray _ => 3
  | _ => 1
end
section
/-! TABLES, by program (wip/tools/gen_tables.py): classes, fields, kinds of cells, links, constants -/
def fm_TB : List Cond := lw_tbl.filter goodWord
theorem fm_tb {w : Cond} (h : w ∈ tables_1) (hg : goodWord w = true) : w ∈ fm_TB := List.mem_filter.mpr ⟨List.mem_append_right _ h, hg⟩
theorem fm_in (ws : List Cond) (ps : List Nat) (h : ws = ps.filterMap (fun i => tables_1[i]?)) (hg : ws.all goodWord = true) : ∀ w ∈ ws, w ∈ fm_TB := by
  intro w hw
  have h1 := List.all_eq_true.mp hg w hw
  rw [h] at hw
  obtain ⟨i, -, hi⟩ := List.mem_filterMap.mp hw
  exact fm_tb (List.mem_of_getElem? hi) h1
def fm_cn (oc : Nat) : String := ["FlatModule", "FlatModule$Checker", "FlatModule$FlatCode", "FlatModule$Frame", "FlatModule$Function", "FlatModule$Machine", "FlatModuleModel", "FlatModule$Arithmetic", "FlatModuleLaw", "java/lang/Math"].getD oc ""
def fm_T0 : u_T := fun k => match k with
  | 0 => ("FlatModule", "functions", "[LFlatModule$Function;", true)
  | 1 => ("FlatModule", "checker", "LFlatModule$Checker;", true)
  | 2 => ("FlatModule", "machine", "LFlatModule$Machine;", true)
  | _ => ("FlatModule", "checked", "Z", false)
def fm_y0 : Nat → FieldType := fun k => match k with
  | 0 => (.array (.object "FlatModule$Function"))
  | 1 => (.object "FlatModule$Checker")
  | 2 => (.object "FlatModule$Machine")
  | _ => .boolean
theorem fm_in0 : ∀ w ∈ u_ws "FlatModule" fm_T0 4, w ∈ fm_TB := fm_in _ [223, 225, 227, 229] (by decide +kernel) (by decide +kernel)
theorem fm_ty0 : ∀ k, k < 4 → parseFieldDescriptor (fm_T0 k).2.2.1 = some (fm_y0 k) := by decide +kernel
theorem fm_nm0 : ∀ a, a < 4 → ∀ b, b < 4 → a ≠ b → (fm_T0 a).2.1 ≠ (fm_T0 b).2.1 := by decide +kernel
def fm_T1 : u_T := fun k => match k with
  | 0 => ("FlatModule$Checker", "functions", "[LFlatModule$Function;", false)
  | 1 => ("FlatModule$Checker", "current", "I", false)
  | 2 => ("FlatModule$Checker", "fault", "I", false)
  | 3 => ("FlatModule$Checker", "types", "[I", true)
  | 4 => ("FlatModule$Checker", "height", "I", false)
  | 5 => ("FlatModule$Checker", "frames", "[LFlatModule$Frame;", true)
  | _ => ("FlatModule$Checker", "open", "I", false)
def fm_y1 : Nat → FieldType := fun k => match k with
  | 0 => (.array (.object "FlatModule$Function"))
  | 1 => .int
  | 2 => .int
  | 3 => (.array .int)
  | 4 => .int
  | 5 => (.array (.object "FlatModule$Frame"))
  | _ => .int
theorem fm_in1 : ∀ w ∈ u_ws "FlatModule$Checker" fm_T1 7, w ∈ fm_TB := fm_in _ [78, 80, 82, 84, 86, 88, 90] (by decide +kernel) (by decide +kernel)
theorem fm_ty1 : ∀ k, k < 7 → parseFieldDescriptor (fm_T1 k).2.2.1 = some (fm_y1 k) := by decide +kernel
theorem fm_nm1 : ∀ a, a < 7 → ∀ b, b < 7 → a ≠ b → (fm_T1 a).2.1 ≠ (fm_T1 b).2.1 := by decide +kernel
def fm_T2 : u_T := fun k => match k with
  | 0 => ("FlatModule$FlatCode", "length", "I", false)
  | 1 => ("FlatModule$FlatCode", "ops", "[I", true)
  | 2 => ("FlatModule$FlatCode", "numbers", "[I", true)
  | 3 => ("FlatModule$FlatCode", "registers", "[I", true)
  | 4 => ("FlatModule$FlatCode", "homes", "[I", true)
  | 5 => ("FlatModule$FlatCode", "targets", "[I", true)
  | _ => ("FlatModule$FlatCode", "awaited", "[I", true)
def fm_y2 : Nat → FieldType := fun k => match k with
  | 0 => .int
  | 1 => (.array .int)
  | 2 => (.array .int)
  | 3 => (.array .int)
  | 4 => (.array .int)
  | 5 => (.array .int)
  | _ => (.array .int)
theorem fm_in2 : ∀ w ∈ u_ws "FlatModule$FlatCode" fm_T2 7, w ∈ fm_TB := fm_in _ [160, 162, 164, 166, 168, 170, 172] (by decide +kernel) (by decide +kernel)
theorem fm_ty2 : ∀ k, k < 7 → parseFieldDescriptor (fm_T2 k).2.2.1 = some (fm_y2 k) := by decide +kernel
theorem fm_nm2 : ∀ a, a < 7 → ∀ b, b < 7 → a ≠ b → (fm_T2 a).2.1 ≠ (fm_T2 b).2.1 := by decide +kernel
def fm_T3 : u_T := fun k => match k with
  | 0 => ("FlatModule$Frame", "kind", "I", false)
  | 1 => ("FlatModule$Frame", "gives", "I", false)
  | 2 => ("FlatModule$Frame", "base", "I", false)
  | 3 => ("FlatModule$Frame", "start", "I", false)
  | 4 => ("FlatModule$Frame", "branch", "I", false)
  | 5 => ("FlatModule$Frame", "openedInLiveCode", "Z", false)
  | _ => ("FlatModule$Frame", "dead", "Z", false)
def fm_y3 : Nat → FieldType := fun k => match k with
  | 0 => .int
  | 1 => .int
  | 2 => .int
  | 3 => .int
  | 4 => .int
  | 5 => .boolean
  | _ => .boolean
theorem fm_in3 : ∀ w ∈ u_ws "FlatModule$Frame" fm_T3 7, w ∈ fm_TB := fm_in _ [55, 57, 59, 61, 63, 65, 67] (by decide +kernel) (by decide +kernel)
theorem fm_ty3 : ∀ k, k < 7 → parseFieldDescriptor (fm_T3 k).2.2.1 = some (fm_y3 k) := by decide +kernel
theorem fm_nm3 : ∀ a, a < 7 → ∀ b, b < 7 → a ≠ b → (fm_T3 a).2.1 ≠ (fm_T3 b).2.1 := by decide +kernel
def fm_T4 : u_T := fun k => match k with
  | 0 => ("FlatModule$Function", "there", "Z", false)
  | 1 => ("FlatModule$Function", "parameters", "I", false)
  | 2 => ("FlatModule$Function", "locals", "I", false)
  | 3 => ("FlatModule$Function", "result", "I", false)
  | 4 => ("FlatModule$Function", "length", "I", false)
  | 5 => ("FlatModule$Function", "types", "[I", true)
  | 6 => ("FlatModule$Function", "ops", "[I", true)
  | 7 => ("FlatModule$Function", "numbers", "[I", true)
  | _ => ("FlatModule$Function", "flat", "LFlatModule$FlatCode;", true)
def fm_y4 : Nat → FieldType := fun k => match k with
  | 0 => .boolean
  | 1 => .int
  | 2 => .int
  | 3 => .int
  | 4 => .int
  | 5 => (.array .int)
  | 6 => (.array .int)
  | 7 => (.array .int)
  | _ => (.object "FlatModule$FlatCode")
theorem fm_in4 : ∀ w ∈ u_ws "FlatModule$Function" fm_T4 9, w ∈ fm_TB := fm_in _ [200, 202, 204, 206, 208, 210, 212, 214, 216] (by decide +kernel) (by decide +kernel)
theorem fm_ty4 : ∀ k, k < 9 → parseFieldDescriptor (fm_T4 k).2.2.1 = some (fm_y4 k) := by decide +kernel
theorem fm_nm4 : ∀ a, a < 9 → ∀ b, b < 9 → a ≠ b → (fm_T4 a).2.1 ≠ (fm_T4 b).2.1 := by decide +kernel
def fm_T5 : u_T := fun k => match k with
  | 0 => ("FlatModule$Machine", "used", "I", false)
  | 1 => ("FlatModule$Machine", "deepest", "I", false)
  | 2 => ("FlatModule$Machine", "functions", "[LFlatModule$Function;", false)
  | 3 => ("FlatModule$Machine", "wholes", "[J", true)
  | 4 => ("FlatModule$Machine", "fractions", "[D", true)
  | 5 => ("FlatModule$Machine", "depth", "I", false)
  | 6 => ("FlatModule$Machine", "base", "I", false)
  | 7 => ("FlatModule$Machine", "called", "[I", true)
  | _ => ("FlatModule$Machine", "nextRows", "[I", true)
def fm_y5 : Nat → FieldType := fun k => match k with
  | 0 => .int
  | 1 => .int
  | 2 => (.array (.object "FlatModule$Function"))
  | 3 => (.array .long)
  | 4 => (.array .double)
  | 5 => .int
  | 6 => .int
  | 7 => (.array .int)
  | _ => (.array .int)
theorem fm_in5 : ∀ w ∈ u_ws "FlatModule$Machine" fm_T5 9, w ∈ fm_TB := fm_in _ [111, 113, 115, 117, 119, 121, 123, 125, 127] (by decide +kernel) (by decide +kernel)
theorem fm_ty5 : ∀ k, k < 9 → parseFieldDescriptor (fm_T5 k).2.2.1 = some (fm_y5 k) := by decide +kernel
theorem fm_nm5 : ∀ a, a < 9 → ∀ b, b < 9 → a ≠ b → (fm_T5 a).2.1 ≠ (fm_T5 b).2.1 := by decide +kernel
def fm_T6 : u_T := fun k => match k with
  | 0 => ("FlatModuleModel", "op", "[I", true)
  | 1 => ("FlatModuleModel", "number", "[I", true)
  | 2 => ("FlatModuleModel", "size", "[I", true)
  | 3 => ("FlatModuleModel", "parameters", "[I", true)
  | 4 => ("FlatModuleModel", "locals", "[I", true)
  | 5 => ("FlatModuleModel", "type", "[I", true)
  | 6 => ("FlatModuleModel", "result", "[I", true)
  | 7 => ("FlatModuleModel", "there", "[Z", true)
  | 8 => ("FlatModuleModel", "globalLong", "[J", true)
  | 9 => ("FlatModuleModel", "globalDouble", "[D", true)
  | 10 => ("FlatModuleModel", "stack", "[I", true)
  | 11 => ("FlatModuleModel", "base", "[I", true)
  | 12 => ("FlatModuleModel", "gives", "[I", true)
  | 13 => ("FlatModuleModel", "opened", "[I", true)
  | 14 => ("FlatModuleModel", "dead", "[Z", true)
  | 15 => ("FlatModuleModel", "height", "I", false)
  | 16 => ("FlatModuleModel", "frames", "I", false)
  | 17 => ("FlatModuleModel", "fault", "I", false)
  | 18 => ("FlatModuleModel", "thrown", "I", false)
  | 19 => ("FlatModuleModel", "checked", "Z", false)
  | 20 => ("FlatModuleModel", "whole", "[J", true)
  | 21 => ("FlatModuleModel", "fraction", "[D", true)
  | 22 => ("FlatModuleModel", "function", "[I", true)
  | 23 => ("FlatModuleModel", "place", "[I", true)
  | 24 => ("FlatModuleModel", "bottom", "[I", true)
  | 25 => ("FlatModuleModel", "openAt", "[I", true)
  | 26 => ("FlatModuleModel", "openHeight", "[I", true)
  | 27 => ("FlatModuleModel", "openBase", "[I", true)
  | 28 => ("FlatModuleModel", "top", "I", false)
  | 29 => ("FlatModuleModel", "calls", "I", false)
  | 30 => ("FlatModuleModel", "open", "I", false)
  | 31 => ("FlatModuleModel", "used", "I", false)
  | _ => ("FlatModuleModel", "deepest", "I", false)
def fm_y6 : Nat → FieldType := fun k => match k with
  | 0 => (.array .int)
  | 1 => (.array .int)
  | 2 => (.array .int)
  | 3 => (.array .int)
  | 4 => (.array .int)
  | 5 => (.array .int)
  | 6 => (.array .int)
  | 7 => (.array .boolean)
  | 8 => (.array .long)
  | 9 => (.array .double)
  | 10 => (.array .int)
  | 11 => (.array .int)
  | 12 => (.array .int)
  | 13 => (.array .int)
  | 14 => (.array .boolean)
  | 15 => .int
  | 16 => .int
  | 17 => .int
  | 18 => .int
  | 19 => .boolean
  | 20 => (.array .long)
  | 21 => (.array .double)
  | 22 => (.array .int)
  | 23 => (.array .int)
  | 24 => (.array .int)
  | 25 => (.array .int)
  | 26 => (.array .int)
  | 27 => (.array .int)
  | 28 => .int
  | 29 => .int
  | 30 => .int
  | 31 => .int
  | _ => .int
theorem fm_in6 : ∀ w ∈ u_ws "FlatModuleModel" fm_T6 33, w ∈ fm_TB := fm_in _ [655, 657, 659, 661, 663, 665, 667, 669, 671, 673, 675, 677, 679, 681, 683, 685, 687, 689, 691, 693, 695, 697, 699, 701, 703, 705, 707, 709, 711, 713, 715, 717, 719] (by decide +kernel) (by decide +kernel)
theorem fm_ty6 : ∀ k, k < 33 → parseFieldDescriptor (fm_T6 k).2.2.1 = some (fm_y6 k) := by decide +kernel
theorem fm_nm6 : ∀ a, a < 33 → ∀ b, b < 33 → a ≠ b → (fm_T6 a).2.1 ≠ (fm_T6 b).2.1 := by decide +kernel
abbrev fm_cls : List vw_C := [("FlatModule", fm_T0, 4), ("FlatModule$Checker", fm_T1, 7), ("FlatModule$FlatCode", fm_T2, 7), ("FlatModule$Frame", fm_T3, 7), ("FlatModule$Function", fm_T4, 9), ("FlatModule$Machine", fm_T5, 9), ("FlatModuleModel", fm_T6, 33)]
def fm_nf (ci : Nat) : Nat := [4, 7, 7, 7, 9, 9, 33].getD ci 0
/-- 0 int, 1 boolean, 2 reference -/
def fm_ft (ci s : Nat) : Nat := ([[2, 2, 2, 1], [2, 0, 0, 2, 0, 2, 0], [0, 2, 2, 2, 2, 2, 2], [0, 0, 0, 0, 0, 1, 1], [1, 0, 0, 0, 0, 2, 2, 2, 2], [0, 0, 2, 2, 2, 0, 0, 2, 2], [2, 2, 2, 2, 2, 2, 2, 2, 2, 2, 2, 2, 2, 2, 2, 0, 0, 0, 0, 1, 2, 2, 2, 2, 2, 2, 2, 2, 0, 0, 0, 0, 0]].getD ci []).getD s 0
def fm_fin (ci s : Nat) : Bool := ([[true, true, true, false], [false, false, false, true, false, true, false], [false, true, true, true, true, true, true], [false, false, false, false, false, false, false], [false, false, false, false, false, true, true, true, true], [false, false, false, true, true, false, false, true, true], [true, true, true, true, true, true, true, true, true, true, true, true, true, true, true, false, false, false, false, false, true, true, true, true, true, true, true, true, false, false, false, false, false]].getD ci []).getD s true
/-- the class of a kind of objects -/
def fm_kc (k : Nat) : Option Nat := cond (Nat.blt k 13) (cond (Nat.blt k 2) (cond (Nat.beq k 0) (some 0) (none)) (cond (Nat.blt k 6) (cond (Nat.beq k 2) (some 4) (none)) (cond (Nat.beq k 6) (some 2) (none)))) (cond (Nat.blt k 18) (cond (Nat.blt k 17) (cond (Nat.beq k 13) (some 1) (none)) (cond (Nat.beq k 17) (some 3) (none))) (cond (Nat.blt k 24) (cond (Nat.beq k 18) (some 5) (none)) (cond (Nat.beq k 24) (some 6) (none))))
/-- what a kind of arrays holds (0 int, 1 long, 2 double, 3 boolean, 4 Function, 5 Frame), and how long they are -/
def fm_ka (k : Nat) : Option (Nat × Nat) := cond (Nat.blt k 28) (cond (Nat.blt k 14) (cond (Nat.blt k 8) (cond (Nat.blt k 4) (cond (Nat.blt k 3) (cond (Nat.beq k 1) (some (4, 4)) (none)) (cond (Nat.beq k 3) (some (0, 6)) (none))) (cond (Nat.blt k 5) (cond (Nat.beq k 4) (some (0, 40)) (none)) (cond (Nat.blt k 7) (cond (Nat.beq k 5) (some (0, 40)) (none)) (cond (Nat.beq k 7) (some (0, 40)) (none))))) (cond (Nat.blt k 10) (cond (Nat.blt k 9) (cond (Nat.beq k 8) (some (0, 40)) (none)) (cond (Nat.beq k 9) (some (0, 40)) (none))) (cond (Nat.blt k 11) (cond (Nat.beq k 10) (some (0, 40)) (none)) (cond (Nat.blt k 12) (cond (Nat.beq k 11) (some (0, 40)) (none)) (cond (Nat.beq k 12) (some (0, 40)) (none)))))) (cond (Nat.blt k 21) (cond (Nat.blt k 16) (cond (Nat.blt k 15) (cond (Nat.beq k 14) (some (4, 0)) (none)) (cond (Nat.beq k 15) (some (0, 20)) (none))) (cond (Nat.blt k 19) (cond (Nat.beq k 16) (some (5, 9)) (none)) (cond (Nat.blt k 20) (cond (Nat.beq k 19) (some (4, 0)) (none)) (cond (Nat.beq k 20) (some (1, 212)) (none))))) (cond (Nat.blt k 25) (cond (Nat.blt k 22) (cond (Nat.beq k 21) (some (2, 212)) (none)) (cond (Nat.blt k 23) (cond (Nat.beq k 22) (some (0, 8)) (none)) (cond (Nat.beq k 23) (some (0, 8)) (none)))) (cond (Nat.blt k 26) (cond (Nat.beq k 25) (some (0, 160)) (none)) (cond (Nat.blt k 27) (cond (Nat.beq k 26) (some (0, 160)) (none)) (cond (Nat.beq k 27) (some (0, 4)) (none))))))) (cond (Nat.blt k 39) (cond (Nat.blt k 33) (cond (Nat.blt k 30) (cond (Nat.blt k 29) (cond (Nat.beq k 28) (some (0, 4)) (none)) (cond (Nat.beq k 29) (some (0, 4)) (none))) (cond (Nat.blt k 31) (cond (Nat.beq k 30) (some (0, 24)) (none)) (cond (Nat.blt k 32) (cond (Nat.beq k 31) (some (0, 4)) (none)) (cond (Nat.beq k 32) (some (3, 4)) (none))))) (cond (Nat.blt k 36) (cond (Nat.blt k 34) (cond (Nat.beq k 33) (some (1, 4)) (none)) (cond (Nat.blt k 35) (cond (Nat.beq k 34) (some (2, 4)) (none)) (cond (Nat.beq k 35) (some (0, 24)) (none)))) (cond (Nat.blt k 37) (cond (Nat.beq k 36) (some (0, 12)) (none)) (cond (Nat.blt k 38) (cond (Nat.beq k 37) (some (0, 12)) (none)) (cond (Nat.beq k 38) (some (0, 12)) (none)))))) (cond (Nat.blt k 44) (cond (Nat.blt k 41) (cond (Nat.blt k 40) (cond (Nat.beq k 39) (some (3, 12)) (none)) (cond (Nat.beq k 40) (some (1, 260)) (none))) (cond (Nat.blt k 42) (cond (Nat.beq k 41) (some (2, 260)) (none)) (cond (Nat.blt k 43) (cond (Nat.beq k 42) (some (0, 10)) (none)) (cond (Nat.beq k 43) (some (0, 10)) (none))))) (cond (Nat.blt k 47) (cond (Nat.blt k 45) (cond (Nat.beq k 44) (some (0, 10)) (none)) (cond (Nat.blt k 46) (cond (Nat.beq k 45) (some (0, 90)) (none)) (cond (Nat.beq k 46) (some (0, 90)) (none)))) (cond (Nat.blt k 48) (cond (Nat.beq k 47) (some (0, 10)) (none)) (cond (Nat.blt k 49) (cond (Nat.beq k 48) (some (1, 1)) (none)) (cond (Nat.beq k 49) (some (2, 1)) (none)))))))
def fm_cnt (k : Nat) : Nat := [1, 1, 4, 4, 4, 4, 4, 4, 4, 4, 4, 4, 4, 1, 1, 1, 1, 9, 1, 1, 1, 1, 1, 1, 1, 1, 1, 1, 1, 1, 1, 1, 1, 1, 1, 1, 1, 1, 1, 1, 1, 1, 1, 1, 1, 1, 1, 1, 1, 1, 1].getD k 0
def fm_ki : List (Nat × Nat) := [(0, 0), (1, 0), (2, 0), (2, 1), (2, 2), (2, 3), (3, 0), (3, 1), (3, 2), (3, 3), (4, 0), (4, 1), (4, 2), (4, 3), (5, 0), (5, 1), (5, 2), (5, 3), (6, 0), (6, 1), (6, 2), (6, 3), (7, 0), (7, 1), (7, 2), (7, 3), (8, 0), (8, 1), (8, 2), (8, 3), (9, 0), (9, 1), (9, 2), (9, 3), (10, 0), (10, 1), (10, 2), (10, 3), (11, 0), (11, 1), (11, 2), (11, 3), (12, 0), (12, 1), (12, 2), (12, 3), (13, 0), (14, 0), (15, 0), (16, 0), (17, 0), (17, 1), (17, 2), (17, 3), (17, 4), (17, 5), (17, 6), (17, 7), (17, 8), (18, 0), (19, 0), (20, 0), (21, 0), (22, 0), (23, 0), (24, 0), (25, 0), (26, 0), (27, 0), (28, 0), (29, 0), (30, 0), (31, 0), (32, 0), (33, 0), (34, 0), (35, 0), (36, 0), (37, 0), (38, 0), (39, 0), (40, 0), (41, 0), (42, 0), (43, 0), (44, 0), (45, 0), (46, 0), (47, 0), (48, 0), (49, 0)]
def fm_fl0 (k : Nat) : Option (Nat × Nat) := cond (Nat.blt k 49) (cond (Nat.blt k 25) (cond (Nat.blt k 18) (cond (Nat.beq k 11) (some (0, 0)) (none)) (cond (Nat.beq k 18) (some (0, 1)) (none))) (cond (Nat.blt k 41) (cond (Nat.beq k 25) (some (0, 2)) (none)) (cond (Nat.beq k 41) (some (0, 3)) (none)))) (cond (Nat.blt k 91) (cond (Nat.blt k 60) (cond (Nat.beq k 49) (some (4, 4)) (none)) (cond (Nat.beq k 60) (some (4, 0)) (none))) (cond (Nat.blt k 94) (cond (Nat.beq k 91) (some (5, 0)) (none)) (cond (Nat.beq k 94) (some (5, 1)) (none))))
def fm_fll0 : List (Nat × Nat × Nat) := [(11, 0, 0), (18, 0, 1), (25, 0, 2), (41, 0, 3), (49, 4, 4), (60, 4, 0), (91, 5, 0), (94, 5, 1)]
theorem fm_flw0 : ∀ w ∈ fm_fll0.map (fun q => Cond.fieldLink "FlatModule" q.1 (fm_cls.getD q.2.1 ("", fm_T0, 0)).1 ((fm_cls.getD q.2.1 ("", fm_T0, 0)).2.1 q.2.2).2.1 ((fm_cls.getD q.2.1 ("", fm_T0, 0)).2.1 q.2.2).2.2.1), w ∈ fm_TB := fm_in _ [219, 220, 221, 222, 189, 176, 101, 103] (by decide +kernel) (by decide +kernel)
def fm_fl1 (k : Nat) : Option (Nat × Nat) := cond (Nat.blt k 90) (cond (Nat.blt k 38) (cond (Nat.blt k 28) (cond (Nat.blt k 17) (cond (Nat.beq k 11) (some (1, 0)) (none)) (cond (Nat.blt k 23) (cond (Nat.beq k 17) (some (1, 3)) (none)) (cond (Nat.beq k 23) (some (1, 5)) (none)))) (cond (Nat.blt k 32) (cond (Nat.beq k 28) (some (1, 1)) (none)) (cond (Nat.blt k 35) (cond (Nat.beq k 32) (some (1, 2)) (none)) (cond (Nat.beq k 35) (some (1, 4)) (none))))) (cond (Nat.blt k 54) (cond (Nat.blt k 45) (cond (Nat.beq k 38) (some (1, 6)) (none)) (cond (Nat.blt k 49) (cond (Nat.beq k 45) (some (4, 8)) (none)) (cond (Nat.beq k 49) (some (2, 0)) (none)))) (cond (Nat.blt k 61) (cond (Nat.blt k 60) (cond (Nat.beq k 54) (some (4, 3)) (none)) (cond (Nat.beq k 60) (some (4, 4)) (none))) (cond (Nat.blt k 64) (cond (Nat.beq k 61) (some (4, 6)) (none)) (cond (Nat.beq k 64) (some (4, 7)) (none)))))) (cond (Nat.blt k 144) (cond (Nat.blt k 116) (cond (Nat.blt k 96) (cond (Nat.beq k 90) (some (4, 2)) (none)) (cond (Nat.blt k 104) (cond (Nat.beq k 96) (some (4, 0)) (none)) (cond (Nat.beq k 104) (some (4, 5)) (none)))) (cond (Nat.blt k 135) (cond (Nat.blt k 129) (cond (Nat.beq k 116) (some (3, 4)) (none)) (cond (Nat.beq k 129) (some (3, 0)) (none))) (cond (Nat.blt k 141) (cond (Nat.beq k 135) (some (2, 6)) (none)) (cond (Nat.beq k 141) (some (3, 6)) (none))))) (cond (Nat.blt k 169) (cond (Nat.blt k 150) (cond (Nat.beq k 144) (some (3, 1)) (none)) (cond (Nat.blt k 166) (cond (Nat.beq k 150) (some (3, 2)) (none)) (cond (Nat.beq k 166) (some (2, 4)) (none)))) (cond (Nat.blt k 175) (cond (Nat.blt k 172) (cond (Nat.beq k 169) (some (2, 5)) (none)) (cond (Nat.beq k 172) (some (3, 3)) (none))) (cond (Nat.blt k 178) (cond (Nat.beq k 175) (some (4, 1)) (none)) (cond (Nat.beq k 178) (some (3, 5)) (none))))))
def fm_fll1 : List (Nat × Nat × Nat) := [(11, 1, 0), (17, 1, 3), (23, 1, 5), (28, 1, 1), (32, 1, 2), (35, 1, 4), (38, 1, 6), (45, 4, 8), (49, 2, 0), (54, 4, 3), (60, 4, 4), (61, 4, 6), (64, 4, 7), (90, 4, 2), (96, 4, 0), (104, 4, 5), (116, 3, 4), (129, 3, 0), (135, 2, 6), (141, 3, 6), (144, 3, 1), (150, 3, 2), (166, 2, 4), (169, 2, 5), (172, 3, 3), (175, 4, 1), (178, 3, 5)]
theorem fm_flw1 : ∀ w ∈ fm_fll1.map (fun q => Cond.fieldLink "FlatModule$Checker" q.1 (fm_cls.getD q.2.1 ("", fm_T0, 0)).1 ((fm_cls.getD q.2.1 ("", fm_T0, 0)).2.1 q.2.2).2.1 ((fm_cls.getD q.2.1 ("", fm_T0, 0)).2.1 q.2.2).2.2.1), w ∈ fm_TB := fm_in _ [71, 74, 76, 72, 73, 75, 77, 198, 144, 185, 188, 194, 196, 183, 177, 192, 50, 42, 159, 54, 44, 46, 153, 156, 48, 180, 52] (by decide +kernel) (by decide +kernel)
def fm_fl2 (k : Nat) : Option (Nat × Nat) := cond (Nat.blt k 21) (cond (Nat.blt k 15) (cond (Nat.beq k 9) (some (2, 1)) (none)) (cond (Nat.blt k 18) (cond (Nat.beq k 15) (some (2, 2)) (none)) (cond (Nat.beq k 18) (some (2, 3)) (none)))) (cond (Nat.blt k 27) (cond (Nat.blt k 24) (cond (Nat.beq k 21) (some (2, 4)) (none)) (cond (Nat.beq k 24) (some (2, 5)) (none))) (cond (Nat.blt k 30) (cond (Nat.beq k 27) (some (2, 6)) (none)) (cond (Nat.beq k 30) (some (2, 0)) (none))))
def fm_fll2 : List (Nat × Nat × Nat) := [(9, 2, 1), (15, 2, 2), (18, 2, 3), (21, 2, 4), (24, 2, 5), (27, 2, 6), (30, 2, 0)]
theorem fm_flw2 : ∀ w ∈ fm_fll2.map (fun q => Cond.fieldLink "FlatModule$FlatCode" q.1 (fm_cls.getD q.2.1 ("", fm_T0, 0)).1 ((fm_cls.getD q.2.1 ("", fm_T0, 0)).2.1 q.2.2).2.1 ((fm_cls.getD q.2.1 ("", fm_T0, 0)).2.1 q.2.2).2.2.1), w ∈ fm_TB := fm_in _ [146, 148, 150, 152, 155, 158, 143] (by decide +kernel) (by decide +kernel)
def fm_fl3 (k : Nat) : Option (Nat × Nat) := cond (Nat.blt k 21) (cond (Nat.blt k 15) (cond (Nat.beq k 9) (some (3, 0)) (none)) (cond (Nat.blt k 18) (cond (Nat.beq k 15) (some (3, 1)) (none)) (cond (Nat.beq k 18) (some (3, 2)) (none)))) (cond (Nat.blt k 29) (cond (Nat.blt k 26) (cond (Nat.beq k 21) (some (3, 3)) (none)) (cond (Nat.beq k 26) (some (3, 4)) (none))) (cond (Nat.blt k 33) (cond (Nat.beq k 29) (some (3, 5)) (none)) (cond (Nat.beq k 33) (some (3, 6)) (none))))
def fm_fll3 : List (Nat × Nat × Nat) := [(9, 3, 0), (15, 3, 1), (18, 3, 2), (21, 3, 3), (26, 3, 4), (29, 3, 5), (33, 3, 6)]
theorem fm_flw3 : ∀ w ∈ fm_fll3.map (fun q => Cond.fieldLink "FlatModule$Frame" q.1 (fm_cls.getD q.2.1 ("", fm_T0, 0)).1 ((fm_cls.getD q.2.1 ("", fm_T0, 0)).2.1 q.2.2).2.1 ((fm_cls.getD q.2.1 ("", fm_T0, 0)).2.1 q.2.2).2.2.1), w ∈ fm_TB := fm_in _ [41, 43, 45, 47, 49, 51, 53] (by decide +kernel) (by decide +kernel)
def fm_fl4 (k : Nat) : Option (Nat × Nat) := cond (Nat.blt k 28) (cond (Nat.blt k 18) (cond (Nat.blt k 15) (cond (Nat.beq k 9) (some (4, 5)) (none)) (cond (Nat.beq k 15) (some (4, 6)) (none))) (cond (Nat.blt k 24) (cond (Nat.beq k 18) (some (4, 7)) (none)) (cond (Nat.beq k 24) (some (4, 8)) (none)))) (cond (Nat.blt k 36) (cond (Nat.blt k 32) (cond (Nat.beq k 28) (some (4, 0)) (none)) (cond (Nat.beq k 32) (some (4, 1)) (none))) (cond (Nat.blt k 39) (cond (Nat.beq k 36) (some (4, 2)) (none)) (cond (Nat.blt k 42) (cond (Nat.beq k 39) (some (4, 3)) (none)) (cond (Nat.beq k 42) (some (4, 4)) (none)))))
def fm_fll4 : List (Nat × Nat × Nat) := [(9, 4, 5), (15, 4, 6), (18, 4, 7), (24, 4, 8), (28, 4, 0), (32, 4, 1), (36, 4, 2), (39, 4, 3), (42, 4, 4)]
theorem fm_flw4 : ∀ w ∈ fm_fll4.map (fun q => Cond.fieldLink "FlatModule$Function" q.1 (fm_cls.getD q.2.1 ("", fm_T0, 0)).1 ((fm_cls.getD q.2.1 ("", fm_T0, 0)).2.1 q.2.2).2.1 ((fm_cls.getD q.2.1 ("", fm_T0, 0)).2.1 q.2.2).2.2.1), w ∈ fm_TB := fm_in _ [190, 193, 195, 197, 175, 178, 181, 184, 187] (by decide +kernel) (by decide +kernel)
def fm_fl5 (k : Nat) : Option (Nat × Nat) := cond (Nat.blt k 67) (cond (Nat.blt k 32) (cond (Nat.blt k 21) (cond (Nat.blt k 17) (cond (Nat.beq k 13) (some (5, 2)) (none)) (cond (Nat.beq k 17) (some (5, 3)) (none))) (cond (Nat.blt k 25) (cond (Nat.beq k 21) (some (5, 4)) (none)) (cond (Nat.blt k 29) (cond (Nat.beq k 25) (some (5, 7)) (none)) (cond (Nat.beq k 29) (some (5, 8)) (none))))) (cond (Nat.blt k 39) (cond (Nat.blt k 36) (cond (Nat.beq k 32) (some (5, 0)) (none)) (cond (Nat.beq k 36) (some (5, 1)) (none))) (cond (Nat.blt k 46) (cond (Nat.beq k 39) (some (5, 5)) (none)) (cond (Nat.blt k 49) (cond (Nat.beq k 46) (some (4, 1)) (none)) (cond (Nat.beq k 49) (some (4, 5)) (none)))))) (cond (Nat.blt k 99) (cond (Nat.blt k 77) (cond (Nat.blt k 70) (cond (Nat.beq k 67) (some (4, 3)) (none)) (cond (Nat.beq k 70) (some (4, 2)) (none))) (cond (Nat.blt k 86) (cond (Nat.beq k 77) (some (5, 6)) (none)) (cond (Nat.blt k 90) (cond (Nat.beq k 86) (some (4, 8)) (none)) (cond (Nat.beq k 90) (some (2, 0)) (none))))) (cond (Nat.blt k 109) (cond (Nat.blt k 106) (cond (Nat.beq k 99) (some (2, 3)) (none)) (cond (Nat.beq k 106) (some (2, 1)) (none))) (cond (Nat.blt k 145) (cond (Nat.beq k 109) (some (2, 2)) (none)) (cond (Nat.blt k 151) (cond (Nat.beq k 145) (some (2, 5)) (none)) (cond (Nat.beq k 151) (some (2, 4)) (none))))))
def fm_fll5 : List (Nat × Nat × Nat) := [(13, 5, 2), (17, 5, 3), (21, 5, 4), (25, 5, 7), (29, 5, 8), (32, 5, 0), (36, 5, 1), (39, 5, 5), (46, 4, 1), (49, 4, 5), (67, 4, 3), (70, 4, 2), (77, 5, 6), (86, 4, 8), (90, 2, 0), (99, 2, 3), (106, 2, 1), (109, 2, 2), (145, 2, 5), (151, 2, 4)]
theorem fm_flw5 : ∀ w ∈ fm_fll5.map (fun q => Cond.fieldLink "FlatModule$Machine" q.1 (fm_cls.getD q.2.1 ("", fm_T0, 0)).1 ((fm_cls.getD q.2.1 ("", fm_T0, 0)).2.1 q.2.2).2.1 ((fm_cls.getD q.2.1 ("", fm_T0, 0)).2.1 q.2.2).2.2.1), w ∈ fm_TB := fm_in _ [104, 105, 106, 109, 110, 100, 102, 107, 179, 191, 186, 182, 108, 199, 145, 151, 147, 149, 157, 154] (by decide +kernel) (by decide +kernel)
def fm_fl6 (k : Nat) : Option (Nat × Nat) := cond (Nat.blt k 61) (cond (Nat.blt k 35) (cond (Nat.blt k 22) (cond (Nat.blt k 16) (cond (Nat.blt k 13) (cond (Nat.beq k 7) (some (6, 0)) (none)) (cond (Nat.beq k 13) (some (6, 1)) (none))) (cond (Nat.blt k 19) (cond (Nat.beq k 16) (some (6, 2)) (none)) (cond (Nat.beq k 19) (some (6, 3)) (none)))) (cond (Nat.blt k 28) (cond (Nat.blt k 25) (cond (Nat.beq k 22) (some (6, 4)) (none)) (cond (Nat.beq k 25) (some (6, 5)) (none))) (cond (Nat.blt k 31) (cond (Nat.beq k 28) (some (6, 6)) (none)) (cond (Nat.beq k 31) (some (6, 7)) (none))))) (cond (Nat.blt k 49) (cond (Nat.blt k 43) (cond (Nat.blt k 39) (cond (Nat.beq k 35) (some (6, 8)) (none)) (cond (Nat.beq k 39) (some (6, 9)) (none))) (cond (Nat.blt k 46) (cond (Nat.beq k 43) (some (6, 10)) (none)) (cond (Nat.beq k 46) (some (6, 11)) (none)))) (cond (Nat.blt k 55) (cond (Nat.blt k 52) (cond (Nat.beq k 49) (some (6, 12)) (none)) (cond (Nat.beq k 52) (some (6, 13)) (none))) (cond (Nat.blt k 58) (cond (Nat.beq k 55) (some (6, 14)) (none)) (cond (Nat.beq k 58) (some (6, 20)) (none)))))) (cond (Nat.blt k 94) (cond (Nat.blt k 73) (cond (Nat.blt k 67) (cond (Nat.blt k 64) (cond (Nat.beq k 61) (some (6, 21)) (none)) (cond (Nat.beq k 64) (some (6, 22)) (none))) (cond (Nat.blt k 70) (cond (Nat.beq k 67) (some (6, 23)) (none)) (cond (Nat.beq k 70) (some (6, 24)) (none)))) (cond (Nat.blt k 79) (cond (Nat.blt k 76) (cond (Nat.beq k 73) (some (6, 25)) (none)) (cond (Nat.beq k 76) (some (6, 26)) (none))) (cond (Nat.blt k 82) (cond (Nat.beq k 79) (some (6, 27)) (none)) (cond (Nat.beq k 82) (some (6, 18)) (none))))) (cond (Nat.blt k 161) (cond (Nat.blt k 105) (cond (Nat.blt k 102) (cond (Nat.beq k 94) (some (6, 19)) (none)) (cond (Nat.beq k 102) (some (6, 17)) (none))) (cond (Nat.blt k 108) (cond (Nat.beq k 105) (some (6, 15)) (none)) (cond (Nat.beq k 108) (some (6, 16)) (none)))) (cond (Nat.blt k 187) (cond (Nat.blt k 184) (cond (Nat.beq k 161) (some (6, 28)) (none)) (cond (Nat.beq k 184) (some (6, 30)) (none))) (cond (Nat.blt k 198) (cond (Nat.beq k 187) (some (6, 29)) (none)) (cond (Nat.blt k 225) (cond (Nat.beq k 198) (some (6, 32)) (none)) (cond (Nat.beq k 225) (some (6, 31)) (none)))))))
def fm_fll6 : List (Nat × Nat × Nat) := [(7, 6, 0), (13, 6, 1), (16, 6, 2), (19, 6, 3), (22, 6, 4), (25, 6, 5), (28, 6, 6), (31, 6, 7), (35, 6, 8), (39, 6, 9), (43, 6, 10), (46, 6, 11), (49, 6, 12), (52, 6, 13), (55, 6, 14), (58, 6, 20), (61, 6, 21), (64, 6, 22), (67, 6, 23), (70, 6, 24), (73, 6, 25), (76, 6, 26), (79, 6, 27), (82, 6, 18), (94, 6, 19), (102, 6, 17), (105, 6, 15), (108, 6, 16), (161, 6, 28), (184, 6, 30), (187, 6, 29), (198, 6, 32), (225, 6, 31)]
theorem fm_flw6 : ∀ w ∈ fm_fll6.map (fun q => Cond.fieldLink "FlatModuleModel" q.1 (fm_cls.getD q.2.1 ("", fm_T0, 0)).1 ((fm_cls.getD q.2.1 ("", fm_T0, 0)).2.1 q.2.2).2.1 ((fm_cls.getD q.2.1 ("", fm_T0, 0)).2.1 q.2.2).2.2.1), w ∈ fm_TB := fm_in _ [622, 623, 624, 625, 626, 627, 628, 629, 630, 631, 632, 633, 634, 635, 636, 642, 643, 644, 645, 646, 647, 648, 649, 640, 641, 639, 637, 638, 650, 652, 651, 654, 653] (by decide +kernel) (by decide +kernel)
def fm_fl7 (k : Nat) : Option (Nat × Nat) := none
def fm_fll7 : List (Nat × Nat × Nat) := []
def fm_fl8 (k : Nat) : Option (Nat × Nat) := none
def fm_fll8 : List (Nat × Nat × Nat) := []
def fm_fl9 (k : Nat) : Option (Nat × Nat) := none
def fm_fll9 : List (Nat × Nat × Nat) := []
def fm_kdl : List (Nat × Nat × UInt64) := [(5, 124, 4593671619917905920), (6, 164, 4741671816366391296), (6, 166, 13965043853221167104), (6, 202, 4593671619917905920), (7, 34, 4741671816366391296), (7, 36, 13965043853221167104), (7, 38, 9218868437227405311), (7, 40, 18442240474082181119), (8, 63, 4593671619917905920)]
def fm_kd (oc ix : Nat) : Option UInt64 := (fm_kdl.find? (fun q => Nat.beq q.1 oc && Nat.beq q.2.1 ix)).map (fun q => q.2.2)
theorem fm_kdw : ∀ w ∈ fm_kdl.map (fun q => Cond.constantDouble (fm_cn q.1) q.2.1 q.2.2), w ∈ fm_TB := fm_in _ [514, 859, 860, 847, 526, 527, 562, 563, 895] (by decide +kernel) (by decide +kernel)
def fm_kfl : List (Nat × Nat × UInt32) := [(5, 123, 1040187392), (6, 201, 1040187392)]
def fm_kf (oc ix : Nat) : Option UInt32 := (fm_kfl.find? (fun q => Nat.beq q.1 oc && Nat.beq q.2.1 ix)).map (fun q => q.2.2)
theorem fm_kfw : ∀ w ∈ fm_kfl.map (fun q => Cond.constantFloat (fm_cn q.1) q.2.1 q.2.2), w ∈ fm_TB := fm_in _ [513, 846] (by decide +kernel) (by decide +kernel)
end
section
/-! THE WORLD: the fixed graph of cells, each cell's content read off the pure memory -/
def fm_fv (ad : fm_A) (M : fm_M) (ci k i s : Nat) : Value := cond (Nat.beq (fm_ft ci s) 2) (.ref (ad (M.2.2.2 k i s).1 (M.2.2.2 k i s).2)) (.int (M.1 k i s))
def fm_ar (ad : fm_A) (M : fm_M) (t k i : Nat) : (Nat → Int32) ⊕ (Nat → Int64) ⊕ (Nat → UInt32) ⊕ (Nat → UInt64) ⊕ (Nat → Option Nat) :=
  match t with
  | 0 => .inl (fun j => M.1 k i j)
  | 1 => .inr (.inl (fun j => M.2.1 k i j))
  | 2 => .inr (.inr (.inr (.inl (fun j => M.2.2.1 k i j))))
  | 3 => .inl (fun j => M.1 k i j)
  | _ => .inr (.inr (.inr (.inr (fun j => some (ad (M.2.2.2 k i j).1 (M.2.2.2 k i j).2)))))
def fm_ce (cA : Nat → ClassId) (ad : fm_A) (M : fm_M) (k i : Nat) : va_E :=
  match fm_kc k with
  | some ci => .inr (ci, (List.range (fm_nf ci)).map (fm_fv ad M ci k i))
  | none => match fm_ka k with
    | some q => .inl (cA q.1, q.2, fm_ar ad M q.1 k i)
    | none => .inr (0, [])
def fm_wl (cA : Nat → ClassId) (ad : fm_A) (M : fm_M) : va_W := fm_ki.map (fun q => (ad q.1 q.2, fm_ce cA ad M q.1 q.2))
def fm_tys (cA : Nat → ClassId) : List (ClassId × FieldType) := [(cA 0, .int), (cA 1, .long), (cA 2, .double), (cA 3, .boolean), (cA 4, .object "FlatModule$Function"), (cA 5, .object "FlatModule$Frame")]
theorem fm_cnt9 : ∀ k, fm_cnt k ≤ 9 := by
  intro k
  by_cases h : k < 51
  · revert k; decide +kernel
  · have : fm_cnt k = 0 := by
      unfold fm_cnt
      rw [List.getD_eq_getElem?_getD, List.getElem?_eq_none (by simpa using Nat.le_of_not_lt h)]
      rfl
    omega
theorem fm_ki_all : (List.range 50).all (fun k => (List.range (fm_cnt k)).all (fun i => decide ((k, i) ∈ fm_ki))) = true := by decide +kernel
theorem fm_ki_mem {k i : Nat} (hk : k < 50) (hi : i < fm_cnt k) : (k, i) ∈ fm_ki :=
  of_decide_eq_true (List.all_eq_true.mp (List.all_eq_true.mp fm_ki_all k (List.mem_range.mpr hk)) i (List.mem_range.mpr hi))
theorem fm_ki_nd : fm_ki.Nodup := by decide +kernel
theorem fm_ki_at {k i : Nat} (hk : k < 50) (hi : i < fm_cnt k) : ∃ j : Nat, fm_ki[j]? = some (k, i) := List.getElem?_of_mem (fm_ki_mem hk hi)
theorem fm_wl_at {cA : Nat → ClassId} {ad : fm_A} {M : fm_M} {k i j : Nat} (h : fm_ki[j]? = some (k, i)) : (fm_wl cA ad M)[j]? = some (ad k i, fm_ce cA ad M k i) := by
  unfold fm_wl
  rw [List.getElem?_map, h]
  rfl
theorem fm_wl_set {cA : Nat → ClassId} {ad : fm_A} {M M' : fm_M} {k i j : Nat} (h : fm_ki[j]? = some (k, i)) (ho : ∀ k' i', (k', i') ≠ (k, i) → fm_ce cA ad M' k' i' = fm_ce cA ad M k' i') {e : va_E} (he : fm_ce cA ad M' k i = e) : (fm_wl cA ad M).set j (ad k i, e) = fm_wl cA ad M' := by
  have hjl : j < fm_ki.length := (List.getElem?_eq_some_iff.mp h).1
  have hl : j < (fm_wl cA ad M).length := by
    unfold fm_wl
    rw [List.length_map]
    exact hjl
  apply List.ext_getElem?
  intro n
  by_cases hn : n = j
  · subst hn
    rw [List.getElem?_set_self hl, fm_wl_at h, he]
  · rw [List.getElem?_set_ne (Ne.symm hn)]
    unfold fm_wl
    rw [List.getElem?_map, List.getElem?_map]
    cases hq : fm_ki[n]? with
    | none => rfl
    | some q =>
      obtain ⟨k', i'⟩ := q
      have hne : (k', i') ≠ (k, i) := fun z => hn (by
        have hnl : n < fm_ki.length := (List.getElem?_eq_some_iff.mp hq).1
        exact (List.getElem?_inj hnl fm_ki_nd).mp (by rw [hq, h, z]))
      simp only [Option.map_some]
      rw [ho k' i' hne]
theorem fm_ce_congr {cA : Nat → ClassId} {ad : fm_A} {M M' : fm_M} {k i : Nat} (h1 : ∀ s, M'.1 k i s = M.1 k i s) (h2 : ∀ s, M'.2.1 k i s = M.2.1 k i s) (h3 : ∀ s, M'.2.2.1 k i s = M.2.2.1 k i s) (h4 : ∀ s, M'.2.2.2 k i s = M.2.2.2 k i s) : fm_ce cA ad M' k i = fm_ce cA ad M k i := by
  have e1 : M'.1 k i = M.1 k i := funext h1
  have e2 : M'.2.1 k i = M.2.1 k i := funext h2
  have e3 : M'.2.2.1 k i = M.2.2.1 k i := funext h3
  have e4 : M'.2.2.2 k i = M.2.2.2 k i := funext h4
  have hf : ∀ ci, fm_fv ad M' ci k i = fm_fv ad M ci k i := fun ci => funext fun s => by simp only [fm_fv, e1, e4]
  have ha : ∀ t, fm_ar ad M' t k i = fm_ar ad M t k i := fun t => by simp only [fm_ar, e1, e2, e3, e4]
  simp only [fm_ce, hf, ha]
theorem fm_u_ne {α : Type} {f : Nat → Nat → Nat → α} {k i s k' i' s' : Nat} {x : α} (h : (k', i') ≠ (k, i)) : fm_u f k i s x k' i' s' = f k' i' s' := by
  rw [fm_u_if, if_neg]
  intro z
  exact h (by rw [z.1, z.2.1])
/-- references point into the graph -/
def fm_ok : fm_V → Prop
  | .inr (.inr (.inr (.inr q))) => q.2 < fm_cnt q.1
  | _ => True
def fm_sz (k : Nat) : Nat := match fm_kc k with
  | some ci => fm_nf ci
  | none => match fm_ka k with
    | some t => t.2
    | none => 0
def fm_okM (M : fm_M) : Prop := ∀ k i s, k < 50 → i < fm_cnt k → s < fm_sz k → (M.2.2.2 k i s).2 < fm_cnt (M.2.2.2 k i s).1
def fm_vd (C : fm_C) : Prop := (∀ q ∈ C.2.1, fm_ok q.2) ∧ (∀ v ∈ C.2.2.1, fm_ok v) ∧ fm_okM C.2.2.2
abbrev fm_tN : String := "java/lang/Throwable"
abbrev fm_sD : String := "[Ljava/lang/StackTraceElement;"
abbrev fm_lD : String := "Ljava/util/List;"
/-- a static field's place, as its word has it; its cell is none that may change -/
def fm_ls (C n d : String) (A : Nat → Prop) (U : State) (H : Heap) : Prop := ∃ (c : ClassId) (k : Class) (i : Nat) (f : Field) (a : Nat) (cell : Cell), U.vm.findClass C = some c ∧ U.fieldFound? C n d = some (c, k, i, f) ∧ f.isStatic = true ∧ k.statics = some a ∧ H[a]? = some cell ∧ cell.vm.isStatics = true ∧ cell.cls = c ∧ f.slot < cell.slots.size ∧ k.staticTypes[f.slot]? = some f.type ∧ ¬ A a
theorem fm_ls.moved {C n d : String} {A : Nat → Prop} {u U : State} {H : Heap} (hvm : u.vm.Alike U.vm) (h : fm_ls C n d A u H) : fm_ls C n d A U H := by
  obtain ⟨c, k, i, f, a, cell, h0, h1, h2, h3, h4, h5, h6, h7, h8, h9⟩ := h
  obtain ⟨k', hi', he⟩ := State.fieldFound?_setVm hvm h1
  exact ⟨c, k', i, f, a, cell, by rw [hvm.findClass]; exact h0, hi', h2, by rw [he]; exact h3, h4, h5, h6, h7, by rw [he]; exact h8, h9⟩
theorem fm_ls.kept {C n d : String} {A : Nat → Prop} {U : State} {H H1 : Heap} (h : fm_ls C n d A U H) (hq : ∀ a : Nat, a < H.size → ¬ A a → H1[a]? = H[a]?) : fm_ls C n d A U H1 := by
  obtain ⟨c, k, i, f, a, cell, h0, h1, h2, h3, h4, h5, h6, h7, h8, h9⟩ := h
  exact ⟨c, k, i, f, a, cell, h0, h1, h2, h3, by rw [hq a (Array.getElem?_eq_some_iff.mp h4).1 h9]; exact h4, h5, h6, h7, h8, h9⟩
theorem fm_ls.narrow {C n d : String} {A B : Nat → Prop} {U : State} {H : Heap} (h : fm_ls C n d A U H) (hAB : ∀ q, B q → A q) : fm_ls C n d B U H := by
  obtain ⟨c, k, i, f, a, cell, h0, h1, h2, h3, h4, h5, h6, h7, h8, h9⟩ := h
  exact ⟨c, k, i, f, a, cell, h0, h1, h2, h3, h4, h5, h6, h7, h8, fun z => h9 (hAB a z)⟩
theorem fm_ls.use {C n d : String} {A : Nat → Prop} {U : State} {args : Array Value} (h : fm_ls C n d A U U.heap) : (Cond.laysStatic C n d).before args U = true := by
  obtain ⟨c, k, i, f, a, cell, h0, h1, h2, h3, h4, h5, h6, h7, h8, h9⟩ := h
  simp [Cond.before, Cond.holds, Cond.value, h0, h1, h2, h3, h4, h5, h6, h7, h8]
theorem fm_ls.of {C n d : String} {A : Nat → Prop} {U : State} {args : Array Value} (h : (Cond.laysStatic C n d).before args U = true) (hA : ∀ a : Nat, a < U.heap.size → ¬ A a) : fm_ls C n d A U U.heap := by
  obtain ⟨c, k, i, f, a, cell, hc, hi, hst, ha, hcell, hs, hcls, hlt, hty⟩ := Cond.laysStatic_spec h
  exact ⟨c, k, i, f, a, cell, hc, hi, hst, ha, hcell, hs, hcls, hlt, hty, hA a (Array.getElem?_eq_some_iff.mp hcell).1⟩
/-- words and statics that the tables' good words don't give -/
def fm_nw (A : Nat → Prop) (U : State) (H : Heap) : Prop :=
  va_Nw (.methodLinkNest "FlatModule$Checker" 93 ⟨"FlatModule", "isWithin", "(II)Z"⟩ "FlatModule") U ∧
  va_Nw (.castable "java/lang/IllegalArgumentException" "java/lang/IllegalArgumentException") U ∧ va_Nw (.castable "java/lang/IllegalStateException" "java/lang/IllegalStateException") U ∧
  va_Nw (.castable "java/lang/ArithmeticException" "java/lang/ArithmeticException") U ∧ va_Nw (.castable "java/lang/UnsupportedOperationException" "java/lang/UnsupportedOperationException") U ∧
  fm_ls fm_tN "UNASSIGNED_STACK" fm_sD A U H ∧ fm_ls fm_tN "SUPPRESSED_SENTINEL" fm_lD A U H ∧
  va_Zq fm_tN "UNASSIGNED_STACK" fm_sD A U H ∧ va_Zq fm_tN "SUPPRESSED_SENTINEL" fm_lD A U H ∧
  va_Nw (.declares ⟨"java/lang/RuntimeException", "<init>", "()V"⟩) U ∧ va_Nw (.declares ⟨"java/lang/Exception", "<init>", "()V"⟩) U ∧ va_Nw (.declares ⟨"java/lang/Throwable", "<init>", "()V"⟩) U
theorem fm_nw.to {A B : Nat → Prop} {s U : State} {H H1 : Heap} (h : fm_nw A s H) (hW : s.WarmedH U.vm) (hq : ∀ a : Nat, a < H.size → ¬ A a → H1[a]? = H[a]?) (hAB : ∀ q, B q → A q) : fm_nw B U H1 := by
  obtain ⟨h1, h2, h3, h4, h5, h6, h7, h8, h9, h10, h11, h12⟩ := h
  exact ⟨va_Nw.warmM hW h1, va_Nw.warmC hW h2, va_Nw.warmC hW h3, va_Nw.warmC hW h4, va_Nw.warmC hW h5, ((h6.moved hW.alike).kept hq).narrow hAB, ((h7.moved hW.alike).kept hq).narrow hAB, ((h8.moved hW.alike).kept hq).narrow hAB, ((h9.moved hW.alike).kept hq).narrow hAB, va_Nw.warmD hW h10, va_Nw.warmD hW h11, va_Nw.warmD hW h12⟩
theorem fm_nw.same {A : Nat → Prop} {s U : State} {H : Heap} (h : fm_nw A s H) (hvm : s.vm = U.vm) : fm_nw A U H := by
  obtain ⟨h1, h2, h3, h4, h5, h6, h7, h8, h9, h10, h11, h12⟩ := h
  have ha : s.vm.Alike U.vm := by rw [hvm]; exact Vm.Alike.refl _
  exact ⟨h1.same rfl hvm, h2.same rfl hvm, h3.same rfl hvm, h4.same rfl hvm, h5.same rfl hvm, h6.moved ha, h7.moved ha, h8.moved ha, h9.moved ha, h10.same rfl hvm, h11.same rfl hvm, h12.same rfl hvm⟩
/-- what stands at a method's entry: the machine, the code, the words, the graph's addresses, the script -/
def fm_cx (l : Launch) (D : va_G) (cA : Nat → ClassId) (ad : fm_A) (L : Nat) (xs : Nat → Int32) (oc : Nat) (cc : ByteArray) (nL : Nat) (p : Program) (s : State) (m : MethodId) (args : Array Value) (meth : Method) (c : Code) (A : Nat → Prop) : Prop :=
  p.tables.exec = Jvm.exec ∧ c.code = cc ∧ c.maxLocals = nL ∧ s.vm.findClass (fm_cn oc) = some m.cls ∧ (∀ w ∈ fm_TB, w.before args s = true) ∧ va_K D fm_cls (fm_tys cA) s ∧ (∀ M, va_D A (fm_wl cA ad M)) ∧ (∀ q, s.heap.size ≤ q → A q) ∧ (va_X (ad 50 0) L xs s s.heap ∧ ad 50 0 < s.heap.size ∧ ¬ A (ad 50 0)) ∧ fm_nw A s s.heap ∧ meth.locks = false ∧ l.stackTraces = false ∧ (oc = 8 ∨ c.exceptionTable.toList = [])
/-- W, at a pure configuration -/
def fm_ww (l : Launch) (D : va_G) (cA : Nat → ClassId) (ad : fm_A) (nL : Nat) (p : Program) (e : Env) (R : Room) (s : State) (m : MethodId) (args : Array Value) (below : List Frame) (meth : Method) (c : Code) (A : Nat → Prop) (Q : State → Prop) (cells slots : Nat) (C : fm_C) : Prop :=
  ∀ (H : Heap) (locs : List Loc) (ls : Array Slot), va_P D fm_cls (fm_wl cA ad C.2.2.2) H → va_S A s.heap H locs → lv_has ls nL (fm_cl ad C.2.1) → fm_vd C → W p l e R s m args below meth c H locs cells slots Q (F0 m C.1 ls (fm_cs ad C.2.2.1))
end
section
/-! ONE INSTRUCTION, PURE; and that the machine does it -/
def fm_stA (oc : Nat) (ins : Instr) (pc : Nat) (l : List (Nat × fm_V)) (st : List fm_V) (M : fm_M) : Option fm_C :=
  match ins with
  | .iconst n => some (pc + 1, l, .inl (Int32.ofInt n) :: st, M)
  | .bipush n => some (pc + 2, l, .inl (Int8.ofInt n).toInt32 :: st, M)
  | .sipush n => some (pc + 3, l, .inl (Int16.ofInt n).toInt32 :: st, M)
  | .lconst n => some (pc + 1, l, .inr (.inl (Int64.ofNat n)) :: st, M)
  | .dconst n => match n with
    | 0 => some (pc + 1, l, .inr (.inr (.inr (.inl FP.dconst0))) :: st, M)
    | 1 => none
  | .ldc ix => match fm_kf oc ix with
    | some v => some (pc + 2, l, .inr (.inr (.inl v)) :: st, M)
    | none => none
  | .ldc2_w ix => match fm_kd oc ix with
    | some v => some (pc + 3, l, .inr (.inr (.inr (.inl v))) :: st, M)
    | none => none
  | .iload_n n => match fm_lk l n with
    | some (.inl x) => some (pc + 1, l, .inl x :: st, M)
    | _ => none
  | .iload n => match fm_lk l n with
    | some (.inl x) => some (pc + 2, l, .inl x :: st, M)
    | _ => none
  | .lload_n n => match fm_lk l n with
    | some (.inr (.inl x)) => some (pc + 1, l, .inr (.inl x) :: st, M)
    | _ => none
  | .lload n => match fm_lk l n with
    | some (.inr (.inl x)) => some (pc + 2, l, .inr (.inl x) :: st, M)
    | _ => none
  | .fload_n n => match fm_lk l n with
    | some (.inr (.inr (.inl x))) => some (pc + 1, l, .inr (.inr (.inl x)) :: st, M)
    | _ => none
  | .dload_n n => match fm_lk l n with
    | some (.inr (.inr (.inr (.inl x)))) => some (pc + 1, l, .inr (.inr (.inr (.inl x))) :: st, M)
    | _ => none
  | .dload n => match fm_lk l n with
    | some (.inr (.inr (.inr (.inl x)))) => some (pc + 2, l, .inr (.inr (.inr (.inl x))) :: st, M)
    | _ => none
  | .aload_n n => match fm_lk l n with
    | some (.inr (.inr (.inr (.inr x)))) => some (pc + 1, l, .inr (.inr (.inr (.inr x))) :: st, M)
    | _ => none
  | .aload n => match fm_lk l n with
    | some (.inr (.inr (.inr (.inr x)))) => some (pc + 2, l, .inr (.inr (.inr (.inr x))) :: st, M)
    | _ => none
  | _ => none
theorem fm_vd_push {pc pc' : Nat} {l : List (Nat × fm_V)} {st : List fm_V} {M : fm_M} (h : fm_vd (pc, l, st, M)) {v : fm_V} (hv : fm_ok v) : fm_vd (pc', l, v :: st, M) :=
  ⟨h.1, fun w hw => (List.mem_cons.mp hw).elim (fun e => e ▸ hv) (h.2.1 w), h.2.2⟩
theorem fm_vd_lk {pc : Nat} {l : List (Nat × fm_V)} {st : List fm_V} {M : fm_M} (h : fm_vd (pc, l, st, M)) {n : Nat} {v : fm_V} (hk : fm_lk l n = some v) : fm_ok v := h.1 _ (fm_lk_mem hk)
theorem fm_kf_in {oc ix : Nat} {v : UInt32} (h : fm_kf oc ix = some v) : Cond.constantFloat (fm_cn oc) ix v ∈ fm_TB := by
  unfold fm_kf at h
  cases hf : fm_kfl.find? (fun q => Nat.beq q.1 oc && Nat.beq q.2.1 ix) with
  | none => rw [hf] at h; cases h
  | some q =>
    rw [hf] at h
    cases h
    have h1 := List.find?_some hf
    simp only [Bool.and_eq_true] at h1
    obtain ⟨e1, e2⟩ := h1
    rw [← Nat.eq_of_beq_eq_true e1, ← Nat.eq_of_beq_eq_true e2]
    exact fm_kfw _ (List.mem_map.mpr ⟨q, List.mem_of_find?_eq_some hf, rfl⟩)
theorem fm_kd_in {oc ix : Nat} {v : UInt64} (h : fm_kd oc ix = some v) : Cond.constantDouble (fm_cn oc) ix v ∈ fm_TB := by
  unfold fm_kd at h
  cases hf : fm_kdl.find? (fun q => Nat.beq q.1 oc && Nat.beq q.2.1 ix) with
  | none => rw [hf] at h; cases h
  | some q =>
    rw [hf] at h
    cases h
    have h1 := List.find?_some hf
    simp only [Bool.and_eq_true] at h1
    obtain ⟨e1, e2⟩ := h1
    rw [← Nat.eq_of_beq_eq_true e1, ← Nat.eq_of_beq_eq_true e2]
    exact fm_kdw _ (List.mem_map.mpr ⟨q, List.mem_of_find?_eq_some hf, rfl⟩)
section StA
variable {l : Launch} {D : va_G} {cA : Nat → ClassId} {ad : fm_A} {L : Nat} {xs : Nat → Int32} {oc : Nat} {cc : ByteArray} {nL : Nat} {p : Program} {e : Env} {R : Room} {s : State} {m : MethodId} {args : Array Value} {below : List Frame} {meth : Method} {c : Code} {A : Nat → Prop} {Q : State → Prop} {cells slots : Nat}
set_option maxHeartbeats 2000000 in
theorem fm_soA (X : fm_cx l D cA ad L xs oc cc nL p s m args meth c A) {ins : Instr} {pc : Nat} {lo : List (Nat × fm_V)} {st : List fm_V} {M : fm_M} {C' : fm_C} (hd : decode cc pc = .ok (ins, fm_ln ins)) (h : fm_stA oc ins pc lo st M = some C')
    (k : fm_ww l D cA ad nL p e R s m args below meth c A Q cells slots C') : fm_ww l D cA ad nL p e R s m args below meth c A Q cells slots (pc, lo, st, M) := by
  obtain ⟨hx, hb, -, hown, hts, -⟩ := X
  intro H locs ls hP hS hl hv
  cases ins
  case iconst n =>
    cases h
    exact lv_iconst hx hb hd rfl (k H locs ls hP hS hl (fm_vd_push hv trivial))
  case bipush n =>
    cases h
    exact lv_bipush hx hb hd rfl (k H locs ls hP hS hl (fm_vd_push hv trivial))
  case sipush n =>
    cases h
    exact lv_sipush hx hb hd rfl (k H locs ls hP hS hl (fm_vd_push hv trivial))
  case lconst n =>
    cases h
    exact lv_lconst hx hb hd rfl (k H locs ls hP hS hl (fm_vd_push hv trivial))
  case dconst n =>
    match n, h, hd with
    | 0, h, hd =>
      cases h
      exact lv_dconst0 hx hb hd (k H locs ls hP hS hl (fm_vd_push hv trivial))
    | 1, h, hd => cases h
  case ldc ix =>
    simp only [fm_stA] at h
    split at h
    · next v hk =>
      cases h
      exact lv_ldcf hx hb hown (hts _ (fm_kf_in hk)) hd (k H locs ls hP hS hl (fm_vd_push hv trivial))
    · cases h
  case ldc2_w ix =>
    simp only [fm_stA] at h
    split at h
    · next v hk =>
      cases h
      exact lv_ldc2d hx hb hown (hts _ (fm_kd_in hk)) hd (k H locs ls hP hS hl (fm_vd_push hv trivial))
    · cases h
  case iload_n n =>
    simp only [fm_stA] at h
    split at h
    · next x hk =>
      cases h
      exact lv_iload_n hx hb hd rfl (fm_lk_at hl hk) (k H locs ls hP hS hl (fm_vd_push hv trivial))
    · cases h
  case iload n =>
    simp only [fm_stA] at h
    split at h
    · next x hk =>
      cases h
      exact lv_iload hx hb hd (fm_lk_at hl hk) (k H locs ls hP hS hl (fm_vd_push hv trivial))
    · cases h
  case lload_n n =>
    simp only [fm_stA] at h
    split at h
    · next x hk =>
      cases h
      exact lv_lload_n hx hb hd rfl (fm_lk_at hl hk) (k H locs ls hP hS hl (fm_vd_push hv trivial))
    · cases h
  case lload n =>
    simp only [fm_stA] at h
    split at h
    · next x hk =>
      cases h
      exact lv_lload hx hb hd (fm_lk_at hl hk) (k H locs ls hP hS hl (fm_vd_push hv trivial))
    · cases h
  case fload_n n =>
    simp only [fm_stA] at h
    split at h
    · next x hk =>
      cases h
      exact lv_fload_n hx hb hd rfl (fm_lk_at hl hk) (k H locs ls hP hS hl (fm_vd_push hv trivial))
    · cases h
  case dload_n n =>
    simp only [fm_stA] at h
    split at h
    · next x hk =>
      cases h
      exact lv_dload_n hx hb hd rfl (fm_lk_at hl hk) (k H locs ls hP hS hl (fm_vd_push hv trivial))
    · cases h
  case dload n =>
    simp only [fm_stA] at h
    split at h
    · next x hk =>
      cases h
      exact lv_dload hx hb hd (fm_lk_at hl hk) (k H locs ls hP hS hl (fm_vd_push hv trivial))
    · cases h
  case aload_n n =>
    simp only [fm_stA] at h
    split at h
    · next x hk =>
      cases h
      exact lv_aload_n hx hb hd rfl (fm_lk_at hl hk) (k H locs ls hP hS hl (fm_vd_push hv (fm_vd_lk hv hk)))
    · cases h
  case aload n =>
    simp only [fm_stA] at h
    split at h
    · next x hk =>
      cases h
      exact lv_aload hx hb hd (fm_lk_at hl hk) (k H locs ls hP hS hl (fm_vd_push hv (fm_vd_lk hv hk)))
    · cases h
  all_goals (simp only [fm_stA] at h; exact nomatch h)
end StA
end
section
/-! stores -/
def fm_stB (nL : Nat) (ins : Instr) (pc : Nat) (l : List (Nat × fm_V)) (st : List fm_V) (M : fm_M) : Option fm_C :=
  match ins with
  | .istore_n n => match st with
    | .inl x :: r => cond (Nat.blt n nL) (some (pc + 1, fm_set1 l n (.inl x), r, M)) none
    | _ => none
  | .istore n => match st with
    | .inl x :: r => cond (Nat.blt n nL) (some (pc + 2, fm_set1 l n (.inl x), r, M)) none
    | _ => none
  | .astore_n n => match st with
    | .inr (.inr (.inr (.inr x))) :: r => cond (Nat.blt n nL) (some (pc + 1, fm_set1 l n (.inr (.inr (.inr (.inr x)))), r, M)) none
    | _ => none
  | .astore n => match st with
    | .inr (.inr (.inr (.inr x))) :: r => cond (Nat.blt n nL) (some (pc + 2, fm_set1 l n (.inr (.inr (.inr (.inr x)))), r, M)) none
    | _ => none
  | .lstore_n n => match st with
    | .inr (.inl x) :: r => cond (Nat.blt (n + 1) nL) (some (pc + 1, fm_set2 l n (.inr (.inl x)), r, M)) none
    | _ => none
  | .lstore n => match st with
    | .inr (.inl x) :: r => cond (Nat.blt (n + 1) nL) (some (pc + 2, fm_set2 l n (.inr (.inl x)), r, M)) none
    | _ => none
  | .dstore_n n => match st with
    | .inr (.inr (.inr (.inl x))) :: r => cond (Nat.blt (n + 1) nL) (some (pc + 1, fm_set2 l n (.inr (.inr (.inr (.inl x)))), r, M)) none
    | _ => none
  | .dstore n => match st with
    | .inr (.inr (.inr (.inl x))) :: r => cond (Nat.blt (n + 1) nL) (some (pc + 2, fm_set2 l n (.inr (.inr (.inr (.inl x)))), r, M)) none
    | _ => none
  | .iinc n v => match fm_lk l n with
    | some (.inl x) => cond (Nat.blt n nL) (some (pc + 3, fm_set1 l n (.inl (x + Int32.ofInt v)), st, M)) none
    | _ => none
  | _ => none
theorem fm_vd_set1 {pc pc' : Nat} {l : List (Nat × fm_V)} {st st' : List fm_V} {M : fm_M} (h : fm_vd (pc, l, st, M)) {n : Nat} {v : fm_V} (hv : fm_ok v) (hs : ∀ w ∈ st', w ∈ st) : fm_vd (pc', fm_set1 l n v, st', M) :=
  ⟨fun q hq => (List.mem_cons.mp hq).elim (fun e => by rw [e]; exact hv) (fun h2 => h.1 q (List.mem_filter.mp h2).1), fun w hw => h.2.1 w (hs w hw), h.2.2⟩
theorem fm_vd_set2 {pc pc' : Nat} {l : List (Nat × fm_V)} {st st' : List fm_V} {M : fm_M} (h : fm_vd (pc, l, st, M)) {n : Nat} {v : fm_V} (hv : fm_ok v) (hs : ∀ w ∈ st', w ∈ st) : fm_vd (pc', fm_set2 l n v, st', M) :=
  ⟨fun q hq => (List.mem_cons.mp hq).elim (fun e => by rw [e]; exact hv) (fun h2 => h.1 q (List.mem_filter.mp h2).1), fun w hw => h.2.1 w (hs w hw), h.2.2⟩
theorem fm_lk_ix {l : List (Nat × fm_V)} {ad : fm_A} {n : Nat} {v : fm_V} (h : fm_lk l n = some v) : ∃ k : Nat, (fm_cl ad l)[k]? = some (n, fm_cv ad v) :=
  List.getElem?_of_mem (List.mem_map.mpr ⟨(n, v), fm_lk_mem h, rfl⟩)
section StB
variable {l : Launch} {D : va_G} {cA : Nat → ClassId} {ad : fm_A} {L : Nat} {xs : Nat → Int32} {oc : Nat} {cc : ByteArray} {nL : Nat} {p : Program} {e : Env} {R : Room} {s : State} {m : MethodId} {args : Array Value} {below : List Frame} {meth : Method} {c : Code} {A : Nat → Prop} {Q : State → Prop} {cells slots : Nat}
set_option maxHeartbeats 2000000 in
theorem fm_soB (X : fm_cx l D cA ad L xs oc cc nL p s m args meth c A) {ins : Instr} {pc : Nat} {lo : List (Nat × fm_V)} {st : List fm_V} {M : fm_M} {C' : fm_C} (hd : decode cc pc = .ok (ins, fm_ln ins)) (h : fm_stB nL ins pc lo st M = some C')
    (k : fm_ww l D cA ad nL p e R s m args below meth c A Q cells slots C') : fm_ww l D cA ad nL p e R s m args below meth c A Q cells slots (pc, lo, st, M) := by
  obtain ⟨hx, hb, -, hown, hts, -⟩ := X
  intro H locs ls hP hS hl hv
  cases ins
  case istore_n n =>
    simp only [fm_stB] at h
    split at h
    · next x r =>
      cases hb2 : Nat.blt n nL with
      | false => rw [hb2] at h; cases h
      | true =>
        rw [hb2] at h
        cases h
        refine lv_istore_n hx hb hd rfl hl (Nat.le_of_ble_eq_true hb2) (fm_set1_cl ad lo n (.inl x)) (fun ls hl => ?_)
        exact k H locs ls hP hS hl (fm_vd_set1 hv trivial (fun w hw => List.mem_cons_of_mem _ hw))
    · cases h
  case istore n =>
    simp only [fm_stB] at h
    split at h
    · next x r =>
      cases hb2 : Nat.blt n nL with
      | false => rw [hb2] at h; cases h
      | true =>
        rw [hb2] at h
        cases h
        refine lv_istore hx hb hd hl (Nat.le_of_ble_eq_true hb2) (fm_set1_cl ad lo n (.inl x)) (fun ls hl => ?_)
        exact k H locs ls hP hS hl (fm_vd_set1 hv trivial (fun w hw => List.mem_cons_of_mem _ hw))
    · cases h
  case astore_n n =>
    simp only [fm_stB] at h
    split at h
    · next x r =>
      cases hb2 : Nat.blt n nL with
      | false => rw [hb2] at h; cases h
      | true =>
        rw [hb2] at h
        cases h
        refine lv_astore_n hx hb hd rfl hl (Nat.le_of_ble_eq_true hb2) (fm_set1_cl ad lo n (.inr (.inr (.inr (.inr x))))) (fun ls hl => ?_)
        exact k H locs ls hP hS hl (fm_vd_set1 hv (hv.2.1 _ List.mem_cons_self) (fun w hw => List.mem_cons_of_mem _ hw))
    · cases h
  case astore n =>
    simp only [fm_stB] at h
    split at h
    · next x r =>
      cases hb2 : Nat.blt n nL with
      | false => rw [hb2] at h; cases h
      | true =>
        rw [hb2] at h
        cases h
        refine lv_astore hx hb hd hl (Nat.le_of_ble_eq_true hb2) (fm_set1_cl ad lo n (.inr (.inr (.inr (.inr x))))) (fun ls hl => ?_)
        exact k H locs ls hP hS hl (fm_vd_set1 hv (hv.2.1 _ List.mem_cons_self) (fun w hw => List.mem_cons_of_mem _ hw))
    · cases h
  case lstore_n n =>
    simp only [fm_stB] at h
    split at h
    · next x r =>
      cases hb2 : Nat.blt (n + 1) nL with
      | false => rw [hb2] at h; cases h
      | true =>
        rw [hb2] at h
        cases h
        refine lv_lstore_n hx hb hd rfl hl (Nat.le_of_ble_eq_true hb2) (fm_set2_cl ad lo n (.inr (.inl x))) (fun ls hl => ?_)
        exact k H locs ls hP hS hl (fm_vd_set2 hv trivial (fun w hw => List.mem_cons_of_mem _ hw))
    · cases h
  case lstore n =>
    simp only [fm_stB] at h
    split at h
    · next x r =>
      cases hb2 : Nat.blt (n + 1) nL with
      | false => rw [hb2] at h; cases h
      | true =>
        rw [hb2] at h
        cases h
        refine lv_lstore hx hb hd hl (Nat.le_of_ble_eq_true hb2) (fm_set2_cl ad lo n (.inr (.inl x))) (fun ls hl => ?_)
        exact k H locs ls hP hS hl (fm_vd_set2 hv trivial (fun w hw => List.mem_cons_of_mem _ hw))
    · cases h
  case dstore_n n =>
    simp only [fm_stB] at h
    split at h
    · next x r =>
      cases hb2 : Nat.blt (n + 1) nL with
      | false => rw [hb2] at h; cases h
      | true =>
        rw [hb2] at h
        cases h
        refine lv_dstore_n hx hb hd rfl hl (Nat.le_of_ble_eq_true hb2) (fm_set2_cl ad lo n (.inr (.inr (.inr (.inl x))))) (fun ls hl => ?_)
        exact k H locs ls hP hS hl (fm_vd_set2 hv trivial (fun w hw => List.mem_cons_of_mem _ hw))
    · cases h
  case dstore n =>
    simp only [fm_stB] at h
    split at h
    · next x r =>
      cases hb2 : Nat.blt (n + 1) nL with
      | false => rw [hb2] at h; cases h
      | true =>
        rw [hb2] at h
        cases h
        refine lv_dstore hx hb hd hl (Nat.le_of_ble_eq_true hb2) (fm_set2_cl ad lo n (.inr (.inr (.inr (.inl x))))) (fun ls hl => ?_)
        exact k H locs ls hP hS hl (fm_vd_set2 hv trivial (fun w hw => List.mem_cons_of_mem _ hw))
    · cases h
  case iinc n v =>
    simp only [fm_stB] at h
    split at h
    · next x hk =>
      cases hb2 : Nat.blt n nL with
      | false => rw [hb2] at h; cases h
      | true =>
        rw [hb2] at h
        cases h
        obtain ⟨j, hj⟩ := fm_lk_ix (ad := ad) hk
        refine lv_iinc hx hb hd hl hj rfl (Nat.le_of_ble_eq_true hb2) (fm_set1_cl ad lo n (.inl (x + Int32.ofInt v))) (fun ls hl => ?_)
        exact k H locs ls hP hS hl (fm_vd_set1 hv trivial (fun w hw => hw))
    · cases h
  all_goals (simp only [fm_stB] at h; exact nomatch h)
end StB
/-! arithmetic that asks nothing, stack moves, goto -/
def fm_stC (ins : Instr) (pc : Nat) (l : List (Nat × fm_V)) (st : List fm_V) (M : fm_M) : Option fm_C :=
  match ins with
  | .iadd => match st with
    | .inl y :: .inl x :: r => some (pc + 1, l, .inl (x + y) :: r, M)
    | _ => none
  | .isub => match st with
    | .inl y :: .inl x :: r => some (pc + 1, l, .inl (x - y) :: r, M)
    | _ => none
  | .imul => match st with
    | .inl y :: .inl x :: r => some (pc + 1, l, .inl (x * y) :: r, M)
    | _ => none
  | .iand => match st with
    | .inl y :: .inl x :: r => some (pc + 1, l, .inl (x &&& y) :: r, M)
    | _ => none
  | .ishr => match st with
    | .inl y :: .inl x :: r => some (pc + 1, l, .inl (x >>> (y &&& 31)) :: r, M)
    | _ => none
  | .ladd => match st with
    | .inr (.inl y) :: .inr (.inl x) :: r => some (pc + 1, l, .inr (.inl (x + y)) :: r, M)
    | _ => none
  | .lsub => match st with
    | .inr (.inl y) :: .inr (.inl x) :: r => some (pc + 1, l, .inr (.inl (x - y)) :: r, M)
    | _ => none
  | .lmul => match st with
    | .inr (.inl y) :: .inr (.inl x) :: r => some (pc + 1, l, .inr (.inl (x * y)) :: r, M)
    | _ => none
  | .land => match st with
    | .inr (.inl y) :: .inr (.inl x) :: r => some (pc + 1, l, .inr (.inl (x &&& y)) :: r, M)
    | _ => none
  | .lshl => match st with
    | .inl y :: .inr (.inl x) :: r => some (pc + 1, l, .inr (.inl (x <<< (y.toInt64 &&& 63))) :: r, M)
    | _ => none
  | .lcmp => match st with
    | .inr (.inl y) :: .inr (.inl x) :: r => some (pc + 1, l, .inl (lg_cmp x y) :: r, M)
    | _ => none
  | .i2l => match st with
    | .inl x :: r => some (pc + 1, l, .inr (.inl (x.toInt64)) :: r, M)
    | _ => none
  | .l2i => match st with
    | .inr (.inl x) :: r => some (pc + 1, l, .inl (x.toInt32) :: r, M)
    | _ => none
  | .i2d => match st with
    | .inl x :: r => some (pc + 1, l, .inr (.inr (.inr (.inl (FP.i2d x)))) :: r, M)
    | _ => none
  | .i2f => match st with
    | .inl x :: r => some (pc + 1, l, .inr (.inr (.inl (FP.i2f x))) :: r, M)
    | _ => none
  | .l2d => match st with
    | .inr (.inl x) :: r => some (pc + 1, l, .inr (.inr (.inr (.inl (FP.l2d x)))) :: r, M)
    | _ => none
  | .l2f => match st with
    | .inr (.inl x) :: r => some (pc + 1, l, .inr (.inr (.inl (FP.l2f x))) :: r, M)
    | _ => none
  | .d2i => match st with
    | .inr (.inr (.inr (.inl x))) :: r => some (pc + 1, l, .inl (FP.d2i x) :: r, M)
    | _ => none
  | .d2l => match st with
    | .inr (.inr (.inr (.inl x))) :: r => some (pc + 1, l, .inr (.inl (FP.d2l x)) :: r, M)
    | _ => none
  | .dcmp op => match st with
    | .inr (.inr (.inr (.inl y))) :: .inr (.inr (.inr (.inl x))) :: r => some (pc + 1, l, .inl (Op.cmpValue (FP.dcmp x y) op) :: r, M)
    | _ => none
  | .dup => match st with
    | v :: r => cond (fm_c2 v) none (some (pc + 1, l, v :: v :: r, M))
    | _ => none
  | .pop => match st with
    | v :: r => cond (fm_c2 v) none (some (pc + 1, l, r, M))
    | _ => none
  | .dup_x1 => match st with
    | v :: w :: r => cond (fm_c2 v || fm_c2 w) none (some (pc + 1, l, v :: w :: v :: r, M))
    | _ => none
  | .dup2 => match st with
    | v :: w :: r => cond (fm_c2 v || fm_c2 w) none (some (pc + 1, l, v :: w :: v :: w :: r, M))
    | _ => none
  | .goto off => match (pc : Int) + off with
    | .ofNat t => some (t, l, st, M)
    | .negSucc _ => none
  | _ => none
theorem fm_vd_st {pc pc' : Nat} {l : List (Nat × fm_V)} {st st' : List fm_V} {M : fm_M} (h : fm_vd (pc, l, st, M)) (hs : ∀ w ∈ st', fm_ok w) : fm_vd (pc', l, st', M) := ⟨h.1, hs, h.2.2⟩
theorem fm_c2_1 {ad : fm_A} {v : fm_V} (h : fm_c2 v = false) : (fm_cv ad v).category = 1 := by
  have := fm_cat ad v
  rw [h] at this
  rcases lv_cat (fm_cv ad v) with q | q
  · exact q
  · rw [q] at this
    cases this
section StC
variable {l : Launch} {D : va_G} {cA : Nat → ClassId} {ad : fm_A} {L : Nat} {xs : Nat → Int32} {oc : Nat} {cc : ByteArray} {nL : Nat} {p : Program} {e : Env} {R : Room} {s : State} {m : MethodId} {args : Array Value} {below : List Frame} {meth : Method} {c : Code} {A : Nat → Prop} {Q : State → Prop} {cells slots : Nat}
set_option maxHeartbeats 2000000 in
theorem fm_soC (X : fm_cx l D cA ad L xs oc cc nL p s m args meth c A) {ins : Instr} {pc : Nat} {lo : List (Nat × fm_V)} {st : List fm_V} {M : fm_M} {C' : fm_C} (hd : decode cc pc = .ok (ins, fm_ln ins)) (h : fm_stC ins pc lo st M = some C')
    (k : fm_ww l D cA ad nL p e R s m args below meth c A Q cells slots C') : fm_ww l D cA ad nL p e R s m args below meth c A Q cells slots (pc, lo, st, M) := by
  obtain ⟨hx, hb, -, hown, hts, -⟩ := X
  intro H locs ls hP hS hl hv
  cases ins
  case iadd =>
    simp only [fm_stC] at h
    split at h
    · next y x r =>
      cases h
      exact lv_iadd hx hb hd (k H locs ls hP hS hl (fm_vd_st hv (List.forall_mem_cons.mpr ⟨trivial, fun w hw => hv.2.1 w (List.mem_cons_of_mem _ (List.mem_cons_of_mem _ hw))⟩)))
    · cases h
  case isub =>
    simp only [fm_stC] at h
    split at h
    · next y x r =>
      cases h
      exact lv_isub hx hb hd (k H locs ls hP hS hl (fm_vd_st hv (List.forall_mem_cons.mpr ⟨trivial, fun w hw => hv.2.1 w (List.mem_cons_of_mem _ (List.mem_cons_of_mem _ hw))⟩)))
    · cases h
  case imul =>
    simp only [fm_stC] at h
    split at h
    · next y x r =>
      cases h
      exact lv_imul hx hb hd (k H locs ls hP hS hl (fm_vd_st hv (List.forall_mem_cons.mpr ⟨trivial, fun w hw => hv.2.1 w (List.mem_cons_of_mem _ (List.mem_cons_of_mem _ hw))⟩)))
    · cases h
  case iand =>
    simp only [fm_stC] at h
    split at h
    · next y x r =>
      cases h
      exact lv_iand hx hb hd (k H locs ls hP hS hl (fm_vd_st hv (List.forall_mem_cons.mpr ⟨trivial, fun w hw => hv.2.1 w (List.mem_cons_of_mem _ (List.mem_cons_of_mem _ hw))⟩)))
    · cases h
  case ishr =>
    simp only [fm_stC] at h
    split at h
    · next y x r =>
      cases h
      exact lv_ishr hx hb hd (k H locs ls hP hS hl (fm_vd_st hv (List.forall_mem_cons.mpr ⟨trivial, fun w hw => hv.2.1 w (List.mem_cons_of_mem _ (List.mem_cons_of_mem _ hw))⟩)))
    · cases h
  case ladd =>
    simp only [fm_stC] at h
    split at h
    · next y x r =>
      cases h
      exact lv_ladd hx hb hd (k H locs ls hP hS hl (fm_vd_st hv (List.forall_mem_cons.mpr ⟨trivial, fun w hw => hv.2.1 w (List.mem_cons_of_mem _ (List.mem_cons_of_mem _ hw))⟩)))
    · cases h
  case lsub =>
    simp only [fm_stC] at h
    split at h
    · next y x r =>
      cases h
      exact lv_lsub hx hb hd (k H locs ls hP hS hl (fm_vd_st hv (List.forall_mem_cons.mpr ⟨trivial, fun w hw => hv.2.1 w (List.mem_cons_of_mem _ (List.mem_cons_of_mem _ hw))⟩)))
    · cases h
  case lmul =>
    simp only [fm_stC] at h
    split at h
    · next y x r =>
      cases h
      exact lv_lmul hx hb hd (k H locs ls hP hS hl (fm_vd_st hv (List.forall_mem_cons.mpr ⟨trivial, fun w hw => hv.2.1 w (List.mem_cons_of_mem _ (List.mem_cons_of_mem _ hw))⟩)))
    · cases h
  case land =>
    simp only [fm_stC] at h
    split at h
    · next y x r =>
      cases h
      exact lv_land hx hb hd (k H locs ls hP hS hl (fm_vd_st hv (List.forall_mem_cons.mpr ⟨trivial, fun w hw => hv.2.1 w (List.mem_cons_of_mem _ (List.mem_cons_of_mem _ hw))⟩)))
    · cases h
  case lshl =>
    simp only [fm_stC] at h
    split at h
    · next y x r =>
      cases h
      exact lv_lshl hx hb hd rfl (k H locs ls hP hS hl (fm_vd_st hv (List.forall_mem_cons.mpr ⟨trivial, fun w hw => hv.2.1 w (List.mem_cons_of_mem _ (List.mem_cons_of_mem _ hw))⟩)))
    · cases h
  case lcmp =>
    simp only [fm_stC] at h
    split at h
    · next y x r =>
      cases h
      exact W.lcmp hx hb hd (k H locs ls hP hS hl (fm_vd_st hv (List.forall_mem_cons.mpr ⟨trivial, fun w hw => hv.2.1 w (List.mem_cons_of_mem _ (List.mem_cons_of_mem _ hw))⟩)))
    · cases h
  case i2l =>
    simp only [fm_stC] at h
    split at h
    · next x r =>
      cases h
      exact lv_i2l hx hb hd rfl (k H locs ls hP hS hl (fm_vd_st hv (List.forall_mem_cons.mpr ⟨trivial, fun w hw => hv.2.1 w (List.mem_cons_of_mem _ hw)⟩)))
    · cases h
  case l2i =>
    simp only [fm_stC] at h
    split at h
    · next x r =>
      cases h
      exact lv_l2i hx hb hd rfl (k H locs ls hP hS hl (fm_vd_st hv (List.forall_mem_cons.mpr ⟨trivial, fun w hw => hv.2.1 w (List.mem_cons_of_mem _ hw)⟩)))
    · cases h
  case i2d =>
    simp only [fm_stC] at h
    split at h
    · next x r =>
      cases h
      exact lv_i2d hx hb hd (k H locs ls hP hS hl (fm_vd_st hv (List.forall_mem_cons.mpr ⟨trivial, fun w hw => hv.2.1 w (List.mem_cons_of_mem _ hw)⟩)))
    · cases h
  case i2f =>
    simp only [fm_stC] at h
    split at h
    · next x r =>
      cases h
      exact lv_i2f hx hb hd (k H locs ls hP hS hl (fm_vd_st hv (List.forall_mem_cons.mpr ⟨trivial, fun w hw => hv.2.1 w (List.mem_cons_of_mem _ hw)⟩)))
    · cases h
  case l2d =>
    simp only [fm_stC] at h
    split at h
    · next x r =>
      cases h
      exact lv_l2d hx hb hd (k H locs ls hP hS hl (fm_vd_st hv (List.forall_mem_cons.mpr ⟨trivial, fun w hw => hv.2.1 w (List.mem_cons_of_mem _ hw)⟩)))
    · cases h
  case l2f =>
    simp only [fm_stC] at h
    split at h
    · next x r =>
      cases h
      exact lv_l2f hx hb hd (k H locs ls hP hS hl (fm_vd_st hv (List.forall_mem_cons.mpr ⟨trivial, fun w hw => hv.2.1 w (List.mem_cons_of_mem _ hw)⟩)))
    · cases h
  case d2i =>
    simp only [fm_stC] at h
    split at h
    · next x r =>
      cases h
      exact lv_d2i hx hb hd (k H locs ls hP hS hl (fm_vd_st hv (List.forall_mem_cons.mpr ⟨trivial, fun w hw => hv.2.1 w (List.mem_cons_of_mem _ hw)⟩)))
    · cases h
  case d2l =>
    simp only [fm_stC] at h
    split at h
    · next x r =>
      cases h
      exact lv_d2l hx hb hd (k H locs ls hP hS hl (fm_vd_st hv (List.forall_mem_cons.mpr ⟨trivial, fun w hw => hv.2.1 w (List.mem_cons_of_mem _ hw)⟩)))
    · cases h
  case dcmp op =>
    simp only [fm_stC] at h
    split at h
    · next y x r =>
      cases h
      exact lv_dcmp hx hb hd (k H locs ls hP hS hl (fm_vd_st hv (List.forall_mem_cons.mpr ⟨trivial, fun w hw => hv.2.1 w (List.mem_cons_of_mem _ (List.mem_cons_of_mem _ hw))⟩)))
    · cases h
  case dup =>
    simp only [fm_stC] at h
    split at h
    · next v r =>
      cases hc : fm_c2 v with
      | true => rw [hc] at h; cases h
      | false =>
        rw [hc] at h
        cases h
        exact lv_dup hx hb hd (fm_c2_1 hc) (k H locs ls hP hS hl (fm_vd_st hv (List.forall_mem_cons.mpr ⟨hv.2.1 _ List.mem_cons_self, hv.2.1⟩)))
    · cases h
  case pop =>
    simp only [fm_stC] at h
    split at h
    · next v r =>
      cases hc : fm_c2 v with
      | true => rw [hc] at h; cases h
      | false =>
        rw [hc] at h
        cases h
        exact lv_pop hx hb hd (fm_c2_1 hc) (k H locs ls hP hS hl (fm_vd_st hv (fun w hw => hv.2.1 w (List.mem_cons_of_mem _ hw))))
    · cases h
  case dup_x1 =>
    simp only [fm_stC] at h
    split at h
    · next v w r =>
      cases hc : fm_c2 v with
      | true => rw [hc] at h; cases h
      | false =>
        cases hc' : fm_c2 w with
        | true => rw [hc, hc'] at h; cases h
        | false =>
          rw [hc, hc'] at h
          cases h
          exact lv_dup_x1 hx hb hd (fm_c2_1 hc) (fm_c2_1 hc') (k H locs ls hP hS hl (fm_vd_st hv (List.forall_mem_cons.mpr ⟨hv.2.1 _ List.mem_cons_self, List.forall_mem_cons.mpr ⟨hv.2.1 _ (List.mem_cons_of_mem _ List.mem_cons_self), List.forall_mem_cons.mpr ⟨hv.2.1 _ List.mem_cons_self, fun z hz => hv.2.1 z (List.mem_cons_of_mem _ (List.mem_cons_of_mem _ hz))⟩⟩⟩)))
    · cases h
  case dup2 =>
    simp only [fm_stC] at h
    split at h
    · next v w r =>
      cases hc : fm_c2 v with
      | true => rw [hc] at h; cases h
      | false =>
        cases hc' : fm_c2 w with
        | true => rw [hc, hc'] at h; cases h
        | false =>
          rw [hc, hc'] at h
          cases h
          exact lv_dup2_11 hx hb hd (fm_c2_1 hc) (fm_c2_1 hc') (k H locs ls hP hS hl (fm_vd_st hv (List.forall_mem_cons.mpr ⟨hv.2.1 _ List.mem_cons_self, List.forall_mem_cons.mpr ⟨hv.2.1 _ (List.mem_cons_of_mem _ List.mem_cons_self), hv.2.1⟩⟩)))
    · cases h
  case goto off =>
    simp only [fm_stC] at h
    split at h
    · next t ht =>
      cases h
      exact lv_goto hx hb hd ht (k H locs ls hP hS hl ⟨hv.1, hv.2.1, hv.2.2⟩)
    · cases h
  all_goals (simp only [fm_stC] at h; exact nomatch h)
end StC
end
section
/-! fields and array lengths -/
def fm_rt : FieldType → Bool
  | .object _ => true
  | .array _ => true
  | _ => false
theorem fm_rt_ok {ty : FieldType} (h : fm_rt ty = true) (a : Nat) : narrow ty (.ref a) = .ref a ∧ fits ty (.ref a) = true := by
  cases ty <;> first | (exact ⟨rfl, rfl⟩) | (cases h)
def fm_clp (ci : Nat) (C : String) (T : u_T) (N : Nat) (ty0 : Nat → FieldType) : Prop :=
  fm_cls[ci]? = some (C, T, N) ∧ fm_cls.getD ci ("", fm_T0, 0) = (C, T, N) ∧ N = fm_nf ci ∧ (∀ w ∈ u_ws C T N, w ∈ fm_TB) ∧ (∀ k, k < N → parseFieldDescriptor (T k).2.2.1 = some (ty0 k)) ∧ (∀ a, a < N → ∀ b, b < N → a ≠ b → (T a).2.1 ≠ (T b).2.1) ∧
  (∀ k, k < N → (T k).1 = C) ∧ (∀ k, k < N → (T k).2.2.2 = fm_fin ci k) ∧ (∀ k, k < N → fm_ft ci k = 0 → ty0 k = .int) ∧ (∀ k, k < N → fm_ft ci k = 1 → ty0 k = .boolean) ∧ (∀ k, k < N → fm_ft ci k = 2 → fm_rt (ty0 k) = true)
theorem fm_clo : ∀ ci, ci < 7 → ∃ C T N ty0, fm_clp ci C T N ty0
  | 0, _ => ⟨_, fm_T0, _, fm_y0, rfl, rfl, rfl, fm_in0, fm_ty0, fm_nm0, by decide +kernel, by decide +kernel, by decide +kernel, by decide +kernel, by decide +kernel⟩
  | 1, _ => ⟨_, fm_T1, _, fm_y1, rfl, rfl, rfl, fm_in1, fm_ty1, fm_nm1, by decide +kernel, by decide +kernel, by decide +kernel, by decide +kernel, by decide +kernel⟩
  | 2, _ => ⟨_, fm_T2, _, fm_y2, rfl, rfl, rfl, fm_in2, fm_ty2, fm_nm2, by decide +kernel, by decide +kernel, by decide +kernel, by decide +kernel, by decide +kernel⟩
  | 3, _ => ⟨_, fm_T3, _, fm_y3, rfl, rfl, rfl, fm_in3, fm_ty3, fm_nm3, by decide +kernel, by decide +kernel, by decide +kernel, by decide +kernel, by decide +kernel⟩
  | 4, _ => ⟨_, fm_T4, _, fm_y4, rfl, rfl, rfl, fm_in4, fm_ty4, fm_nm4, by decide +kernel, by decide +kernel, by decide +kernel, by decide +kernel, by decide +kernel⟩
  | 5, _ => ⟨_, fm_T5, _, fm_y5, rfl, rfl, rfl, fm_in5, fm_ty5, fm_nm5, by decide +kernel, by decide +kernel, by decide +kernel, by decide +kernel, by decide +kernel⟩
  | 6, _ => ⟨_, fm_T6, _, fm_y6, rfl, rfl, rfl, fm_in6, fm_ty6, fm_nm6, by decide +kernel, by decide +kernel, by decide +kernel, by decide +kernel, by decide +kernel⟩
  | n + 7, h => absurd h (by omega)
def fm_flo (oc : Nat) (fl : Nat → Option (Nat × Nat)) : Prop := ∀ ix f, fl ix = some f → f.1 < 7 ∧ f.2 < fm_nf f.1 ∧ Cond.fieldLink (fm_cn oc) ix (fm_cls.getD f.1 ("", fm_T0, 0)).1 ((fm_cls.getD f.1 ("", fm_T0, 0)).2.1 f.2).2.1 ((fm_cls.getD f.1 ("", fm_T0, 0)).2.1 f.2).2.2.1 ∈ fm_TB
def fm_is (k ci : Nat) : Bool := match fm_kc k with
  | some c => Nat.beq c ci && Nat.blt k 50
  | none => false
theorem fm_is_ok {k ci : Nat} (h : fm_is k ci = true) : fm_kc k = some ci ∧ k < 50 := by
  unfold fm_is at h
  split at h
  · next c hc =>
    simp only [Bool.and_eq_true] at h
    exact ⟨by rw [hc, Nat.eq_of_beq_eq_true h.1], Nat.le_of_ble_eq_true h.2⟩
  · cases h
theorem fm_ce_o {cA : Nat → ClassId} {ad : fm_A} {M : fm_M} {k i ci : Nat} (h : fm_kc k = some ci) : fm_ce cA ad M k i = .inr (ci, (List.range (fm_nf ci)).map (fm_fv ad M ci k i)) := by
  unfold fm_ce
  rw [h]
theorem fm_fs_at {ad : fm_A} {M : fm_M} {ci k i sl N : Nat} (h : sl < N) : ((List.range N).map (fm_fv ad M ci k i))[sl]? = some (fm_fv ad M ci k i sl) := by
  rw [List.getElem?_map, List.getElem?_range h]
  rfl
theorem fm_fs_set {ad : fm_A} {M M' : fm_M} {ci k i sl N : Nat} {v : Value} (h : sl < N) (hv : fm_fv ad M' ci k i sl = v) (ho : ∀ z, z ≠ sl → fm_fv ad M' ci k i z = fm_fv ad M ci k i z) : ((List.range N).map (fm_fv ad M ci k i)).set sl v = (List.range N).map (fm_fv ad M' ci k i) := by
  apply List.ext_getElem?
  intro n
  by_cases hn : n = sl
  · subst hn
    rw [List.getElem?_set_self (by simpa using h), fm_fs_at h, hv]
  · rw [List.getElem?_set_ne (Ne.symm hn), List.getElem?_map, List.getElem?_map]
    cases hz : (List.range N)[n]? with
    | none => rfl
    | some z =>
      have : z = n := by
        have h2 := List.getElem?_eq_some_iff.mp hz
        obtain ⟨h3, h4⟩ := h2
        rw [List.getElem_range] at h4
        exact h4.symm
      subst this
      simp only [Option.map_some]
      rw [ho z hn]
def fm_stG (fl : Nat → Option (Nat × Nat)) (ins : Instr) (pc : Nat) (l : List (Nat × fm_V)) (st : List fm_V) (M : fm_M) : Option fm_C :=
  match ins with
  | .getfield ix => match st with
    | .inr (.inr (.inr (.inr q))) :: r => match fl ix with
      | some f => cond (fm_is q.1 f.1) (some (pc + 3, l, cond (Nat.beq (fm_ft f.1 f.2) 2) (.inr (.inr (.inr (.inr (M.2.2.2 q.1 q.2 f.2))))) (.inl (M.1 q.1 q.2 f.2)) :: r, M)) none
      | none => none
    | _ => none
  | .putfield ix => match st with
    | .inl x :: .inr (.inr (.inr (.inr q))) :: r => match fl ix with
      | some f => cond (fm_is q.1 f.1 && (Nat.beq (fm_ft f.1 f.2) 0 && !fm_fin f.1 f.2)) (some (pc + 3, l, r, (fm_u M.1 q.1 q.2 f.2 x, M.2))) none
      | none => none
    | .inr (.inr (.inr (.inr w))) :: .inr (.inr (.inr (.inr q))) :: r => match fl ix with
      | some f => cond (fm_is q.1 f.1 && (Nat.beq (fm_ft f.1 f.2) 2 && !fm_fin f.1 f.2)) (some (pc + 3, l, r, (M.1, M.2.1, M.2.2.1, fm_u M.2.2.2 q.1 q.2 f.2 w))) none
      | none => none
    | _ => none
  | .arraylength => match st with
    | .inr (.inr (.inr (.inr q))) :: r => match fm_ka q.1 with
      | some t => cond (Nat.blt q.1 50 && Nat.blt t.1 6) (some (pc + 1, l, .inl (Int32.ofNat t.2) :: r, M)) none
      | none => none
    | _ => none
  | _ => none
theorem fm_kc_ka : ∀ k, k < 50 → fm_kc k = none ∨ fm_ka k = none := by decide +kernel
theorem fm_ce_a {cA : Nat → ClassId} {ad : fm_A} {M : fm_M} {k i : Nat} {t : Nat × Nat} (hk : k < 50) (h : fm_ka k = some t) : fm_ce cA ad M k i = .inl (cA t.1, t.2, fm_ar ad M t.1 k i) := by
  unfold fm_ce
  rcases fm_kc_ka k hk with h2 | h2
  · rw [h2, h]
  · rw [h2] at h
    cases h
theorem fm_tys_at {cA : Nat → ClassId} {t : Nat} (h : t < 6) : ∃ ty, (fm_tys cA)[t]? = some (cA t, ty) := by
  rcases (show t = 0 ∨ t = 1 ∨ t = 2 ∨ t = 3 ∨ t = 4 ∨ t = 5 by omega) with rfl | rfl | rfl | rfl | rfl | rfl <;> exact ⟨_, rfl⟩
section StG
variable {l : Launch} {D : va_G} {cA : Nat → ClassId} {ad : fm_A} {L : Nat} {xs : Nat → Int32} {oc : Nat} {cc : ByteArray} {nL : Nat} {p : Program} {e : Env} {R : Room} {s : State} {m : MethodId} {args : Array Value} {below : List Frame} {meth : Method} {c : Code} {A : Nat → Prop} {Q : State → Prop} {cells slots : Nat}
set_option maxHeartbeats 4000000 in
/-- a field written: the world and the pure memory go on together -/
theorem fm_putf (X : fm_cx l D cA ad L xs oc cc nL p s m args meth c A) {fl : Nat → Option (Nat × Nat)} (hfl : fm_flo oc fl) {ix : Nat} {q f : Nat × Nat} (hq : fm_is q.1 f.1 = true) (hf : fl ix = some f) (hfin : fm_fin f.1 f.2 = false) (hok : q.2 < fm_cnt q.1) {pc : Nat} {rest : List Value} {v : Value} {M M' : fm_M}
    (hty : ∀ ty0 : Nat → FieldType, (∀ k, k < fm_nf f.1 → fm_ft f.1 k = 0 → ty0 k = .int) → (∀ k, k < fm_nf f.1 → fm_ft f.1 k = 1 → ty0 k = .boolean) → (∀ k, k < fm_nf f.1 → fm_ft f.1 k = 2 → fm_rt (ty0 k) = true) → narrow (ty0 f.2) v = v ∧ fits (ty0 f.2) v = true)
    (hself : fm_fv ad M' f.1 q.1 q.2 f.2 = v) (hslots : ∀ z, z ≠ f.2 → fm_fv ad M' f.1 q.1 q.2 z = fm_fv ad M f.1 q.1 q.2 z) (hother : ∀ k' i', (k', i') ≠ (q.1, q.2) → fm_ce cA ad M' k' i' = fm_ce cA ad M k' i')
    (hd : decode cc pc = .ok (.putfield ix, 3)) {H : Heap} {locs : List Loc} {ls : Array Slot} (hP : va_P D fm_cls (fm_wl cA ad M) H) (hS : va_S A s.heap H locs)
    (k : ∀ (H1 : Heap) (locs1 : List Loc), va_P D fm_cls (fm_wl cA ad M') H1 → va_S A s.heap H1 locs1 → W p l e R s m args below meth c H1 locs1 cells slots Q (F0 m (pc + 3) ls rest)) :
    W p l e R s m args below meth c H locs cells slots Q (F0 m pc ls (v :: .ref (ad q.1 q.2) :: rest)) := by
  obtain ⟨hx, hb, -, hown, hts, hK, hD, -⟩ := X
  obtain ⟨h7, hsl, hlink⟩ := hfl ix f hf
  obtain ⟨C, T, N, ty0, hc, hgd, hN, hin, hty0, hnm, hC, hfi, t0, t1, t2⟩ := fm_clo f.1 h7
  obtain ⟨hkc, hk50⟩ := fm_is_ok hq
  obtain ⟨j, hj⟩ := fm_ki_at hk50 hok
  subst hN
  rw [hgd] at hlink
  have he : (fm_wl cA ad M)[j]? = some (ad q.1 q.2, .inr (f.1, (List.range (fm_nf f.1)).map (fm_fv ad M f.1 q.1 q.2))) := by rw [fm_wl_at hj, fm_ce_o hkc]
  obtain ⟨n1, n2⟩ := hty ty0 t0 t1 t2
  have hset := fm_wl_set (cA := cA) (ad := ad) (M := M) (M' := M') hj hother (e := .inr (f.1, (List.range (fm_nf f.1)).map (fm_fv ad M' f.1 q.1 q.2))) (fm_ce_o hkc)
  refine va_put (D := D) (cl := fm_cls) (ref := C) (C := C) (T := T) (N := fm_nf f.1) (ci := f.1) (Ts := fm_TB) hx hb hts hin ty0 hty0 hnm hown hK hP (hD M) hS j he hc f.2 hsl (hts _ hlink) (fun z hz => by rw [← hC f.2 hsl]; exact hz) (by rw [hfi f.2 hsl]; exact hfin) (hty0 f.2 hsl) n1 n2 (by simpa using hsl) hd (fun H1 locs1 hP1 hD1 hS1 => ?_)
  rw [fm_fs_set hsl hself hslots, hset] at hP1
  exact k H1 locs1 hP1 hS1
theorem fm_vd_mem {pc pc' : Nat} {l : List (Nat × fm_V)} {st st' : List fm_V} {M M' : fm_M} (h : fm_vd (pc, l, st, M)) (hs : ∀ w ∈ st', w ∈ st) (hm : fm_okM M') : fm_vd (pc', l, st', M') := ⟨h.1, fun w hw => h.2.1 w (hs w hw), hm⟩
set_option maxHeartbeats 4000000 in
theorem fm_soG (X : fm_cx l D cA ad L xs oc cc nL p s m args meth c A) {fl : Nat → Option (Nat × Nat)} (hfl : fm_flo oc fl) {ins : Instr} {pc : Nat} {lo : List (Nat × fm_V)} {st : List fm_V} {M : fm_M} {C' : fm_C} (hd : decode cc pc = .ok (ins, fm_ln ins)) (h : fm_stG fl ins pc lo st M = some C')
    (k : fm_ww l D cA ad nL p e R s m args below meth c A Q cells slots C') : fm_ww l D cA ad nL p e R s m args below meth c A Q cells slots (pc, lo, st, M) := by
  have X0 := X
  obtain ⟨hx, hb, -, hown, hts, hK, hD, -⟩ := X
  intro H locs ls hP hS hl hv
  cases ins
  case getfield ix =>
    simp only [fm_stG] at h
    split at h
    · next q r =>
      split at h
      · next f hf =>
        cases hq : fm_is q.1 f.1 with
        | false => rw [hq] at h; cases h
        | true =>
          rw [hq] at h
          cases h
          obtain ⟨h7, hsl, hlink⟩ := hfl ix f hf
          obtain ⟨C, T, N, ty0, hc, hgd, hN, hin, hty0, hnm, hC, hfi, t0, t1, t2⟩ := fm_clo f.1 h7
          obtain ⟨hkc, hk50⟩ := fm_is_ok hq
          obtain ⟨j, hj⟩ := fm_ki_at hk50 (hv.2.1 _ List.mem_cons_self)
          subst hN
          rw [hgd] at hlink
          have he : (fm_wl cA ad M)[j]? = some (ad q.1 q.2, .inr (f.1, (List.range (fm_nf f.1)).map (fm_fv ad M f.1 q.1 q.2))) := by rw [fm_wl_at hj, fm_ce_o hkc]
          refine va_get (D := D) (cl := fm_cls) (ref := C) (C := C) (T := T) (N := fm_nf f.1) (ci := f.1) (Ts := fm_TB) hx hb hts hin hown hK hP j he hc f.2 hsl (hts _ hlink) (fun z hz => by rw [← hC f.2 hsl]; exact hz) (v := fm_cv ad (cond (Nat.beq (fm_ft f.1 f.2) 2) (.inr (.inr (.inr (.inr (M.2.2.2 q.1 q.2 f.2))))) (.inl (M.1 q.1 q.2 f.2)))) ?_ hd ?_
          · rw [fm_fs_at hsl]
            unfold fm_fv
            cases Nat.beq (fm_ft f.1 f.2) 2 <;> rfl
          · refine k H locs ls hP hS hl (fm_vd_st hv (List.forall_mem_cons.mpr ⟨?_, fun w hw => hv.2.1 w (List.mem_cons_of_mem _ hw)⟩))
            cases Nat.beq (fm_ft f.1 f.2) 2
            · exact trivial
            · exact hv.2.2 _ _ _ hk50 (hv.2.1 _ List.mem_cons_self) (by unfold fm_sz; rw [hkc]; exact hsl)
      · cases h
    · cases h
  case putfield ix =>
    simp only [fm_stG] at h
    split at h
    · next x q r =>
      split at h
      · next f hf =>
        cases hq : fm_is q.1 f.1 with
        | false => rw [hq] at h; cases h
        | true =>
          cases hft : Nat.beq (fm_ft f.1 f.2) 0 with
          | false => rw [hq, hft] at h; cases h
          | true =>
            cases hfin : fm_fin f.1 f.2 with
            | true => rw [hq, hft, hfin] at h; cases h
            | false =>
              rw [hq, hft, hfin] at h
              cases h
              have hft' : fm_ft f.1 f.2 = 0 := Nat.eq_of_beq_eq_true hft
              have hsl := (hfl ix f hf).2.1
              refine fm_putf (M' := (fm_u M.1 q.1 q.2 f.2 x, M.2)) X0 hfl hq hf hfin (hv.2.1 _ (List.mem_cons_of_mem _ List.mem_cons_self)) (fun ty0 t0 _ _ => by rw [t0 f.2 hsl hft']; exact ⟨rfl, rfl⟩) ?_ ?_ ?_ hd hP hS ?_
              · unfold fm_fv
                rw [hft']
                simp [fm_u_if, fm_cv]
                rfl
              · intro z hz
                unfold fm_fv
                simp [fm_u_if, hz]
              · intro k' i' hne
                exact fm_ce_congr (fun _ => fm_u_ne hne) (fun _ => rfl) (fun _ => rfl) (fun _ => rfl)
              · intro H1 locs1 hP1 hS1
                exact k H1 locs1 ls hP1 hS1 hl (fm_vd_mem hv (fun w hw => List.mem_cons_of_mem _ (List.mem_cons_of_mem _ hw)) hv.2.2)
      · cases h
    · next w q r =>
      split at h
      · next f hf =>
        cases hq : fm_is q.1 f.1 with
        | false => rw [hq] at h; cases h
        | true =>
          cases hft : Nat.beq (fm_ft f.1 f.2) 2 with
          | false => rw [hq, hft] at h; cases h
          | true =>
            cases hfin : fm_fin f.1 f.2 with
            | true => rw [hq, hft, hfin] at h; cases h
            | false =>
              rw [hq, hft, hfin] at h
              cases h
              have hft' : fm_ft f.1 f.2 = 2 := Nat.eq_of_beq_eq_true hft
              have hsl := (hfl ix f hf).2.1
              refine fm_putf (M' := (M.1, M.2.1, M.2.2.1, fm_u M.2.2.2 q.1 q.2 f.2 w)) X0 hfl hq hf hfin (hv.2.1 _ (List.mem_cons_of_mem _ List.mem_cons_self)) (fun ty0 _ _ t2 => fm_rt_ok (t2 f.2 hsl hft') _) ?_ ?_ ?_ hd hP hS ?_
              · unfold fm_fv
                rw [hft']
                simp [fm_u_if]
              · intro z hz
                unfold fm_fv
                simp [fm_u_if, hz]
              · intro k' i' hne
                exact fm_ce_congr (fun _ => rfl) (fun _ => rfl) (fun _ => rfl) (fun _ => fm_u_ne hne)
              · intro H1 locs1 hP1 hS1
                refine k H1 locs1 ls hP1 hS1 hl (fm_vd_mem hv (fun w hw => List.mem_cons_of_mem _ (List.mem_cons_of_mem _ hw)) ?_)
                intro k' i' s' z1 z2 z3
                show ((fm_u M.2.2.2 q.1 q.2 f.2 w) k' i' s').2 < fm_cnt ((fm_u M.2.2.2 q.1 q.2 f.2 w) k' i' s').1
                rw [fm_u_if]
                split
                · exact hv.2.1 _ List.mem_cons_self
                · exact hv.2.2 _ _ _ z1 z2 z3
      · cases h
    · cases h
  case arraylength =>
    simp only [fm_stG] at h
    split at h
    · next q r =>
      split at h
      · next t ht =>
        cases h50 : Nat.blt q.1 50 with
        | false => rw [h50] at h; cases h
        | true =>
          cases h6 : Nat.blt t.1 6 with
          | false => rw [h50, h6] at h; cases h
          | true =>
            rw [h50, h6] at h
            cases h
            have hk50 : q.1 < 50 := Nat.le_of_ble_eq_true h50
            obtain ⟨j, hj⟩ := fm_ki_at hk50 (hv.2.1 _ List.mem_cons_self)
            obtain ⟨ty, hty⟩ := fm_tys_at (cA := cA) (Nat.le_of_ble_eq_true h6)
            have he : (fm_wl cA ad M)[j]? = some (ad q.1 q.2, .inl (cA t.1, t.2, fm_ar ad M t.1 q.1 q.2)) := by rw [fm_wl_at hj, fm_ce_a hk50 ht]
            exact va_alen hx hb hK hP j t.1 he hty rfl hd (k H locs ls hP hS hl (fm_vd_st hv (List.forall_mem_cons.mpr ⟨trivial, fun w hw => hv.2.1 w (List.mem_cons_of_mem _ hw)⟩)))
      · cases h
    · cases h
  all_goals (simp only [fm_stG] at h; exact nomatch h)
end StG
end
section
theorem fm_sz_a {k : Nat} {t : Nat × Nat} (hk : k < 50) (h : fm_ka k = some t) : fm_sz k = t.2 := by
  unfold fm_sz
  rcases fm_kc_ka k hk with z | z
  · rw [z, h]
  · rw [z] at h; cases h
/-! instructions that go on only where something holds: divisors, no NaN, indices -/
def fm_gdA (ins : Instr) (pc : Nat) (l : List (Nat × fm_V)) (st : List fm_V) (M : fm_M) : Option (Prop × fm_C) :=
  match ins with
  | .idiv => match st with
    | .inl y :: .inl x :: r => some (¬ y = 0, (pc + 1, l, .inl (x / y) :: r, M))
    | _ => none
  | .irem => match st with
    | .inl y :: .inl x :: r => some (¬ y = 0, (pc + 1, l, .inl (x - x / y * y) :: r, M))
    | _ => none
  | .ldiv => match st with
    | .inr (.inl y) :: .inr (.inl x) :: r => some (¬ y = 0, (pc + 1, l, .inr (.inl (x / y)) :: r, M))
    | _ => none
  | .lrem => match st with
    | .inr (.inl y) :: .inr (.inl x) :: r => some (¬ y = 0, (pc + 1, l, .inr (.inl (x - x / y * y)) :: r, M))
    | _ => none
  | .dadd => match st with
    | .inr (.inr (.inr (.inl y))) :: .inr (.inr (.inr (.inl x))) :: r => some (vf_n64 (FP.dadd x y), (pc + 1, l, .inr (.inr (.inr (.inl (FP.dadd x y)))) :: r, M))
    | _ => none
  | .fadd => match st with
    | .inr (.inr (.inl y)) :: .inr (.inr (.inl x)) :: r => some (vf_n32 (FP.fadd x y), (pc + 1, l, .inr (.inr (.inl (FP.fadd x y))) :: r, M))
    | _ => none
  | .dsub => match st with
    | .inr (.inr (.inr (.inl y))) :: .inr (.inr (.inr (.inl x))) :: r => some (vf_n64 (FP.dsub x y), (pc + 1, l, .inr (.inr (.inr (.inl (FP.dsub x y)))) :: r, M))
    | _ => none
  | .fsub => match st with
    | .inr (.inr (.inl y)) :: .inr (.inr (.inl x)) :: r => some (vf_n32 (FP.fsub x y), (pc + 1, l, .inr (.inr (.inl (FP.fsub x y))) :: r, M))
    | _ => none
  | .dmul => match st with
    | .inr (.inr (.inr (.inl y))) :: .inr (.inr (.inr (.inl x))) :: r => some (vf_n64 (FP.dmul x y), (pc + 1, l, .inr (.inr (.inr (.inl (FP.dmul x y)))) :: r, M))
    | _ => none
  | .fmul => match st with
    | .inr (.inr (.inl y)) :: .inr (.inr (.inl x)) :: r => some (vf_n32 (FP.fmul x y), (pc + 1, l, .inr (.inr (.inl (FP.fmul x y))) :: r, M))
    | _ => none
  | .ddiv => match st with
    | .inr (.inr (.inr (.inl y))) :: .inr (.inr (.inr (.inl x))) :: r => some (vf_n64 (FP.ddiv x y), (pc + 1, l, .inr (.inr (.inr (.inl (FP.ddiv x y)))) :: r, M))
    | _ => none
  | .fdiv => match st with
    | .inr (.inr (.inl y)) :: .inr (.inr (.inl x)) :: r => some (vf_n32 (FP.fdiv x y), (pc + 1, l, .inr (.inr (.inl (FP.fdiv x y))) :: r, M))
    | _ => none
  | .f2d => match st with
    | .inr (.inr (.inl x)) :: r => some (vf_n64 (FP.f2d x), (pc + 1, l, .inr (.inr (.inr (.inl (FP.f2d x)))) :: r, M))
    | _ => none
  | .d2f => match st with
    | .inr (.inr (.inr (.inl x))) :: r => some (vf_n32 (FP.d2f x), (pc + 1, l, .inr (.inr (.inl (FP.d2f x))) :: r, M))
    | _ => none
  | _ => none
section GdA
variable {l : Launch} {D : va_G} {cA : Nat → ClassId} {ad : fm_A} {L : Nat} {xs : Nat → Int32} {oc : Nat} {cc : ByteArray} {nL : Nat} {p : Program} {e : Env} {R : Room} {s : State} {m : MethodId} {args : Array Value} {below : List Frame} {meth : Method} {c : Code} {A : Nat → Prop} {Q : State → Prop} {cells slots : Nat}
set_option maxHeartbeats 4000000 in
theorem fm_goA (X : fm_cx l D cA ad L xs oc cc nL p s m args meth c A) {ins : Instr} {pc : Nat} {lo : List (Nat × fm_V)} {st : List fm_V} {M : fm_M} {g : Prop × fm_C} (hd : decode cc pc = .ok (ins, fm_ln ins)) (h : fm_gdA ins pc lo st M = some g) (hg : g.1)
    (k : fm_ww l D cA ad nL p e R s m args below meth c A Q cells slots g.2) : fm_ww l D cA ad nL p e R s m args below meth c A Q cells slots (pc, lo, st, M) := by
  obtain ⟨hx, hb, -, hown, hts, -⟩ := X
  intro H locs ls hP hS hl hv
  cases ins
  case idiv =>
    simp only [fm_gdA] at h
    split at h
    · next y x r =>
      cases h
      exact lv_idiv hx hb hd hg (k H locs ls hP hS hl (fm_vd_st hv (List.forall_mem_cons.mpr ⟨trivial, fun w hw => hv.2.1 w (List.mem_cons_of_mem _ (List.mem_cons_of_mem _ hw))⟩)))
    · cases h
  case irem =>
    simp only [fm_gdA] at h
    split at h
    · next y x r =>
      cases h
      exact lv_irem hx hb hd hg (k H locs ls hP hS hl (fm_vd_st hv (List.forall_mem_cons.mpr ⟨trivial, fun w hw => hv.2.1 w (List.mem_cons_of_mem _ (List.mem_cons_of_mem _ hw))⟩)))
    · cases h
  case ldiv =>
    simp only [fm_gdA] at h
    split at h
    · next y x r =>
      cases h
      exact lv_ldiv hx hb hd hg (k H locs ls hP hS hl (fm_vd_st hv (List.forall_mem_cons.mpr ⟨trivial, fun w hw => hv.2.1 w (List.mem_cons_of_mem _ (List.mem_cons_of_mem _ hw))⟩)))
    · cases h
  case lrem =>
    simp only [fm_gdA] at h
    split at h
    · next y x r =>
      cases h
      exact lv_lrem hx hb hd hg (k H locs ls hP hS hl (fm_vd_st hv (List.forall_mem_cons.mpr ⟨trivial, fun w hw => hv.2.1 w (List.mem_cons_of_mem _ (List.mem_cons_of_mem _ hw))⟩)))
    · cases h
  case dadd =>
    simp only [fm_gdA] at h
    split at h
    · next y x r =>
      cases h
      exact lv_dadd hx hb hd hg (k H locs ls hP hS hl (fm_vd_st hv (List.forall_mem_cons.mpr ⟨trivial, fun w hw => hv.2.1 w (List.mem_cons_of_mem _ (List.mem_cons_of_mem _ hw))⟩)))
    · cases h
  case fadd =>
    simp only [fm_gdA] at h
    split at h
    · next y x r =>
      cases h
      exact lv_fadd hx hb hd hg (k H locs ls hP hS hl (fm_vd_st hv (List.forall_mem_cons.mpr ⟨trivial, fun w hw => hv.2.1 w (List.mem_cons_of_mem _ (List.mem_cons_of_mem _ hw))⟩)))
    · cases h
  case dsub =>
    simp only [fm_gdA] at h
    split at h
    · next y x r =>
      cases h
      exact lv_dsub hx hb hd hg (k H locs ls hP hS hl (fm_vd_st hv (List.forall_mem_cons.mpr ⟨trivial, fun w hw => hv.2.1 w (List.mem_cons_of_mem _ (List.mem_cons_of_mem _ hw))⟩)))
    · cases h
  case fsub =>
    simp only [fm_gdA] at h
    split at h
    · next y x r =>
      cases h
      exact lv_fsub hx hb hd hg (k H locs ls hP hS hl (fm_vd_st hv (List.forall_mem_cons.mpr ⟨trivial, fun w hw => hv.2.1 w (List.mem_cons_of_mem _ (List.mem_cons_of_mem _ hw))⟩)))
    · cases h
  case dmul =>
    simp only [fm_gdA] at h
    split at h
    · next y x r =>
      cases h
      exact lv_dmul hx hb hd hg (k H locs ls hP hS hl (fm_vd_st hv (List.forall_mem_cons.mpr ⟨trivial, fun w hw => hv.2.1 w (List.mem_cons_of_mem _ (List.mem_cons_of_mem _ hw))⟩)))
    · cases h
  case fmul =>
    simp only [fm_gdA] at h
    split at h
    · next y x r =>
      cases h
      exact lv_fmul hx hb hd hg (k H locs ls hP hS hl (fm_vd_st hv (List.forall_mem_cons.mpr ⟨trivial, fun w hw => hv.2.1 w (List.mem_cons_of_mem _ (List.mem_cons_of_mem _ hw))⟩)))
    · cases h
  case ddiv =>
    simp only [fm_gdA] at h
    split at h
    · next y x r =>
      cases h
      exact lv_ddiv hx hb hd hg (k H locs ls hP hS hl (fm_vd_st hv (List.forall_mem_cons.mpr ⟨trivial, fun w hw => hv.2.1 w (List.mem_cons_of_mem _ (List.mem_cons_of_mem _ hw))⟩)))
    · cases h
  case fdiv =>
    simp only [fm_gdA] at h
    split at h
    · next y x r =>
      cases h
      exact lv_fdiv hx hb hd hg (k H locs ls hP hS hl (fm_vd_st hv (List.forall_mem_cons.mpr ⟨trivial, fun w hw => hv.2.1 w (List.mem_cons_of_mem _ (List.mem_cons_of_mem _ hw))⟩)))
    · cases h
  case f2d =>
    simp only [fm_gdA] at h
    split at h
    · next x r =>
      cases h
      exact lv_f2d hx hb hd hg (k H locs ls hP hS hl (fm_vd_st hv (List.forall_mem_cons.mpr ⟨trivial, fun w hw => hv.2.1 w (List.mem_cons_of_mem _ hw)⟩)))
    · cases h
  case d2f =>
    simp only [fm_gdA] at h
    split at h
    · next x r =>
      cases h
      exact lv_d2f hx hb hd hg (k H locs ls hP hS hl (fm_vd_st hv (List.forall_mem_cons.mpr ⟨trivial, fun w hw => hv.2.1 w (List.mem_cons_of_mem _ hw)⟩)))
    · cases h
  all_goals (simp only [fm_gdA] at h; exact nomatch h)
end GdA
/-! arrays -/
def fm_gdB (ins : Instr) (pc : Nat) (l : List (Nat × fm_V)) (st : List fm_V) (M : fm_M) : Option (Prop × fm_C) :=
  match ins with
  | .iaload => match st with
    | .inl j :: .inr (.inr (.inr (.inr q))) :: r => match fm_ka q.1 with
      | some t => cond (Nat.blt q.1 50 && Nat.beq t.1 0) (some (vp_in j t.2, (pc + 1, l, .inl (M.1 q.1 q.2 j.toNatClampNeg) :: r, M))) none
      | none => none
    | _ => none
  | .baload => match st with
    | .inl j :: .inr (.inr (.inr (.inr q))) :: r => match fm_ka q.1 with
      | some t => cond (Nat.blt q.1 50 && Nat.beq t.1 3) (some (vp_in j t.2, (pc + 1, l, .inl (M.1 q.1 q.2 j.toNatClampNeg) :: r, M))) none
      | none => none
    | _ => none
  | .laload => match st with
    | .inl j :: .inr (.inr (.inr (.inr q))) :: r => match fm_ka q.1 with
      | some t => cond (Nat.blt q.1 50 && Nat.beq t.1 1) (some (vp_in j t.2, (pc + 1, l, .inr (.inl (M.2.1 q.1 q.2 j.toNatClampNeg)) :: r, M))) none
      | none => none
    | _ => none
  | .daload => match st with
    | .inl j :: .inr (.inr (.inr (.inr q))) :: r => match fm_ka q.1 with
      | some t => cond (Nat.blt q.1 50 && Nat.beq t.1 2) (some (vp_in j t.2, (pc + 1, l, .inr (.inr (.inr (.inl (M.2.2.1 q.1 q.2 j.toNatClampNeg)))) :: r, M))) none
      | none => none
    | _ => none
  | .aaload => match st with
    | .inl j :: .inr (.inr (.inr (.inr q))) :: r => match fm_ka q.1 with
      | some t => cond (Nat.blt q.1 50 && (Nat.beq t.1 4 || Nat.beq t.1 5)) (some (vp_in j t.2, (pc + 1, l, .inr (.inr (.inr (.inr (M.2.2.2 q.1 q.2 j.toNatClampNeg)))) :: r, M))) none
      | none => none
    | _ => none
  | .iastore => match st with
    | .inl x :: .inl j :: .inr (.inr (.inr (.inr q))) :: r => match fm_ka q.1 with
      | some t => cond (Nat.blt q.1 50 && Nat.beq t.1 0) (some (vp_in j t.2, (pc + 1, l, r, (fm_u M.1 q.1 q.2 j.toNatClampNeg x, M.2)))) none
      | none => none
    | _ => none
  | .bastore => match st with
    | .inl x :: .inl j :: .inr (.inr (.inr (.inr q))) :: r => match fm_ka q.1 with
      | some t => cond (Nat.blt q.1 50 && Nat.beq t.1 3) (some (vp_in j t.2 ∧ (x = 0 ∨ x = 1), (pc + 1, l, r, (fm_u M.1 q.1 q.2 j.toNatClampNeg x, M.2)))) none
      | none => none
    | _ => none
  | .lastore => match st with
    | .inr (.inl x) :: .inl j :: .inr (.inr (.inr (.inr q))) :: r => match fm_ka q.1 with
      | some t => cond (Nat.blt q.1 50 && Nat.beq t.1 1) (some (vp_in j t.2, (pc + 1, l, r, (M.1, fm_u M.2.1 q.1 q.2 j.toNatClampNeg x, M.2.2)))) none
      | none => none
    | _ => none
  | .dastore => match st with
    | .inr (.inr (.inr (.inl x))) :: .inl j :: .inr (.inr (.inr (.inr q))) :: r => match fm_ka q.1 with
      | some t => cond (Nat.blt q.1 50 && Nat.beq t.1 2) (some (vp_in j t.2, (pc + 1, l, r, (M.1, M.2.1, fm_u M.2.2.1 q.1 q.2 j.toNatClampNeg x, M.2.2.2)))) none
      | none => none
    | _ => none
  | _ => none
theorem fm_bb {x : Int32} (h : x = 0 ∨ x = 1) : vp_nar .boolean x = x := by
  rcases h with rfl | rfl <;> decide
section GdB
variable {l : Launch} {D : va_G} {cA : Nat → ClassId} {ad : fm_A} {L : Nat} {xs : Nat → Int32} {oc : Nat} {cc : ByteArray} {nL : Nat} {p : Program} {e : Env} {R : Room} {s : State} {m : MethodId} {args : Array Value} {below : List Frame} {meth : Method} {c : Code} {A : Nat → Prop} {Q : State → Prop} {cells slots : Nat}
set_option maxHeartbeats 4000000 in
theorem fm_goB (X : fm_cx l D cA ad L xs oc cc nL p s m args meth c A) {ins : Instr} {pc : Nat} {lo : List (Nat × fm_V)} {st : List fm_V} {M : fm_M} {g : Prop × fm_C} (hd : decode cc pc = .ok (ins, fm_ln ins)) (h : fm_gdB ins pc lo st M = some g) (hg : g.1)
    (k : fm_ww l D cA ad nL p e R s m args below meth c A Q cells slots g.2) : fm_ww l D cA ad nL p e R s m args below meth c A Q cells slots (pc, lo, st, M) := by
  obtain ⟨hx, hb, -, hown, hts, hK, hD, -⟩ := X
  intro H locs ls hP hS hl hv
  cases ins
  case iaload =>
    simp only [fm_gdB] at h
    split at h
    · next j q r =>
      split at h
      · next t ht =>
        cases h50 : Nat.blt q.1 50 with
        | false => rw [h50] at h; cases h
        | true =>
          cases h6 : Nat.beq t.1 0 with
          | false => rw [h50, h6] at h; cases h
          | true =>
            rw [h50, h6] at h
            cases h
            have hk50 : q.1 < 50 := Nat.le_of_ble_eq_true h50
            obtain ⟨i, hj⟩ := fm_ki_at hk50 (hv.2.1 _ (List.mem_cons_of_mem _ List.mem_cons_self))
            obtain ⟨t1, t2⟩ := t
            have e6 : t1 = 0 := Nat.eq_of_beq_eq_true h6
            subst e6
            have he : (fm_wl cA ad M)[i]? = some (ad q.1 q.2, .inl (cA 0, t2, fm_ar ad M 0 q.1 q.2)) := by rw [fm_wl_at hj, fm_ce_a hk50 ht]
            exact va_iald hx hb hK hP i 0 he rfl hg hd (k H locs ls hP hS hl (fm_vd_st hv (List.forall_mem_cons.mpr ⟨trivial, fun w hw => hv.2.1 w (List.mem_cons_of_mem _ (List.mem_cons_of_mem _ hw))⟩)))
      · cases h
    · cases h
  case baload =>
    simp only [fm_gdB] at h
    split at h
    · next j q r =>
      split at h
      · next t ht =>
        cases h50 : Nat.blt q.1 50 with
        | false => rw [h50] at h; cases h
        | true =>
          cases h6 : Nat.beq t.1 3 with
          | false => rw [h50, h6] at h; cases h
          | true =>
            rw [h50, h6] at h
            cases h
            have hk50 : q.1 < 50 := Nat.le_of_ble_eq_true h50
            obtain ⟨i, hj⟩ := fm_ki_at hk50 (hv.2.1 _ (List.mem_cons_of_mem _ List.mem_cons_self))
            obtain ⟨t1, t2⟩ := t
            have e6 : t1 = 3 := Nat.eq_of_beq_eq_true h6
            subst e6
            have he : (fm_wl cA ad M)[i]? = some (ad q.1 q.2, .inl (cA 3, t2, fm_ar ad M 3 q.1 q.2)) := by rw [fm_wl_at hj, fm_ce_a hk50 ht]
            exact va_zald hx hb hK hP i 3 he rfl hg hd (k H locs ls hP hS hl (fm_vd_st hv (List.forall_mem_cons.mpr ⟨trivial, fun w hw => hv.2.1 w (List.mem_cons_of_mem _ (List.mem_cons_of_mem _ hw))⟩)))
      · cases h
    · cases h
  case laload =>
    simp only [fm_gdB] at h
    split at h
    · next j q r =>
      split at h
      · next t ht =>
        cases h50 : Nat.blt q.1 50 with
        | false => rw [h50] at h; cases h
        | true =>
          cases h6 : Nat.beq t.1 1 with
          | false => rw [h50, h6] at h; cases h
          | true =>
            rw [h50, h6] at h
            cases h
            have hk50 : q.1 < 50 := Nat.le_of_ble_eq_true h50
            obtain ⟨i, hj⟩ := fm_ki_at hk50 (hv.2.1 _ (List.mem_cons_of_mem _ List.mem_cons_self))
            obtain ⟨t1, t2⟩ := t
            have e6 : t1 = 1 := Nat.eq_of_beq_eq_true h6
            subst e6
            have he : (fm_wl cA ad M)[i]? = some (ad q.1 q.2, .inl (cA 1, t2, fm_ar ad M 1 q.1 q.2)) := by rw [fm_wl_at hj, fm_ce_a hk50 ht]
            exact va_lald hx hb hK hP i 1 he rfl hg hd (k H locs ls hP hS hl (fm_vd_st hv (List.forall_mem_cons.mpr ⟨trivial, fun w hw => hv.2.1 w (List.mem_cons_of_mem _ (List.mem_cons_of_mem _ hw))⟩)))
      · cases h
    · cases h
  case daload =>
    simp only [fm_gdB] at h
    split at h
    · next j q r =>
      split at h
      · next t ht =>
        cases h50 : Nat.blt q.1 50 with
        | false => rw [h50] at h; cases h
        | true =>
          cases h6 : Nat.beq t.1 2 with
          | false => rw [h50, h6] at h; cases h
          | true =>
            rw [h50, h6] at h
            cases h
            have hk50 : q.1 < 50 := Nat.le_of_ble_eq_true h50
            obtain ⟨i, hj⟩ := fm_ki_at hk50 (hv.2.1 _ (List.mem_cons_of_mem _ List.mem_cons_self))
            obtain ⟨t1, t2⟩ := t
            have e6 : t1 = 2 := Nat.eq_of_beq_eq_true h6
            subst e6
            have he : (fm_wl cA ad M)[i]? = some (ad q.1 q.2, .inl (cA 2, t2, fm_ar ad M 2 q.1 q.2)) := by rw [fm_wl_at hj, fm_ce_a hk50 ht]
            exact va_dald hx hb hK hP i 2 he rfl hg hd (k H locs ls hP hS hl (fm_vd_st hv (List.forall_mem_cons.mpr ⟨trivial, fun w hw => hv.2.1 w (List.mem_cons_of_mem _ (List.mem_cons_of_mem _ hw))⟩)))
      · cases h
    · cases h
  case aaload =>
    simp only [fm_gdB] at h
    split at h
    · next j q r =>
      split at h
      · next t ht =>
        cases h50 : Nat.blt q.1 50 with
        | false => rw [h50] at h; cases h
        | true =>
          have hk50 : q.1 < 50 := Nat.le_of_ble_eq_true h50
          obtain ⟨i, hj⟩ := fm_ki_at hk50 (hv.2.1 _ (List.mem_cons_of_mem _ List.mem_cons_self))
          obtain ⟨t1, t2⟩ := t
          cases h6 : Nat.beq t1 4 with
          | true =>
            rw [h50, h6] at h
            cases h
            have e6 : t1 = 4 := Nat.eq_of_beq_eq_true h6
            subst e6
            have he : (fm_wl cA ad M)[i]? = some (ad q.1 q.2, .inl (cA 4, t2, fm_ar ad M 4 q.1 q.2)) := by rw [fm_wl_at hj, fm_ce_a hk50 ht]
            exact va_aldq hx hb hK hP i 4 he rfl hg hd (k H locs ls hP hS hl (fm_vd_st hv (List.forall_mem_cons.mpr ⟨hv.2.2 _ _ _ hk50 (hv.2.1 _ (List.mem_cons_of_mem _ List.mem_cons_self)) (by rw [fm_sz_a hk50 ht]; exact Nat.not_le.mp (fun y => hg (Or.inr y))), fun w hw => hv.2.1 w (List.mem_cons_of_mem _ (List.mem_cons_of_mem _ hw))⟩)))
          | false =>
            cases h7 : Nat.beq t1 5 with
            | false => rw [h50, h6, h7] at h; cases h
            | true =>
              rw [h50, h6, h7] at h
              cases h
              have e6 : t1 = 5 := Nat.eq_of_beq_eq_true h7
              subst e6
              have he : (fm_wl cA ad M)[i]? = some (ad q.1 q.2, .inl (cA 5, t2, fm_ar ad M 5 q.1 q.2)) := by rw [fm_wl_at hj, fm_ce_a hk50 ht]
              exact va_aldq hx hb hK hP i 5 he rfl hg hd (k H locs ls hP hS hl (fm_vd_st hv (List.forall_mem_cons.mpr ⟨hv.2.2 _ _ _ hk50 (hv.2.1 _ (List.mem_cons_of_mem _ List.mem_cons_self)) (by rw [fm_sz_a hk50 ht]; exact Nat.not_le.mp (fun y => hg (Or.inr y))), fun w hw => hv.2.1 w (List.mem_cons_of_mem _ (List.mem_cons_of_mem _ hw))⟩)))
      · cases h
    · cases h
  case iastore =>
    simp only [fm_gdB] at h
    split at h
    · next x j q r =>
      split at h
      · next t ht =>
        cases h50 : Nat.blt q.1 50 with
        | false => rw [h50] at h; cases h
        | true =>
          cases h6 : Nat.beq t.1 0 with
          | false => rw [h50, h6] at h; cases h
          | true =>
            rw [h50, h6] at h
            cases h
            have hk50 : q.1 < 50 := Nat.le_of_ble_eq_true h50
            obtain ⟨i, hj⟩ := fm_ki_at hk50 (hv.2.1 _ (List.mem_cons_of_mem _ (List.mem_cons_of_mem _ List.mem_cons_self)))
            obtain ⟨t1, t2⟩ := t
            have e6 : t1 = 0 := Nat.eq_of_beq_eq_true h6
            subst e6
            have he : (fm_wl cA ad M)[i]? = some (ad q.1 q.2, .inl (cA 0, t2, fm_ar ad M 0 q.1 q.2)) := by rw [fm_wl_at hj, fm_ce_a hk50 ht]
            refine va_iast hx hb hK hP (hD M) hS i 0 he rfl hg hd (fun H1 locs1 hP1 hD1 hS1 => ?_)
            have hset := fm_wl_set (cA := cA) (ad := ad) (M := M) (M' := (fm_u M.1 q.1 q.2 j.toNatClampNeg x, M.2)) hj (fun k' i' hne => fm_ce_congr (fun _ => fm_u_ne hne) (fun _ => rfl) (fun _ => rfl) (fun _ => rfl)) (e := .inl (cA 0, t2, .inl (upd (fun z => M.1 q.1 q.2 z) j.toNatClampNeg x))) (by
              rw [fm_ce_a hk50 ht]
              have ef : (fun z => fm_u M.1 q.1 q.2 j.toNatClampNeg x q.1 q.2 z) = upd (fun z => M.1 q.1 q.2 z) j.toNatClampNeg x := by
                funext z
                simp only [fm_u_if, upd, true_and]
              show (Sum.inl (cA 0, t2, .inl (fun z => fm_u M.1 q.1 q.2 j.toNatClampNeg x q.1 q.2 z)) : va_E) = _
              rw [ef])
            have hP2 : va_P D fm_cls (fm_wl cA ad (fm_u M.1 q.1 q.2 j.toNatClampNeg x, M.2)) H1 := by rw [← hset]; exact hP1
            exact k H1 locs1 ls hP2 hS1 hl (fm_vd_mem hv (fun w hw => List.mem_cons_of_mem _ (List.mem_cons_of_mem _ (List.mem_cons_of_mem _ hw))) hv.2.2)
      · cases h
    · cases h
  case bastore =>
    simp only [fm_gdB] at h
    split at h
    · next x j q r =>
      split at h
      · next t ht =>
        cases h50 : Nat.blt q.1 50 with
        | false => rw [h50] at h; cases h
        | true =>
          cases h6 : Nat.beq t.1 3 with
          | false => rw [h50, h6] at h; cases h
          | true =>
            rw [h50, h6] at h
            cases h
            have hk50 : q.1 < 50 := Nat.le_of_ble_eq_true h50
            obtain ⟨i, hj⟩ := fm_ki_at hk50 (hv.2.1 _ (List.mem_cons_of_mem _ (List.mem_cons_of_mem _ List.mem_cons_self)))
            obtain ⟨t1, t2⟩ := t
            have e6 : t1 = 3 := Nat.eq_of_beq_eq_true h6
            subst e6
            have he : (fm_wl cA ad M)[i]? = some (ad q.1 q.2, .inl (cA 3, t2, fm_ar ad M 3 q.1 q.2)) := by rw [fm_wl_at hj, fm_ce_a hk50 ht]
            refine va_zast hx hb hK hP (hD M) hS i 3 he rfl hg.1 hd (fun H1 locs1 hP1 hD1 hS1 => ?_)
            rw [fm_bb hg.2] at hP1
            have hset := fm_wl_set (cA := cA) (ad := ad) (M := M) (M' := (fm_u M.1 q.1 q.2 j.toNatClampNeg x, M.2)) hj (fun k' i' hne => fm_ce_congr (fun _ => fm_u_ne hne) (fun _ => rfl) (fun _ => rfl) (fun _ => rfl)) (e := .inl (cA 3, t2, .inl (upd (fun z => M.1 q.1 q.2 z) j.toNatClampNeg x))) (by
              rw [fm_ce_a hk50 ht]
              have ef : (fun z => fm_u M.1 q.1 q.2 j.toNatClampNeg x q.1 q.2 z) = upd (fun z => M.1 q.1 q.2 z) j.toNatClampNeg x := by
                funext z
                simp only [fm_u_if, upd, true_and]
              show (Sum.inl (cA 3, t2, .inl (fun z => fm_u M.1 q.1 q.2 j.toNatClampNeg x q.1 q.2 z)) : va_E) = _
              rw [ef])
            have hP2 : va_P D fm_cls (fm_wl cA ad (fm_u M.1 q.1 q.2 j.toNatClampNeg x, M.2)) H1 := by rw [← hset]; exact hP1
            exact k H1 locs1 ls hP2 hS1 hl (fm_vd_mem hv (fun w hw => List.mem_cons_of_mem _ (List.mem_cons_of_mem _ (List.mem_cons_of_mem _ hw))) hv.2.2)
      · cases h
    · cases h
  case lastore =>
    simp only [fm_gdB] at h
    split at h
    · next x j q r =>
      split at h
      · next t ht =>
        cases h50 : Nat.blt q.1 50 with
        | false => rw [h50] at h; cases h
        | true =>
          cases h6 : Nat.beq t.1 1 with
          | false => rw [h50, h6] at h; cases h
          | true =>
            rw [h50, h6] at h
            cases h
            have hk50 : q.1 < 50 := Nat.le_of_ble_eq_true h50
            obtain ⟨i, hj⟩ := fm_ki_at hk50 (hv.2.1 _ (List.mem_cons_of_mem _ (List.mem_cons_of_mem _ List.mem_cons_self)))
            obtain ⟨t1, t2⟩ := t
            have e6 : t1 = 1 := Nat.eq_of_beq_eq_true h6
            subst e6
            have he : (fm_wl cA ad M)[i]? = some (ad q.1 q.2, .inl (cA 1, t2, fm_ar ad M 1 q.1 q.2)) := by rw [fm_wl_at hj, fm_ce_a hk50 ht]
            refine va_last hx hb hK hP (hD M) hS i 1 he rfl hg hd (fun H1 locs1 hP1 hD1 hS1 => ?_)
            have hset := fm_wl_set (cA := cA) (ad := ad) (M := M) (M' := (M.1, fm_u M.2.1 q.1 q.2 j.toNatClampNeg x, M.2.2)) hj (fun k' i' hne => fm_ce_congr (fun _ => rfl) (fun _ => fm_u_ne hne) (fun _ => rfl) (fun _ => rfl)) (e := .inl (cA 1, t2, .inr (.inl (vp_updL (fun z => M.2.1 q.1 q.2 z) j.toNatClampNeg x)))) (by
              rw [fm_ce_a hk50 ht]
              have ef : (fun z => fm_u M.2.1 q.1 q.2 j.toNatClampNeg x q.1 q.2 z) = vp_updL (fun z => M.2.1 q.1 q.2 z) j.toNatClampNeg x := by
                funext z
                simp only [fm_u_if, vp_updL, true_and]
              show (Sum.inl (cA 1, t2, .inr (.inl (fun z => fm_u M.2.1 q.1 q.2 j.toNatClampNeg x q.1 q.2 z))) : va_E) = _
              rw [ef])
            have hP2 : va_P D fm_cls (fm_wl cA ad (M.1, fm_u M.2.1 q.1 q.2 j.toNatClampNeg x, M.2.2)) H1 := by rw [← hset]; exact hP1
            exact k H1 locs1 ls hP2 hS1 hl (fm_vd_mem hv (fun w hw => List.mem_cons_of_mem _ (List.mem_cons_of_mem _ (List.mem_cons_of_mem _ hw))) hv.2.2)
      · cases h
    · cases h
  case dastore =>
    simp only [fm_gdB] at h
    split at h
    · next x j q r =>
      split at h
      · next t ht =>
        cases h50 : Nat.blt q.1 50 with
        | false => rw [h50] at h; cases h
        | true =>
          cases h6 : Nat.beq t.1 2 with
          | false => rw [h50, h6] at h; cases h
          | true =>
            rw [h50, h6] at h
            cases h
            have hk50 : q.1 < 50 := Nat.le_of_ble_eq_true h50
            obtain ⟨i, hj⟩ := fm_ki_at hk50 (hv.2.1 _ (List.mem_cons_of_mem _ (List.mem_cons_of_mem _ List.mem_cons_self)))
            obtain ⟨t1, t2⟩ := t
            have e6 : t1 = 2 := Nat.eq_of_beq_eq_true h6
            subst e6
            have he : (fm_wl cA ad M)[i]? = some (ad q.1 q.2, .inl (cA 2, t2, fm_ar ad M 2 q.1 q.2)) := by rw [fm_wl_at hj, fm_ce_a hk50 ht]
            refine va_dast hx hb hK hP (hD M) hS i 2 he rfl hg hd (fun H1 locs1 hP1 hD1 hS1 => ?_)
            have hset := fm_wl_set (cA := cA) (ad := ad) (M := M) (M' := (M.1, M.2.1, fm_u M.2.2.1 q.1 q.2 j.toNatClampNeg x, M.2.2.2)) hj (fun k' i' hne => fm_ce_congr (fun _ => rfl) (fun _ => rfl) (fun _ => fm_u_ne hne) (fun _ => rfl)) (e := .inl (cA 2, t2, .inr (.inr (.inr (.inl (vf_upd (fun z => M.2.2.1 q.1 q.2 z) j.toNatClampNeg x)))))) (by
              rw [fm_ce_a hk50 ht]
              have ef : (fun z => fm_u M.2.2.1 q.1 q.2 j.toNatClampNeg x q.1 q.2 z) = vf_upd (fun z => M.2.2.1 q.1 q.2 z) j.toNatClampNeg x := by
                funext z
                simp only [fm_u_if, vf_upd, true_and]
              show (Sum.inl (cA 2, t2, .inr (.inr (.inr (.inl (fun z => fm_u M.2.2.1 q.1 q.2 j.toNatClampNeg x q.1 q.2 z))))) : va_E) = _
              rw [ef])
            have hP2 : va_P D fm_cls (fm_wl cA ad (M.1, M.2.1, fm_u M.2.2.1 q.1 q.2 j.toNatClampNeg x, M.2.2.2)) H1 := by rw [← hset]; exact hP1
            exact k H1 locs1 ls hP2 hS1 hl (fm_vd_mem hv (fun w hw => List.mem_cons_of_mem _ (List.mem_cons_of_mem _ (List.mem_cons_of_mem _ hw))) hv.2.2)
      · cases h
    · cases h
  all_goals (simp only [fm_gdB] at h; exact nomatch h)
end GdB
end
section
/-! a boolean field; the script; branches; switches -/
def fm_gdC (fl : Nat → Option (Nat × Nat)) (ins : Instr) (pc : Nat) (l : List (Nat × fm_V)) (st : List fm_V) (M : fm_M) : Option (Prop × fm_C) :=
  match ins with
  | .putfield ix => match st with
    | .inl x :: .inr (.inr (.inr (.inr q))) :: r => match fl ix with
      | some f => cond (fm_is q.1 f.1 && (Nat.beq (fm_ft f.1 f.2) 1 && !fm_fin f.1 f.2)) (some (x = 0 ∨ x = 1, (pc + 3, l, r, (fm_u M.1 q.1 q.2 f.2 x, M.2)))) none
      | none => none
    | _ => none
  | _ => none
theorem fm_bz {x : Int32} (h : x = 0 ∨ x = 1) : narrow .boolean (.int x) = .int x ∧ fits .boolean (.int x) = true := by
  rcases h with rfl | rfl <;> decide
section GdC
variable {l : Launch} {D : va_G} {cA : Nat → ClassId} {ad : fm_A} {L : Nat} {xs : Nat → Int32} {oc : Nat} {cc : ByteArray} {nL : Nat} {p : Program} {e : Env} {R : Room} {s : State} {m : MethodId} {args : Array Value} {below : List Frame} {meth : Method} {c : Code} {A : Nat → Prop} {Q : State → Prop} {cells slots : Nat}
set_option maxHeartbeats 4000000 in
theorem fm_goC (X : fm_cx l D cA ad L xs oc cc nL p s m args meth c A) {fl : Nat → Option (Nat × Nat)} (hfl : fm_flo oc fl) {ins : Instr} {pc : Nat} {lo : List (Nat × fm_V)} {st : List fm_V} {M : fm_M} {g : Prop × fm_C} (hd : decode cc pc = .ok (ins, fm_ln ins)) (h : fm_gdC fl ins pc lo st M = some g) (hg : g.1)
    (k : fm_ww l D cA ad nL p e R s m args below meth c A Q cells slots g.2) : fm_ww l D cA ad nL p e R s m args below meth c A Q cells slots (pc, lo, st, M) := by
  intro H locs ls hP hS hl hv
  cases ins
  case putfield ix =>
    simp only [fm_gdC] at h
    split at h
    · next x q r =>
      split at h
      · next f hf =>
        cases hq : fm_is q.1 f.1 with
        | false => rw [hq] at h; cases h
        | true =>
          cases hft : Nat.beq (fm_ft f.1 f.2) 1 with
          | false => rw [hq, hft] at h; cases h
          | true =>
            cases hfin : fm_fin f.1 f.2 with
            | true => rw [hq, hft, hfin] at h; cases h
            | false =>
              rw [hq, hft, hfin] at h
              cases h
              have hft' : fm_ft f.1 f.2 = 1 := Nat.eq_of_beq_eq_true hft
              have hsl := (hfl ix f hf).2.1
              refine fm_putf (M' := (fm_u M.1 q.1 q.2 f.2 x, M.2)) X hfl hq hf hfin (hv.2.1 _ (List.mem_cons_of_mem _ List.mem_cons_self)) (fun ty0 _ t1 _ => by rw [t1 f.2 hsl hft']; exact fm_bz hg) ?_ ?_ ?_ hd hP hS ?_
              · unfold fm_fv
                rw [hft']
                simp [fm_u_if, fm_cv]
                rfl
              · intro z hz
                unfold fm_fv
                simp [fm_u_if, hz]
              · intro k' i' hne
                exact fm_ce_congr (fun _ => fm_u_ne hne) (fun _ => rfl) (fun _ => rfl) (fun _ => rfl)
              · intro H1 locs1 hP1 hS1
                exact k H1 locs1 ls hP1 hS1 hl (fm_vd_mem hv (fun w hw => List.mem_cons_of_mem _ (List.mem_cons_of_mem _ hw)) hv.2.2)
      · cases h
    · cases h
  all_goals (simp only [fm_gdC] at h; exact nomatch h)
end GdC
def fm_tg (pc : Nat) (off : Int) : Option Nat := match (pc : Int) + off with
  | .ofNat t => some t
  | .negSucc _ => none
theorem fm_tg_ok {pc t : Nat} {off : Int} (h : fm_tg pc off = some t) : (pc : Int) + off = (t : Int) := by
  unfold fm_tg at h
  split at h
  · next t' ht => cases h; exact ht
  · cases h
def fm_br (ins : Instr) (pc : Nat) (l : List (Nat × fm_V)) (st : List fm_V) (M : fm_M) : Option (Prop × fm_C × fm_C) :=
  match ins with
  | .ifCond o off => match st with
    | .inl x :: r => match fm_tg pc off with
      | some t => match o with
        | .eq => some (x = 0, (t, l, r, M), (pc + 3, l, r, M))
        | .ne => some (x = 0, (pc + 3, l, r, M), (t, l, r, M))
        | .lt => some (x < 0, (t, l, r, M), (pc + 3, l, r, M))
        | .ge => some (0 ≤ x, (t, l, r, M), (pc + 3, l, r, M))
        | .gt => some (0 < x, (t, l, r, M), (pc + 3, l, r, M))
        | .le => some (x ≤ 0, (t, l, r, M), (pc + 3, l, r, M))
      | none => none
    | _ => none
  | .if_icmp o off => match st with
    | .inl y :: .inl x :: r => match fm_tg pc off with
      | some t => match o with
        | .eq => some (x = y, (t, l, r, M), (pc + 3, l, r, M))
        | .ne => some (x = y, (pc + 3, l, r, M), (t, l, r, M))
        | .lt => some (x < y, (t, l, r, M), (pc + 3, l, r, M))
        | .ge => some (y ≤ x, (t, l, r, M), (pc + 3, l, r, M))
        | .gt => some (y < x, (t, l, r, M), (pc + 3, l, r, M))
        | .le => some (x ≤ y, (t, l, r, M), (pc + 3, l, r, M))
      | none => none
    | _ => none
  | _ => none
section Br
variable {l : Launch} {D : va_G} {cA : Nat → ClassId} {ad : fm_A} {L : Nat} {xs : Nat → Int32} {oc : Nat} {cc : ByteArray} {nL : Nat} {p : Program} {e : Env} {R : Room} {s : State} {m : MethodId} {args : Array Value} {below : List Frame} {meth : Method} {c : Code} {A : Nat → Prop} {Q : State → Prop} {cells slots : Nat}
set_option maxHeartbeats 4000000 in
theorem fm_bro (X : fm_cx l D cA ad L xs oc cc nL p s m args meth c A) {ins : Instr} {pc : Nat} {lo : List (Nat × fm_V)} {st : List fm_V} {M : fm_M} {g : Prop × fm_C × fm_C} (hd : decode cc pc = .ok (ins, fm_ln ins)) (h : fm_br ins pc lo st M = some g)
    (kt : g.1 → fm_ww l D cA ad nL p e R s m args below meth c A Q cells slots g.2.1) (kf : ¬ g.1 → fm_ww l D cA ad nL p e R s m args below meth c A Q cells slots g.2.2) : fm_ww l D cA ad nL p e R s m args below meth c A Q cells slots (pc, lo, st, M) := by
  obtain ⟨hx, hb, -, hown, hts, hK, hD, -⟩ := X
  intro H locs ls hP hS hl hv
  cases ins
  case ifCond o off =>
    simp only [fm_br] at h
    split at h
    · next x r =>
      split at h
      · next t ht =>
        have v1 : fm_vd (t, lo, r, M) := ⟨hv.1, fun w hw => hv.2.1 w (List.mem_cons_of_mem _ hw), hv.2.2⟩
        have v2 : fm_vd (pc + 3, lo, r, M) := ⟨hv.1, fun w hw => hv.2.1 w (List.mem_cons_of_mem _ hw), hv.2.2⟩
        have ht := fm_tg_ok ht
        cases o <;> cases h
        · exact lv_if_eq hx hb hd ht (fun q => kt q H locs ls hP hS hl v1) (fun q => kf q H locs ls hP hS hl v2)
        · exact lv_if_ne hx hb hd ht (fun q => kf q H locs ls hP hS hl v1) (fun q => kt q H locs ls hP hS hl v2)
        · exact lv_if_lt hx hb hd ht (fun q => kt q H locs ls hP hS hl v1) (fun q => kf q H locs ls hP hS hl v2)
        · exact lv_if_ge hx hb hd ht (fun q => kt q H locs ls hP hS hl v1) (fun q => kf q H locs ls hP hS hl v2)
        · exact lv_if_gt hx hb hd ht (fun q => kt q H locs ls hP hS hl v1) (fun q => kf q H locs ls hP hS hl v2)
        · exact lv_if_le hx hb hd ht (fun q => kt q H locs ls hP hS hl v1) (fun q => kf q H locs ls hP hS hl v2)
      · cases h
    · cases h
  case if_icmp o off =>
    simp only [fm_br] at h
    split at h
    · next y x r =>
      split at h
      · next t ht =>
        have v1 : fm_vd (t, lo, r, M) := ⟨hv.1, fun w hw => hv.2.1 w (List.mem_cons_of_mem _ (List.mem_cons_of_mem _ hw)), hv.2.2⟩
        have v2 : fm_vd (pc + 3, lo, r, M) := ⟨hv.1, fun w hw => hv.2.1 w (List.mem_cons_of_mem _ (List.mem_cons_of_mem _ hw)), hv.2.2⟩
        have ht := fm_tg_ok ht
        cases o <;> cases h
        · exact lv_icmp_eq hx hb hd ht (fun q => kt q H locs ls hP hS hl v1) (fun q => kf q H locs ls hP hS hl v2)
        · exact lv_icmp_ne hx hb hd ht (fun q => kf q H locs ls hP hS hl v1) (fun q => kt q H locs ls hP hS hl v2)
        · exact lv_icmp_lt hx hb hd ht (fun q => kt q H locs ls hP hS hl v1) (fun q => kf q H locs ls hP hS hl v2)
        · exact lv_icmp_ge hx hb hd ht (fun q => kt q H locs ls hP hS hl v1) (fun q => kf q H locs ls hP hS hl v2)
        · exact lv_icmp_gt hx hb hd ht (fun q => kt q H locs ls hP hS hl v1) (fun q => kf q H locs ls hP hS hl v2)
        · exact lv_icmp_le hx hb hd ht (fun q => kt q H locs ls hP hS hl v1) (fun q => kf q H locs ls hP hS hl v2)
      · cases h
    · cases h
  all_goals (simp only [fm_br] at h; exact nomatch h)
/-- where a switch goes at the value v -/
def fm_sw (v : Int) (ins : Instr) (pc : Nat) (l : List (Nat × fm_V)) (st : List fm_V) (M : fm_M) : Option (Prop × fm_C) :=
  match ins with
  | .tableswitch d lo hi offs => match st with
    | .inl x :: r => match fm_tg pc (cond (decide (v < lo) || decide (hi < v)) d (offs.getD (v - lo).toNat d)) with
      | some t => cond (decide (v < lo) || decide (hi < v) || decide ((v - lo).toNat < offs.size)) (some (x.toInt = v, (t, l, r, M))) none
      | none => none
    | _ => none
  | _ => none
/-- a switch whose value lies outside -/
def fm_so (ins : Instr) (pc : Nat) (l : List (Nat × fm_V)) (st : List fm_V) (M : fm_M) : Option (Prop × fm_C) :=
  match ins with
  | .tableswitch d lo hi _ => match st with
    | .inl x :: r => match fm_tg pc d with
      | some t => some (x.toInt < lo ∨ hi < x.toInt, (t, l, r, M))
      | none => none
    | _ => none
  | _ => none
set_option maxHeartbeats 4000000 in
theorem fm_swo (X : fm_cx l D cA ad L xs oc cc nL p s m args meth c A) {v : Int} {ins : Instr} {pc len : Nat} {lo : List (Nat × fm_V)} {st : List fm_V} {M : fm_M} {g : Prop × fm_C} (hd : decode cc pc = .ok (ins, len)) (h : fm_sw v ins pc lo st M = some g) (hg : g.1)
    (k : fm_ww l D cA ad nL p e R s m args below meth c A Q cells slots g.2) : fm_ww l D cA ad nL p e R s m args below meth c A Q cells slots (pc, lo, st, M) := by
  obtain ⟨hx, hb, -, hown, hts, hK, hD, -⟩ := X
  intro H locs ls hP hS hl hv
  cases ins
  case tableswitch d lw hi offs =>
    simp only [fm_sw] at h
    split at h
    · next x r =>
      split at h
      · next t ht =>
        have ht := fm_tg_ok ht
        cases hc : (decide (v < lw) || decide (hi < v)) with
        | true =>
          rw [hc] at h ht
          simp only [Bool.true_or, cond_true] at h ht
          cases h
          refine lv_tableOut hx hb hd ?_ ht (k H locs ls hP hS hl ⟨hv.1, fun w hw => hv.2.1 w (List.mem_cons_of_mem _ hw), hv.2.2⟩)
          have hg : x.toInt = v := hg
          rw [hg]
          simpa using hc
        | false =>
          rw [hc] at h ht
          simp only [Bool.false_or, cond_false] at h ht
          cases hs : decide ((v - lw).toNat < offs.size) with
          | false => rw [hs] at h; cases h
          | true =>
            rw [hs] at h
            cases h
            have hg : x.toInt = v := hg
            simp only [Bool.or_eq_false_iff, decide_eq_false_iff_not] at hc
            have hs' : (v - lw).toNat < offs.size := of_decide_eq_true hs
            refine lv_tableIn hx hb hd (by rw [hg]; exact hc.1) (by rw [hg]; exact hc.2) (off := offs.getD (v - lw).toNat d) ?_ ht (k H locs ls hP hS hl ⟨hv.1, fun w hw => hv.2.1 w (List.mem_cons_of_mem _ hw), hv.2.2⟩)
            rw [hg, Array.getD_eq_getD_getElem?, Array.getElem?_eq_getElem hs']
            rfl
      · cases h
    · cases h
  all_goals (simp only [fm_sw] at h; exact nomatch h)
set_option maxHeartbeats 4000000 in
theorem fm_soo (X : fm_cx l D cA ad L xs oc cc nL p s m args meth c A) {ins : Instr} {pc len : Nat} {lo : List (Nat × fm_V)} {st : List fm_V} {M : fm_M} {g : Prop × fm_C} (hd : decode cc pc = .ok (ins, len)) (h : fm_so ins pc lo st M = some g) (hg : g.1)
    (k : fm_ww l D cA ad nL p e R s m args below meth c A Q cells slots g.2) : fm_ww l D cA ad nL p e R s m args below meth c A Q cells slots (pc, lo, st, M) := by
  obtain ⟨hx, hb, -, hown, hts, hK, hD, -⟩ := X
  intro H locs ls hP hS hl hv
  cases ins
  case tableswitch d lw hi offs =>
    simp only [fm_so] at h
    split at h
    · next x r =>
      split at h
      · next t ht =>
        cases h
        exact lv_tableOut hx hb hd hg (fm_tg_ok ht) (k H locs ls hP hS hl ⟨hv.1, fun w hw => hv.2.1 w (List.mem_cons_of_mem _ hw), hv.2.2⟩)
      · cases h
    · cases h
  all_goals (simp only [fm_so] at h; exact nomatch h)
/-- the script's ints, and its length -/
def fm_gdS (L : Nat) (xs : Nat → Int32) (ins : Instr) (pc : Nat) (l : List (Nat × fm_V)) (st : List fm_V) (M : fm_M) : Option (Prop × fm_C) :=
  match ins with
  | .iaload => match st with
    | .inl j :: .inr (.inr (.inr (.inr (50, 0)))) :: r => some (vp_in j L, (pc + 1, l, .inl (xs j.toNatClampNeg) :: r, M))
    | _ => none
  | .arraylength => match st with
    | .inr (.inr (.inr (.inr (50, 0)))) :: r => some (True, (pc + 1, l, .inl (nI L) :: r, M))
    | _ => none
  | _ => none
set_option maxHeartbeats 4000000 in
theorem fm_goS (X : fm_cx l D cA ad L xs oc cc nL p s m args meth c A) {ins : Instr} {pc : Nat} {lo : List (Nat × fm_V)} {st : List fm_V} {M : fm_M} {g : Prop × fm_C} (hd : decode cc pc = .ok (ins, fm_ln ins)) (h : fm_gdS L xs ins pc lo st M = some g) (hg : g.1)
    (k : fm_ww l D cA ad nL p e R s m args below meth c A Q cells slots g.2) : fm_ww l D cA ad nL p e R s m args below meth c A Q cells slots (pc, lo, st, M) := by
  obtain ⟨hx, hb, -, hown, hts, hK, hD, -, ⟨hX, hbl, hbA⟩, -⟩ := X
  intro H locs ls hP hS hl hv
  cases ins
  case iaload =>
    simp only [fm_gdS] at h
    split at h
    · next j r =>
      cases h
      exact va_sld hx hb hX hbl hbA hS hg hd (k H locs ls hP hS hl (fm_vd_st hv (List.forall_mem_cons.mpr ⟨trivial, fun w hw => hv.2.1 w (List.mem_cons_of_mem _ (List.mem_cons_of_mem _ hw))⟩)))
    · cases h
  case arraylength =>
    simp only [fm_gdS] at h
    split at h
    · next r =>
      cases h
      exact va_slen hx hb hX hbl hbA hS hd (k H locs ls hP hS hl (fm_vd_st hv (List.forall_mem_cons.mpr ⟨trivial, fun w hw => hv.2.1 w (List.mem_cons_of_mem _ hw)⟩)))
    · cases h
  all_goals (simp only [fm_gdS] at h; exact nomatch h)
end Br
end
section
/-! A METHOD AS DATA; the machine's walk as a judgement over pure configurations -/
/-- name, code, locals, answer's type, class, field links, instructions -/
abbrev fm_Me : Type := MethodName × ByteArray × Nat × Option FieldType × Nat × (Nat → Option (Nat × Nat)) × (Nat → Option Instr)
/-- launch, tables' numbers, array classes, addresses, the script's length and ints -/
abbrev fm_Ev : Type := Launch × va_G × (Nat → ClassId) × fm_A × Nat × (Nat → Int32)
def fm_isw : Instr → Bool
  | .tableswitch .. => true
  | .lookupswitch .. => true
  | _ => false
def fm_dc (cc : ByteArray) (ins : Nat → Option Instr) : Prop := ∀ pc i, ins pc = some i → ∃ len, decode cc pc = .ok (i, len) ∧ (fm_isw i = false → len = fm_ln i)
def fm_mo (u : fm_Me) : Prop := fm_flo u.2.2.2.2.1 u.2.2.2.2.2.1 ∧ fm_dc u.2.1 u.2.2.2.2.2.2
def fm_mok (u : fm_Me) : Prop := fm_mo u ∧ Cond.code u.1 u.2.1 u.2.2.1 u.2.2.2.1 ∈ fm_TB ∧ Cond.initialized u.1.cls ∈ fm_TB ∧ u.1.cls = fm_cn u.2.2.2.2.1 ∧ plainName u.1.cls = true ∧ u.2.2.1 ≤ 22
def fm_stp (u : fm_Me) (C : fm_C) : Option fm_C :=
  match u.2.2.2.2.2.2 C.1 with
  | none => none
  | some i => cond (fm_isw i) none (match fm_stA u.2.2.2.2.1 i C.1 C.2.1 C.2.2.1 C.2.2.2 with
    | some x => some x
    | none => match fm_stG u.2.2.2.2.2.1 i C.1 C.2.1 C.2.2.1 C.2.2.2 with
      | some x => some x
      | none => match fm_stC i C.1 C.2.1 C.2.2.1 C.2.2.2 with
        | some x => some x
        | none => fm_stB u.2.2.1 i C.1 C.2.1 C.2.2.1 C.2.2.2)
def fm_run (u : fm_Me) : Nat → fm_C → Option fm_C
  | 0, C => some C
  | n + 1, C => match fm_stp u C with
    | some x => fm_run u n x
    | none => none
def fm_gd (u : fm_Me) (C : fm_C) : Option (Prop × fm_C) :=
  match u.2.2.2.2.2.2 C.1 with
  | none => none
  | some i => cond (fm_isw i) none (match fm_gdA i C.1 C.2.1 C.2.2.1 C.2.2.2 with
    | some x => some x
    | none => match fm_gdB i C.1 C.2.1 C.2.2.1 C.2.2.2 with
      | some x => some x
      | none => fm_gdC u.2.2.2.2.2.1 i C.1 C.2.1 C.2.2.1 C.2.2.2)
def fm_brr (u : fm_Me) (C : fm_C) : Option (Prop × fm_C × fm_C) :=
  match u.2.2.2.2.2.2 C.1 with
  | none => none
  | some i => cond (fm_isw i) none (fm_br i C.1 C.2.1 C.2.2.1 C.2.2.2)
def fm_sww (u : fm_Me) (v : Int) (C : fm_C) : Option (Prop × fm_C) :=
  match u.2.2.2.2.2.2 C.1 with
  | none => none
  | some i => fm_sw v i C.1 C.2.1 C.2.2.1 C.2.2.2
def fm_swd (u : fm_Me) (C : fm_C) : Option (Prop × fm_C) :=
  match u.2.2.2.2.2.2 C.1 with
  | none => none
  | some i => fm_so i C.1 C.2.1 C.2.2.1 C.2.2.2
def fm_gss (L : Nat) (xs : Nat → Int32) (u : fm_Me) (C : fm_C) : Option (Prop × fm_C) :=
  match u.2.2.2.2.2.2 C.1 with
  | none => none
  | some i => cond (fm_isw i) none (fm_gdS L xs i C.1 C.2.1 C.2.2.1 C.2.2.2)
def fm_Aw (ad : fm_A) (sz : Nat) : Nat → Prop := fun q => (∃ k i, k < 50 ∧ i < fm_cnt k ∧ q = ad k i) ∨ sz ≤ q
/-- from the configuration C on the method comes to its end Z, with n new exceptions on the way, d frames deep at the most -/
def fm_Go (E : fm_Ev) (d : Nat) (u : fm_Me) (n : Nat) (C : fm_C) (Z : (Nat → Prop) → List Frame → Array Value → State → Nat → Nat → State → Prop) : Prop :=
  ∀ (p : Program) (e : Env) (R : Room) (s : State) (m : MethodId) (args : Array Value) (below : List Frame) (meth : Method) (c : Code) (A : Nat → Prop) (cells slots : Nat),
    fm_cx E.1 E.2.1 E.2.2.1 E.2.2.2.1 E.2.2.2.2.1 E.2.2.2.2.2 u.2.2.2.2.1 u.2.1 u.2.2.1 p s m args meth c A → meth.sig.returnType = u.2.2.2.1 → (∀ q, fm_Aw E.2.2.2.1 s.heap.size q → A q) → d ≤ R.frames → 41 * d ≤ R.locals → cells + n ≤ R.cells → slots + 6 * n ≤ R.slots →
    fm_ww E.1 E.2.1 E.2.2.1 E.2.2.2.1 u.2.2.1 p e R s m args below meth c A (Z A below args s (cells + n) (slots + 6 * n)) cells slots C
section Rules
variable {E : fm_Ev} {d n : Nat} {u : fm_Me} {C : fm_C} {Z : (Nat → Prop) → List Frame → Array Value → State → Nat → Nat → State → Prop}
theorem fm_g1 (O : fm_mo u) {C' : fm_C} (h : fm_stp u C = some C') (k : fm_Go E d u n C' Z) : fm_Go E d u n C Z := by
  intro p e R s m args below meth c A cells slots X hr hA h1 h2 h3 h4
  have kk := k p e R s m args below meth c A cells slots X hr hA h1 h2 h3 h4
  obtain ⟨pc, lo, st, M⟩ := C
  unfold fm_stp at h
  split at h
  · cases h
  · next i hi =>
    obtain ⟨len, hd, hln⟩ := O.2 pc i hi
    cases hw : fm_isw i with
    | true => rw [hw] at h; cases h
    | false =>
      rw [hw] at h
      rw [hln hw] at hd
      simp only [cond_false] at h
      split at h
      · next x hx =>
        cases h
        exact fm_soA X hd hx kk
      · split at h
        · next x hx =>
          cases h
          exact fm_soG X O.1 hd hx kk
        · split at h
          · next x hx =>
            cases h
            exact fm_soC X hd hx kk
          · exact fm_soB X hd h kk
theorem fm_gr (O : fm_mo u) : ∀ (j : Nat) {C C' : fm_C}, fm_run u j C = some C' → fm_Go E d u n C' Z → fm_Go E d u n C Z
  | 0, C, C', h, k => by cases h; exact k
  | j + 1, C, C', h, k => by
    unfold fm_run at h
    split at h
    · next x hx => exact fm_g1 O hx (fm_gr O j h k)
    · cases h
theorem fm_gg (O : fm_mo u) {g : Prop × fm_C} (h : fm_gd u C = some g) (hg : g.1) (k : fm_Go E d u n g.2 Z) : fm_Go E d u n C Z := by
  intro p e R s m args below meth c A cells slots X hr hA h1 h2 h3 h4
  have kk := k p e R s m args below meth c A cells slots X hr hA h1 h2 h3 h4
  obtain ⟨pc, lo, st, M⟩ := C
  unfold fm_gd at h
  split at h
  · cases h
  · next i hi =>
    obtain ⟨len, hd, hln⟩ := O.2 pc i hi
    cases hw : fm_isw i with
    | true => rw [hw] at h; cases h
    | false =>
      rw [hw] at h
      rw [hln hw] at hd
      simp only [cond_false] at h
      split at h
      · next x hx =>
        cases h
        exact fm_goA X hd hx hg kk
      · split at h
        · next x hx =>
          cases h
          exact fm_goB X hd hx hg kk
        · exact fm_goC X O.1 hd h hg kk
theorem fm_gb (O : fm_mo u) {g : Prop × fm_C × fm_C} (h : fm_brr u C = some g) (kt : g.1 → fm_Go E d u n g.2.1 Z) (kf : ¬ g.1 → fm_Go E d u n g.2.2 Z) : fm_Go E d u n C Z := by
  intro p e R s m args below meth c A cells slots X hr hA h1 h2 h3 h4
  obtain ⟨pc, lo, st, M⟩ := C
  unfold fm_brr at h
  split at h
  · cases h
  · next i hi =>
    obtain ⟨len, hd, hln⟩ := O.2 pc i hi
    cases hw : fm_isw i with
    | true => rw [hw] at h; cases h
    | false =>
      rw [hw] at h
      rw [hln hw] at hd
      exact fm_bro X hd h (fun q => kt q p e R s m args below meth c A cells slots X hr hA h1 h2 h3 h4) (fun q => kf q p e R s m args below meth c A cells slots X hr hA h1 h2 h3 h4)
theorem fm_gs (O : fm_mo u) (v : Int) {g : Prop × fm_C} (h : fm_sww u v C = some g) (hg : g.1) (k : fm_Go E d u n g.2 Z) : fm_Go E d u n C Z := by
  intro p e R s m args below meth c A cells slots X hr hA h1 h2 h3 h4
  have kk := k p e R s m args below meth c A cells slots X hr hA h1 h2 h3 h4
  obtain ⟨pc, lo, st, M⟩ := C
  unfold fm_sww at h
  split at h
  · cases h
  · next i hi =>
    obtain ⟨len, hd, hln⟩ := O.2 pc i hi
    exact fm_swo X hd h hg kk
theorem fm_gt (O : fm_mo u) {g : Prop × fm_C} (h : fm_swd u C = some g) (hg : g.1) (k : fm_Go E d u n g.2 Z) : fm_Go E d u n C Z := by
  intro p e R s m args below meth c A cells slots X hr hA h1 h2 h3 h4
  have kk := k p e R s m args below meth c A cells slots X hr hA h1 h2 h3 h4
  obtain ⟨pc, lo, st, M⟩ := C
  unfold fm_swd at h
  split at h
  · cases h
  · next i hi =>
    obtain ⟨len, hd, hln⟩ := O.2 pc i hi
    exact fm_soo X hd h hg kk
theorem fm_gx (O : fm_mo u) {g : Prop × fm_C} (h : fm_gss E.2.2.2.2.1 E.2.2.2.2.2 u C = some g) (hg : g.1) (k : fm_Go E d u n g.2 Z) : fm_Go E d u n C Z := by
  intro p e R s m args below meth c A cells slots X hr hA h1 h2 h3 h4
  have kk := k p e R s m args below meth c A cells slots X hr hA h1 h2 h3 h4
  obtain ⟨pc, lo, st, M⟩ := C
  unfold fm_gss at h
  split at h
  · cases h
  · next i hi =>
    obtain ⟨len, hd, hln⟩ := O.2 pc i hi
    cases hw : fm_isw i with
    | true => rw [hw] at h; cases h
    | false =>
      rw [hw] at h
      rw [hln hw] at hd
      exact fm_goS X hd h hg kk
/-- at the end: it has returned v, with the memory M' -/
def fm_Q (E : fm_Ev) (A : Nat → Prop) (v : Option fm_V) (M' : fm_M) : Array Value → State → Outcome → State → Prop := fun _ st o t =>
  o = .returned (v.map (fm_cv E.2.2.2.1)) ∧ va_P E.2.1 fm_cls (fm_wl E.2.2.1 E.2.2.2.1 M') t.heap ∧ va_F A st t ∧ (∀ w ∈ v, fm_ok w) ∧ fm_okM M'
abbrev fm_Zr (E : fm_Ev) (v : Option fm_V) (M' : fm_M) : (Nat → Prop) → List Frame → Array Value → State → Nat → Nat → State → Prop := fun A below args s cells slots => MQ below (fm_Q E A v M') args s cells slots A
/-- the method returns -/
def fm_rt? (u : fm_Me) (C : fm_C) : Option (Prop × Option fm_V) :=
  match u.2.2.2.2.2.2 C.1 with
  | some .return_ => match u.2.2.2.1, C.2.2.1 with
    | none, [] => some (True, none)
    | _, _ => none
  | some .ireturn => match u.2.2.2.1, C.2.2.1 with
    | some .int, [.inl x] => some (True, some (.inl x))
    | some .boolean, [.inl x] => some (x = 0 ∨ x = 1, some (.inl x))
    | _, _ => none
  | some .lreturn => match u.2.2.2.1, C.2.2.1 with
    | some .long, [.inr (.inl x)] => some (True, some (.inr (.inl x)))
    | _, _ => none
  | some .freturn => match u.2.2.2.1, C.2.2.1 with
    | some .float, [.inr (.inr (.inl x))] => some (True, some (.inr (.inr (.inl x))))
    | _, _ => none
  | some .dreturn => match u.2.2.2.1, C.2.2.1 with
    | some .double, [.inr (.inr (.inr (.inl x)))] => some (True, some (.inr (.inr (.inr (.inl x)))))
    | _, _ => none
  | some .areturn => match u.2.2.2.1, C.2.2.1 with
    | some (.object _), [.inr (.inr (.inr (.inr x)))] => some (True, some (.inr (.inr (.inr (.inr x)))))
    | _, _ => none
  | _ => none
end Rules
end
section
/-! RETURNS, CONTRACTS, CALLS -/
section Ret
variable {E : fm_Ev} {d : Nat} {u : fm_Me} {C : fm_C}
set_option maxHeartbeats 4000000 in
theorem fm_gR0 (O : fm_mo u) {g : Prop × Option fm_V} (h : fm_rt? u C = some g) (hg : g.1) : fm_Go E d u 0 C (fm_Zr E g.2 C.2.2.2) := by
  intro p e R s m args below meth c A cells slots X hr hA h1 h2 h3 h4
  obtain ⟨hx, hb, -, hown, hts, hK, hD, hAs, -, -, hlocks, -⟩ := X
  obtain ⟨pc, lo, st, M⟩ := C
  intro H locs ls hP hS hl hv
  have hq : ∀ v : Option fm_V, (∀ w ∈ v, fm_ok w) → ∀ t : State, t.heap = H → s.WarmedH t.vm → fm_Q E A v M args s (.returned (v.map (fm_cv E.2.2.2.1))) t := fun v hvv t ht _ => ⟨rfl, by rw [ht]; exact hP, hS.F ht, hvv, hv.2.2⟩
  unfold fm_rt? at h
  split at h
  · next hi =>
    obtain ⟨len, hd, hln⟩ := O.2 pc _ hi
    rw [hln rfl] at hd
    split at h
    · next e1 e2 =>
      cases h
      cases e2
      rw [e1] at hr
      exact W.vret hx hb hr (hq none (fun w hw => nomatch hw)) hS.2.2 hd
    · cases h
  · next hi =>
    obtain ⟨len, hd, hln⟩ := O.2 pc _ hi
    rw [hln rfl] at hd
    split at h
    · next x e1 e2 =>
      cases h
      cases e2
      rw [e1] at hr
      exact W.iret (v := x) hx hb hr (hq (some (.inl x)) (fun w hw => by cases hw; trivial)) hS.2.2 hd
    · next x e1 e2 =>
      cases h
      cases e2
      rw [e1] at hr
      exact W.zret (v := x) hx hb hr (fm_bz hg).1 (hq (some (.inl x)) (fun w hw => by cases hw; trivial)) hS.2.2 hd
    · cases h
  · next hi =>
    obtain ⟨len, hd, hln⟩ := O.2 pc _ hi
    rw [hln rfl] at hd
    split at h
    · next x e1 e2 =>
      cases h
      cases e2
      rw [e1] at hr
      exact W.lret (v := x) hx hb hr (hq (some (.inr (.inl x))) (fun w hw => by cases hw; trivial)) hS.2.2 hd
    · cases h
  · next hi =>
    obtain ⟨len, hd, hln⟩ := O.2 pc _ hi
    rw [hln rfl] at hd
    split at h
    · next x e1 e2 =>
      cases h
      cases e2
      rw [e1] at hr
      exact W.fret (v := x) hx hb hr (hq (some (.inr (.inr (.inl x)))) (fun w hw => by cases hw; trivial)) hS.2.2 hd
    · cases h
  · next hi =>
    obtain ⟨len, hd, hln⟩ := O.2 pc _ hi
    rw [hln rfl] at hd
    split at h
    · next x e1 e2 =>
      cases h
      cases e2
      rw [e1] at hr
      exact W.dret (v := x) hx hb hr (hq (some (.inr (.inr (.inr (.inl x))))) (fun w hw => by cases hw; trivial)) hS.2.2 hd
    · cases h
  · next hi =>
    obtain ⟨len, hd, hln⟩ := O.2 pc _ hi
    rw [hln rfl] at hd
    split at h
    · next nm x e1 e2 =>
      cases h
      cases e2
      rw [e1] at hr
      exact W.aret (v := fm_cv E.2.2.2.1 (.inr (.inr (.inr (.inr x))))) hx hb hr (Or.inl ⟨_, rfl⟩) (Or.inr ⟨_, rfl⟩) (hq (some (.inr (.inr (.inr (.inr x))))) (fun w hw => by cases hw; exact hv.2.1 _ List.mem_cons_self)) hS.2.2 hd
    · cases h
  · cases h
theorem fm_gR (O : fm_mo u) {pc : Nat} {lo : List (Nat × fm_V)} {st : List fm_V} {M : fm_M} {P : Prop} {v : Option fm_V} (h : fm_rt? u (pc, lo, st, M) = some (P, v)) (hg : P) : fm_Go E d u 0 (pc, lo, st, M) (fm_Zr E v M) := fm_gR0 O h hg
end Ret
def fm_rm (d n : Nat) : Room := { frames := d, cells := n, slots := 6 * n, locals := 41 * d }
abbrev fm_ws (u : fm_Me) : List Cond := Cond.code u.1 u.2.1 u.2.2.1 u.2.2.2.1 :: fm_TB
/-- what a callee finds -/
def fm_pre (E : fm_Ev) (sz : Nat) (as : List fm_V) (M : fm_M) (U : State) : Prop :=
  U.heap.size = sz ∧ va_P E.2.1 fm_cls (fm_wl E.2.2.1 E.2.2.2.1 M) U.heap ∧ va_K E.2.1 fm_cls (fm_tys E.2.2.1) U ∧ (∀ M, va_D (fm_Aw E.2.2.2.1 sz) (fm_wl E.2.2.1 E.2.2.2.1 M)) ∧
  (va_X (E.2.2.2.1 50 0) E.2.2.2.2.1 E.2.2.2.2.2 U U.heap ∧ E.2.2.2.1 50 0 < sz ∧ ¬ fm_Aw E.2.2.2.1 sz (E.2.2.2.1 50 0)) ∧ fm_nw (fm_Aw E.2.2.2.1 sz) U U.heap ∧ fm_okM M ∧ ∀ v ∈ as, fm_ok v
/-- A CONTRACT: called with these values on this memory, the method returns v and leaves the memory M' -/
def fm_Ct (E : fm_Ev) (d : Nat) (u : fm_Me) (n : Nat) (as : List fm_V) (M : fm_M) (v : Option fm_V) (M' : fm_M) : Prop :=
  ∀ sz, Met E.1 u.1 (fm_ws u) (fm_rm d n) (va_Pc (fm_cs E.2.2.2.1 as) (fm_pre E sz as M)) (fm_Q E (fm_Aw E.2.2.2.1 sz) v M') n (6 * n) (fm_Aw E.2.2.2.1 sz)
def fm_al : Nat → List fm_V → List (Nat × fm_V)
  | _, [] => []
  | i, v :: r => (i, v) :: fm_al (cond (fm_c2 v) (i + 2) (i + 1)) r
def fm_wd : List fm_V → Nat
  | [] => 0
  | v :: r => cond (fm_c2 v) 2 1 + fm_wd r
theorem fm_cat2 (ad : fm_A) (v : fm_V) : (fm_cv ad v).category = cond (fm_c2 v) 2 1 := by
  rcases v with x | x | x | x | x <;> rfl
theorem fm_al_cl (ad : fm_A) : ∀ (as : List fm_V) (i : Nat), lv_args i (fm_cs ad as) = fm_cl ad (fm_al i as)
  | [], i => rfl
  | v :: r, i => by
    show (i, fm_cv ad v) :: lv_args _ (fm_cs ad r) = (i, fm_cv ad v) :: fm_cl ad (fm_al _ r)
    rw [fm_cat2, fm_al_cl ad r]
    cases fm_c2 v <;> rfl
theorem fm_wd_sl (ad : fm_A) : ∀ as : List fm_V, (lg_sl (fm_cs ad as)).length = fm_wd as
  | [] => rfl
  | v :: r => by
    have ih := fm_wd_sl ad r
    unfold lg_sl at ih ⊢
    simp only [fm_cs, List.map_cons, List.flatMap_cons, List.length_append, fm_wd]
    rw [← ih, fm_cat2]
    cases fm_c2 v <;> rfl
theorem fm_wd_cat (ad : fm_A) : ∀ as : List fm_V, ((fm_cs ad as).map fun v => v.category).sum = fm_wd as
  | [] => rfl
  | v :: r => by
    have ih := fm_wd_cat ad r
    simp only [fm_cs, List.map_cons, List.sum_cons, fm_wd] at ih ⊢
    rw [ih, fm_cat2]
theorem fm_al_ok {as : List fm_V} (h : ∀ v ∈ as, fm_ok v) : ∀ i, ∀ q ∈ fm_al i as, fm_ok q.2 := by
  induction as with
  | nil => intro i q hq; cases hq
  | cons v r ih =>
    intro i q hq
    rcases List.mem_cons.mp hq with rfl | hq
    · exact h _ List.mem_cons_self
    · exact ih (fun w hw => h w (List.mem_cons_of_mem _ hw)) _ q hq
set_option maxHeartbeats 4000000 in
theorem fm_ct {E : fm_Ev} {d n : Nat} {u : fm_Me} {as : List fm_V} {M M' : fm_M} {v : Option fm_V} (O : fm_mok u) (hl : E.1.stackTraces = false) (hw : fm_wd as ≤ u.2.2.1) (G : fm_Go E d u n (0, fm_al 0 as, [], M) (fm_Zr E v M')) : fm_Ct E d u n as M v M' := by
  intro sz
  refine Met.ofW (cc := u.2.1) (maxL := u.2.2.1) (ret := u.2.2.2.1) O.2.2.2.2.1 rfl ?_
  intro p e s m args below meth c s₁ B hml hv
  obtain ⟨rfl, hsz, hP, hK, hD, hX, hnw, hM, has⟩ := hv
  subst hsz
  have hts := atoms_spec (ws := fm_ws u) B.pre
  have hown : s.vm.findClass u.1.cls = some m.cls := findClass_of_methodNamed B.named
  rw [O.2.2.2.1] at hown
  have hle := lv_entry (fm_cs E.2.2.2.1 as) (n := u.2.2.1) (by rw [fm_wd_sl]; exact hw)
  rw [fm_al_cl] at hle
  rw [lg_entry_eq]
  have G0 := G p e (fm_rm d n) s m (fm_cs E.2.2.2.1 as).toArray below meth c (fm_Aw E.2.2.2.1 s.heap.size) 0 0
    ⟨B.exec, B.bytes, hml, hown, fun w hw => hts w (List.mem_cons_of_mem _ hw), hK, hD, fun q h => Or.inr h, hX, hnw, B.notSynchronized, hl, Or.inr (by simpa using B.noHandlers (hts _ List.mem_cons_self))⟩ B.returns (fun q h => h) (Nat.le_refl _) (Nat.le_refl _) (by simp [fm_rm]) (by simp [fm_rm])
    s.heap [] _ hP va_S.rf hle ⟨fun q hq => fm_al_ok has 0 q hq, fun w hw => (List.not_mem_nil hw).elim, hM⟩
  rw [Nat.zero_add, Nat.zero_add] at G0
  exact G0
theorem fm_pre_blind {E : fm_Ev} {sz : Nat} {as : List fm_V} {M : fm_M} : FrameBlind (va_Pc (fm_cs E.2.2.2.1 as) (fm_pre E sz as M)) := by
  intro a U g mk h
  obtain ⟨q0, q1, qP, qK, qD, ⟨qX, qX2⟩, qN, qM⟩ := h
  exact ⟨q0, q1, qP, va_K.moved (u := U) (U := U.calling g mk a) (Vm.Alike.refl U.vm) qK, qD, ⟨va_X.moved (u := U) (U := U.calling g mk a) (Vm.Alike.refl U.vm) qX, qX2⟩, qN.same (U := U.calling g mk a) rfl, qM⟩
/-- behind a call -/
theorem fm_after {p : Program} {l : Launch} {e : Env} {R : Room} {s : State} {m : MethodId} {args : Array Value} {below : List Frame} {meth : Method} {c : Code} {H : Heap} {locs : List Loc} {cells slots mc ms : Nat} {Q : State → Prop} {pc : Nat} {ls : Array Slot} {st0 rest : List Value} {A A1 free : Nat → Prop} {Qa : State → Outcome → State → Prop} {v0 : Option Value} {PH : Heap → Prop}
    (hr : va_Run p l e R s m args below meth c H locs cells slots mc ms (F0 m pc ls st0) rest Qa free) (hQ : ∀ (st : State) (v : Option Value) (t : State), Qa st (.returned v) t → v = v0 ∧ PH t.heap ∧ va_F A1 st t) (hS : va_S A s.heap H locs) (hA : ∀ q, q < H.size → A1 q → A q) (hf : ∀ q, free q → A q)
    (kk : ∀ (H1 : Heap) (locs1 : List Loc), PH H1 → va_S A s.heap H1 locs1 → W p l e R s m args below meth c H1 locs1 (cells + mc) (slots + ms) Q (F0 m (pc + 3) ls (v0.toList ++ rest))) : W p l e R s m args below meth c H locs cells slots Q (F0 m pc ls st0) := by
  intro T hT X
  obtain ⟨v, st₀, t, T', Lc, h0, X', hL, e1, e2, hq, st⟩ := hr T hT X
  obtain ⟨rfl, hp, hz, hk⟩ := hQ _ _ _ hq
  rw [h0] at hz hk
  obtain ⟨t2, a1, b1⟩ := kk T'.heap (locs ++ Lc) (by rw [e1]; exact hp)
    ⟨Nat.le_trans hS.1 (by rw [e1]; exact hz), fun q h1 h2 => by rw [e1, hk q (Nat.lt_of_lt_of_le h1 hS.1) (fun z => h2 (hA q (Nat.lt_of_lt_of_le h1 hS.1) z))]; exact hS.2.1 q h1 h2, fun q hq => by
      rcases List.mem_append.mp hq with h | h
      · exact hS.2.2 q h
      · exact hf _ (hL q h)⟩ T' rfl X'
  exact ⟨t2, st t2 a1, b1⟩
theorem fm_Aw_sub {ad : fm_A} {A : Nat → Prop} {a b : Nat} (h : ∀ q, fm_Aw ad a q → A q) (hab : a ≤ b) : ∀ q, fm_Aw ad b q → A q := fun q hq => h q (hq.elim Or.inl (fun z => Or.inr (Nat.le_trans hab z)))
theorem fm_preAt {E : fm_Ev} {u : fm_Me} {p : Program} {s : State} {m : MethodId} {args : Array Value} {meth : Method} {c : Code} {A : Nat → Prop} (X : fm_cx E.1 E.2.1 E.2.2.1 E.2.2.2.1 E.2.2.2.2.1 E.2.2.2.2.2 u.2.2.2.2.1 u.2.1 u.2.2.1 p s m args meth c A) (hA : ∀ q, fm_Aw E.2.2.2.1 s.heap.size q → A q)
    {H : Heap} {locs : List Loc} {M : fm_M} (hP : va_P E.2.1 fm_cls (fm_wl E.2.2.1 E.2.2.2.1 M) H) (hS : va_S A s.heap H locs) (hM : fm_okM M) {as : List fm_V} (has : ∀ v ∈ as, fm_ok v) :
    ∀ U : State, U.heap = H → s.WarmedH U.vm → fm_pre E H.size as M U := by
  obtain ⟨-, -, -, -, -, hK, hD, -, ⟨hX, hbl, hbA⟩, hnw, -⟩ := X
  intro U hU hW
  refine ⟨by rw [hU], by rw [hU]; exact hP, va_K.moved hW.alike hK, fun M' => ⟨(hD M').1, fun k q hk => ?_⟩, ⟨?_, Nat.lt_of_lt_of_le hbl hS.1, fun z => hbA (fm_Aw_sub hA hS.1 _ z)⟩, ?_, hM, has⟩
  · obtain ⟨j, hj⟩ : ∃ j : Nat × Nat, fm_ki[k]? = some j ∧ q.1 = E.2.2.2.1 j.1 j.2 := by
      unfold fm_wl at hk
      rw [List.getElem?_map] at hk
      cases hz : fm_ki[k]? with
      | none => rw [hz] at hk; cases hk
      | some j =>
        rw [hz] at hk
        cases hk
        exact ⟨j, rfl, rfl⟩
    have hmem := List.mem_of_getElem? hj.1
    have hall := List.all_eq_true.mp (show fm_ki.all (fun q => decide (q.1 < 50) && decide (q.2 < fm_cnt q.1)) = true by decide +kernel) j hmem
    simp only [Bool.and_eq_true, decide_eq_true_eq] at hall
    exact Or.inl ⟨j.1, j.2, hall.1, hall.2, hj.2⟩
  · rw [hU]
    exact (va_X.kept (hX.moved hW.alike) (hS.2.1 _ hbl hbA))
  · rw [hU]
    exact hnw.to hW (fun a h1 h2 => hS.2.1 a h1 h2) (fm_Aw_sub hA hS.1)
end
section
/-! CALLS of methods that return -/
theorem fm_good {ws : List Cond} (h : ∀ w ∈ ws, w ∈ fm_TB) : GoodIn fm_TB ws := fun w hw => ⟨h w hw, good_of_word (List.mem_filter.mp (h w hw)).2⟩
/-- the words of a virtual call -/
def fm_lv (oc ix : Nat) (y : MethodName) : Prop := Cond.methodLink (fm_cn oc) ix y ∈ fm_TB ∧ Cond.instanceMethod y ∈ fm_TB ∧ Cond.selects y.cls y y ∈ fm_TB
/-- the words of a static call -/
def fm_lst (oc ix : Nat) (y : MethodName) : Prop := Cond.methodLink (fm_cn oc) ix y ∈ fm_TB ∧ Cond.static y ∈ fm_TB
def fm_np (y : MethodName) (n : Nat) : Prop := (y.cls ≠ "java/lang/invoke/MethodHandle" ∧ y.cls ≠ "java/lang/invoke/VarHandle") ∧ (parseMethodDescriptor y.desc).map (fun d => d.parameters.length) = some n
section Calls
variable {E : fm_Ev} {d n n1 : Nat} {u u' : fm_Me} {Z : (Nat → Prop) → List Frame → Array Value → State → Nat → Nat → State → Prop}
theorem fm_Ctv {E : fm_Ev} {A : Nat → Prop} {v : Option fm_V} {M' : fm_M} {a : Array Value} {st : State} {w : Option Value} {t : State} (h : fm_Q E A v M' a st (.returned w) t) : w = v.map (fm_cv E.2.2.2.1) ∧ (va_P E.2.1 fm_cls (fm_wl E.2.2.1 E.2.2.2.1 M') t.heap ∧ (∀ w ∈ v, fm_ok w) ∧ fm_okM M') ∧ va_F A st t :=
  ⟨Outcome.returned.inj h.1, ⟨h.2.1, h.2.2.2⟩, h.2.2.1⟩
theorem fm_vm {v : Option fm_V} {ad : fm_A} {rest : List fm_V} : (v.map (fm_cv ad)).toList ++ fm_cs ad rest = fm_cs ad (v.toList ++ rest) := by
  cases v <;> rfl
set_option maxHeartbeats 4000000 in
theorem fm_cV (O : fm_mo u) (O' : fm_mok u') {pc ix kd i : Nat} {lo : List (Nat × fm_V)} {as rest : List fm_V} {M M1 : fm_M} {v : Option fm_V} (hi : u.2.2.2.2.2.2 pc = some (.invokevirtual ix)) (hlk : fm_lv u.2.2.2.2.1 ix u'.1) (hkd : fm_is kd u'.2.2.2.2.1 = true) (h7 : u'.2.2.2.2.1 < 7)
    (hn : fm_np u'.1 as.length) (hrest : fm_wd rest ≤ 8) (K : fm_Ct E d u' n1 (.inr (.inr (.inr (.inr (kd, i)))) :: as) M v M1)
    (k : fm_Go E (d + 1) u n (pc + 3, lo, v.toList ++ rest, M1) Z) : fm_Go E (d + 1) u (n1 + n) (pc, lo, as.reverse ++ .inr (.inr (.inr (.inr (kd, i)))) :: rest, M) Z := by
  intro p e R s m args below meth c A cells slots X hr hA h1 h2 h3 h4
  have X0 := X
  obtain ⟨hx, hb, hml, hown, hts, hK, hD, -⟩ := X
  obtain ⟨len, hd, hln⟩ := O.2 pc _ hi
  rw [hln rfl] at hd
  intro H locs ls hP hS hl hv
  have has : ∀ w ∈ (.inr (.inr (.inr (.inr (kd, i)))) :: as : List fm_V), fm_ok w := by
    intro w hw
    rcases List.mem_cons.mp hw with rfl | hw
    · exact hv.2.1 _ (List.mem_append_right _ List.mem_cons_self)
    · exact hv.2.1 _ (List.mem_append_left _ (List.mem_reverse.mpr hw))
  have hpre := fm_preAt X0 hA hP hS hv.2.2 has
  obtain ⟨hkc, hk50⟩ := fm_is_ok hkd
  obtain ⟨j, hj⟩ := fm_ki_at hk50 (show i < fm_cnt kd from has _ List.mem_cons_self)
  obtain ⟨Cn, T, N, ty0, hc, hgd, hN, hin, hty0, hnm, hC, hfi, t0, t1, t2⟩ := fm_clo u'.2.2.2.2.1 h7
  have hCn : Cn = u'.1.cls := by
    rw [O'.2.2.2.1]
    have h9 := hgd
    rcases (show u'.2.2.2.2.1 = 0 ∨ u'.2.2.2.2.1 = 1 ∨ u'.2.2.2.2.1 = 2 ∨ u'.2.2.2.2.1 = 3 ∨ u'.2.2.2.2.1 = 4 ∨ u'.2.2.2.2.1 = 5 ∨ u'.2.2.2.2.1 = 6 by omega) with q | q | q | q | q | q | q <;> (rw [q] at h9 ⊢; cases h9; rfl)
  have he : (fm_wl E.2.2.1 E.2.2.2.1 M)[j]? = some (E.2.2.2.1 kd i, .inr (u'.2.2.2.2.1, (List.range (fm_nf u'.2.2.2.2.1)).map (fm_fv E.2.2.2.1 M u'.2.2.2.2.1 kd i))) := by rw [fm_wl_at hj, fm_ce_o hkc]
  have hG : GoodIn fm_TB (wsV (fm_cn u.2.2.2.2.1) ix u'.1.cls u'.1 (fm_ws u')) := fm_good (by
    intro w hw
    unfold wsV at hw
    rcases List.mem_append.mp hw with hw | hw
    · simp only [List.mem_cons, List.not_mem_nil, or_false] at hw
      rcases hw with rfl | rfl | rfl | rfl
      · exact hlk.1
      · exact hlk.2.1
      · exact hlk.2.2
      · exact O'.2.2.1
    · rcases List.mem_cons.mp hw with rfl | hw
      · exact O'.2.1
      · exact hw)
  have hroom : (fm_rm d n1).frames + 1 ≤ R.frames ∧ 8 + (u'.2.2.1 + 11) + (fm_rm d n1).locals ≤ R.locals := by
    have := O'.2.2.2.2.2
    simp only [fm_rm]
    omega
  have hst : fm_cs E.2.2.2.1 (as.reverse ++ .inr (.inr (.inr (.inr (kd, i)))) :: rest) = (fm_cs E.2.2.2.1 as).reverse ++ .ref (E.2.2.2.1 kd i) :: fm_cs E.2.2.2.1 rest := by
    simp only [fm_cs, List.map_append, List.map_reverse, List.map_cons]
    rfl
  rw [hst]
  refine fm_after (A1 := fm_Aw E.2.2.2.1 H.size) (free := fm_Aw E.2.2.2.1 H.size) (v0 := v.map (fm_cv E.2.2.2.1)) (PH := fun H1 => va_P E.2.1 fm_cls (fm_wl E.2.2.1 E.2.2.2.1 M1) H1 ∧ (∀ w ∈ v, fm_ok w) ∧ fm_okM M1) (va_runV (As := fm_cs E.2.2.2.1 as) (rest := fm_cs E.2.2.2.1 rest) (n := as.length) ⟨hx, hb, hml, hown, hts⟩ (K H.size) (cwV as.length hts hG rfl rfl rfl ⟨rfl, hn.1.1, hn.1.2, hn.2⟩ hroom) ⟨fm_pre_blind, ?_, fun U hU hW => ⟨rfl, hpre U hU hW⟩⟩ rfl (by simp [fm_cs]) hl.1 rfl (lv_room (by rw [fm_wd_cat]; exact hrest)) hd ⟨by omega, by omega⟩) (fun st w t h => fm_Ctv h) hS (fun q _ h => fm_Aw_sub hA hS.1 q h) (fun q h => fm_Aw_sub hA hS.1 q h) ?_
  · have := va_recv hK hP hc he
    rw [hCn] at this
    exact this
  · intro H1 locs1 hPP hS1
    have kk := k p e R s m args below meth c A (cells + n1) (slots + 6 * n1) X0 hr hA h1 h2 (by omega) (by omega) H1 locs1 ls hPP.1 hS1 hl ⟨hv.1, fun w hw => ?_, hPP.2.2⟩
    · rw [show cells + n1 + n = cells + (n1 + n) by omega, show slots + 6 * n1 + 6 * n = slots + 6 * (n1 + n) by omega] at kk
      rw [fm_vm]
      exact kk
    · rcases List.mem_append.mp hw with h | h
      · exact hPP.2.1 w (Option.mem_toList.mp h)
      · exact hv.2.1 w (List.mem_append_right _ (List.mem_cons_of_mem _ h))
set_option maxHeartbeats 4000000 in
theorem fm_cS (O : fm_mo u) (O' : fm_mok u') {pc ix : Nat} {lo : List (Nat × fm_V)} {as rest : List fm_V} {M M1 : fm_M} {v : Option fm_V} (hi : u.2.2.2.2.2.2 pc = some (.invokestatic ix)) (hlk : fm_lst u.2.2.2.2.1 ix u'.1)
    (hn : fm_np u'.1 as.length) (hrest : fm_wd rest ≤ 8) (K : fm_Ct E d u' n1 as M v M1)
    (k : fm_Go E (d + 1) u n (pc + 3, lo, v.toList ++ rest, M1) Z) : fm_Go E (d + 1) u (n1 + n) (pc, lo, as.reverse ++ rest, M) Z := by
  intro p e R s m args below meth c A cells slots X hr hA h1 h2 h3 h4
  have X0 := X
  obtain ⟨hx, hb, hml, hown, hts, hK, hD, -⟩ := X
  obtain ⟨len, hd, hln⟩ := O.2 pc _ hi
  rw [hln rfl] at hd
  intro H locs ls hP hS hl hv
  have has : ∀ w ∈ as, fm_ok w := fun w hw => hv.2.1 _ (List.mem_append_left _ (List.mem_reverse.mpr hw))
  have hpre := fm_preAt X0 hA hP hS hv.2.2 has
  have hG : GoodIn fm_TB (va_wsS (fm_cn u.2.2.2.2.1) ix u'.1 (fm_ws u')) := fm_good (by
    intro w hw
    unfold va_wsS at hw
    rcases List.mem_append.mp hw with hw | hw
    · simp only [List.mem_cons, List.not_mem_nil, or_false] at hw
      rcases hw with rfl | rfl | rfl
      · exact hlk.1
      · exact hlk.2
      · exact O'.2.2.1
    · rcases List.mem_cons.mp hw with rfl | hw
      · exact O'.2.1
      · exact hw)
  have hroom : (fm_rm d n1).frames + 1 ≤ R.frames ∧ 8 + (u'.2.2.1 + 11) + (fm_rm d n1).locals ≤ R.locals := by
    have := O'.2.2.2.2.2
    simp only [fm_rm]
    omega
  have hst : fm_cs E.2.2.2.1 (as.reverse ++ rest) = (fm_cs E.2.2.2.1 as).reverse ++ fm_cs E.2.2.2.1 rest := by
    simp only [fm_cs, List.map_append, List.map_reverse]
  rw [hst]
  refine fm_after (A1 := fm_Aw E.2.2.2.1 H.size) (free := fm_Aw E.2.2.2.1 H.size) (v0 := v.map (fm_cv E.2.2.2.1)) (PH := fun H1 => va_P E.2.1 fm_cls (fm_wl E.2.2.1 E.2.2.2.1 M1) H1 ∧ (∀ w ∈ v, fm_ok w) ∧ fm_okM M1) (va_runS (As := fm_cs E.2.2.2.1 as) (rest := fm_cs E.2.2.2.1 rest) (n := as.length) ⟨hx, hb, hml, hown, hts⟩ (K H.size) (va_cwS as.length hts hG rfl rfl rfl ⟨hn.1.1, hn.1.2, hn.2⟩ hroom) ⟨fm_pre_blind, fun U hU hW => ⟨rfl, hpre U hU hW⟩⟩ rfl (by simp [fm_cs]) hl.1 rfl (lv_room (by rw [fm_wd_cat]; exact hrest)) hd ⟨by omega, by omega⟩) (fun st w t h => fm_Ctv h) hS (fun q _ h => fm_Aw_sub hA hS.1 q h) (fun q h => fm_Aw_sub hA hS.1 q h) ?_
  intro H1 locs1 hPP hS1
  have kk := k p e R s m args below meth c A (cells + n1) (slots + 6 * n1) X0 hr hA h1 h2 (by omega) (by omega) H1 locs1 ls hPP.1 hS1 hl ⟨hv.1, fun w hw => ?_, hPP.2.2⟩
  · rw [show cells + n1 + n = cells + (n1 + n) by omega, show slots + 6 * n1 + 6 * n = slots + 6 * (n1 + n) by omega] at kk
    rw [fm_vm]
    exact kk
  · rcases List.mem_append.mp hw with h | h
    · exact hPP.2.1 w (Option.mem_toList.mp h)
    · exact hv.2.1 w (List.mem_append_right _ h)
set_option maxHeartbeats 4000000 in
/-- Checker's call of FlatModule.isWithin, a nest mate's private method -/
theorem fm_cN (O : fm_mo u) (O' : fm_mok u') {pc : Nat} {lo : List (Nat × fm_V)} {as rest : List fm_V} {M M1 : fm_M} {v : Option fm_V} (hi : u.2.2.2.2.2.2 pc = some (.invokestatic 93)) (hoc : u.2.2.2.2.1 = 1) (hy : u'.1 = ⟨"FlatModule", "isWithin", "(II)Z"⟩) (hsw : Cond.static u'.1 ∈ fm_TB)
    (hn : fm_np u'.1 as.length) (hrest : fm_wd rest ≤ 8) (K : fm_Ct E d u' n1 as M v M1)
    (k : fm_Go E (d + 1) u n (pc + 3, lo, v.toList ++ rest, M1) Z) : fm_Go E (d + 1) u (n1 + n) (pc, lo, as.reverse ++ rest, M) Z := by
  intro p e R s m args below meth c A cells slots X hr hA h1 h2 h3 h4
  have X0 := X
  obtain ⟨hx, hb, hml, hown, hts, hK, hD, -, -, hnw, -, -⟩ := X
  obtain ⟨len, hd, hln⟩ := O.2 pc _ hi
  rw [hln rfl] at hd
  intro H locs ls hP hS hl hv
  have has : ∀ w ∈ as, fm_ok w := fun w hw => hv.2.1 _ (List.mem_append_left _ (List.mem_reverse.mpr hw))
  have hpre := fm_preAt X0 hA hP hS hv.2.2 has
  have hG : GoodIn fm_TB (fm_ws u') := fm_good (by
    intro w hw
    rcases List.mem_cons.mp hw with rfl | hw
    · exact O'.2.1
    · exact hw)
  have hroom : (fm_rm d n1).frames + 1 ≤ R.frames ∧ 8 + (u'.2.2.1 + 11) + (fm_rm d n1).locals ≤ R.locals := by
    have := O'.2.2.2.2.2
    simp only [fm_rm]
    omega
  have hst : fm_cs E.2.2.2.1 (as.reverse ++ rest) = (fm_cs E.2.2.2.1 as).reverse ++ fm_cs E.2.2.2.1 rest := by
    simp only [fm_cs, List.map_append, List.map_reverse]
  rw [hst]
  have hlink : va_Nw (.methodLinkNest (fm_cn u.2.2.2.2.1) 93 u'.1 "FlatModule") s := by
    rw [hoc, hy]
    exact hnw.1
  refine fm_after (A1 := fm_Aw E.2.2.2.1 H.size) (free := fm_Aw E.2.2.2.1 H.size) (v0 := v.map (fm_cv E.2.2.2.1)) (PH := fun H1 => va_P E.2.1 fm_cls (fm_wl E.2.2.1 E.2.2.2.1 M1) H1 ∧ (∀ w ∈ v, fm_ok w) ∧ fm_okM M1) (va_runSN (As := fm_cs E.2.2.2.1 as) (rest := fm_cs E.2.2.2.1 rest) (n := as.length) ⟨hx, hb, hml, hown, hts⟩ (K H.size) ⟨va_cnB as.length hts hG rfl rfl rfl hlink (hts _ O'.2.2.1) ⟨hn.1.1, hn.1.2, hn.2⟩ hroom, hts _ hsw, trivial⟩ ⟨fm_pre_blind, fun U hU hW => ⟨rfl, hpre U hU hW⟩⟩ rfl (by simp [fm_cs]) hl.1 rfl (lv_room (by rw [fm_wd_cat]; exact hrest)) hd ⟨by omega, by omega⟩) (fun st w t h => fm_Ctv h) hS (fun q _ h => fm_Aw_sub hA hS.1 q h) (fun q h => fm_Aw_sub hA hS.1 q h) ?_
  intro H1 locs1 hPP hS1
  have kk := k p e R s m args below meth c A (cells + n1) (slots + 6 * n1) X0 hr hA h1 h2 (by omega) (by omega) H1 locs1 ls hPP.1 hS1 hl ⟨hv.1, fun w hw => ?_, hPP.2.2⟩
  · rw [show cells + n1 + n = cells + (n1 + n) by omega, show slots + 6 * n1 + 6 * n = slots + 6 * (n1 + n) by omega] at kk
    rw [fm_vm]
    exact kk
  · rcases List.mem_append.mp hw with h | h
    · exact hPP.2.1 w (Option.mem_toList.mp h)
    · exact hv.2.1 w (List.mem_append_right _ h)
end Calls
end
section
/-! tables that end -/
def fm_cut {α : Type} (N : Nat) (f : Nat → Option α) : Nat → Option α := fun k => cond (Nat.blt k N) (f k) none
theorem fm_cut_lt {α : Type} {N : Nat} {f : Nat → Option α} {k : Nat} {x : α} (h : fm_cut N f k = some x) : k < N ∧ f k = some x := by
  unfold fm_cut at h
  cases hb : Nat.blt k N with
  | false => rw [hb] at h; cases h
  | true => rw [hb] at h; exact ⟨Nat.le_of_ble_eq_true hb, h⟩
def fm_dck (cc : ByteArray) (f : Nat → Option Instr) (pc : Nat) : Bool := match f pc with
  | none => true
  | some i => match decode cc pc with
    | .ok q => decide (q.1 = i) && (fm_isw i || Nat.beq q.2 (fm_ln i))
    | .error _ => false
theorem fm_dc_of {cc : ByteArray} {N : Nat} {f : Nat → Option Instr} (h : (List.range N).all (fm_dck cc f) = true) : fm_dc cc (fm_cut N f) := by
  intro pc i hi
  obtain ⟨hN, hf⟩ := fm_cut_lt hi
  have h1 := List.all_eq_true.mp h pc (List.mem_range.mpr hN)
  unfold fm_dck at h1
  rw [hf] at h1
  simp only at h1
  split at h1
  · next q hq =>
    simp only [Bool.and_eq_true, decide_eq_true_eq, Bool.or_eq_true] at h1
    refine ⟨q.2, by rw [hq, ← h1.1], fun hw => ?_⟩
    rcases h1.2 with z | z
    · rw [hw] at z; cases z
    · exact Nat.eq_of_beq_eq_true z
  · cases h1
theorem fm_flo_of {oc N : Nat} {f : Nat → Option (Nat × Nat)} {L : List (Nat × Nat × Nat)} (h : (List.range N).all (fun ix => match f ix with
    | none => true
    | some q => decide (q.1 < 7) && (decide (q.2 < fm_nf q.1) && decide ((ix, q.1, q.2) ∈ L))) = true)
    (hL : ∀ w ∈ L.map (fun q => Cond.fieldLink (fm_cn oc) q.1 (fm_cls.getD q.2.1 ("", fm_T0, 0)).1 ((fm_cls.getD q.2.1 ("", fm_T0, 0)).2.1 q.2.2).2.1 ((fm_cls.getD q.2.1 ("", fm_T0, 0)).2.1 q.2.2).2.2.1), w ∈ fm_TB) : fm_flo oc (fm_cut N f) := by
  intro ix q hq
  obtain ⟨hN, hf⟩ := fm_cut_lt hq
  have h1 := List.all_eq_true.mp h ix (List.mem_range.mpr hN)
  rw [hf] at h1
  simp only [Bool.and_eq_true, decide_eq_true_eq] at h1
  exact ⟨h1.1, h1.2.1, hL _ (List.mem_map.mpr ⟨(ix, q.1, q.2), h1.2.2, rfl⟩)⟩

def fm_f0 : Nat → Option (Nat × Nat) := fm_cut 300 fm_fl0
theorem fm_f0_o : fm_flo 0 fm_f0 := fm_flo_of (L := fm_fll0) (by decide +kernel) fm_flw0
def fm_f1 : Nat → Option (Nat × Nat) := fm_cut 300 fm_fl1
theorem fm_f1_o : fm_flo 1 fm_f1 := fm_flo_of (L := fm_fll1) (by decide +kernel) fm_flw1
def fm_f2 : Nat → Option (Nat × Nat) := fm_cut 300 fm_fl2
theorem fm_f2_o : fm_flo 2 fm_f2 := fm_flo_of (L := fm_fll2) (by decide +kernel) fm_flw2
def fm_f3 : Nat → Option (Nat × Nat) := fm_cut 300 fm_fl3
theorem fm_f3_o : fm_flo 3 fm_f3 := fm_flo_of (L := fm_fll3) (by decide +kernel) fm_flw3
def fm_f4 : Nat → Option (Nat × Nat) := fm_cut 300 fm_fl4
theorem fm_f4_o : fm_flo 4 fm_f4 := fm_flo_of (L := fm_fll4) (by decide +kernel) fm_flw4
def fm_f5 : Nat → Option (Nat × Nat) := fm_cut 300 fm_fl5
theorem fm_f5_o : fm_flo 5 fm_f5 := fm_flo_of (L := fm_fll5) (by decide +kernel) fm_flw5
def fm_f6 : Nat → Option (Nat × Nat) := fm_cut 300 fm_fl6
theorem fm_f6_o : fm_flo 6 fm_f6 := fm_flo_of (L := fm_fll6) (by decide +kernel) fm_flw6
def fm_f7 : Nat → Option (Nat × Nat) := fm_cut 300 fm_fl7
theorem fm_f7_o : fm_flo 7 fm_f7 := fm_flo_of (L := fm_fll7) (by decide +kernel) (fun w h => by cases h)
def fm_f8 : Nat → Option (Nat × Nat) := fm_cut 300 fm_fl8
theorem fm_f8_o : fm_flo 8 fm_f8 := fm_flo_of (L := fm_fll8) (by decide +kernel) (fun w h => by cases h)
def fm_f9 : Nat → Option (Nat × Nat) := fm_cut 300 fm_fl9
theorem fm_f9_o : fm_flo 9 fm_f9 := fm_flo_of (L := fm_fll9) (by decide +kernel) (fun w h => by cases h)
end
section
/-! THROWS: a method that ends by an exception -/
/-- at the end: a new object of the class cl is thrown, with the memory M' -/
def fm_X (E : fm_Ev) (A : Nat → Prop) (cl : String) (M' : fm_M) : Array Value → State → Outcome → State → Prop := fun _ st o t =>
  ∃ (q : Addr) (ce : Cell), o = .threw q ∧ t.heap[q]? = some ce ∧ ce.vm = .none ∧ st.vm.findClass cl = some ce.cls ∧ va_P E.2.1 fm_cls (fm_wl E.2.2.1 E.2.2.2.1 M') t.heap ∧ va_F A st t ∧ fm_okM M'
def fm_Xe (st t : State) (cells slots : Nat) (free : Nat → Prop) : Prop := ∃ Lc : List Loc, st.WarmedH t.vm ∧ st.sameButNew ({ t with vm := st.vm } : State) Lc cells slots ∧ ∀ q ∈ Lc, free q.base
abbrev fm_Zx (E : fm_Ev) (cl : String) (M' : fm_M) : (Nat → Prop) → List Frame → Array Value → State → Nat → Nat → State → Prop := fun A below args s cells slots t =>
  ∃ o, t.status = .running ∧ Ended t below o ∧ fm_X E A cl M' args s o t ∧ fm_Xe s t cells slots A
/-- A CONTRACT: called with these values on this memory, the method throws a new cl and leaves the memory M' -/
def fm_Cx (E : fm_Ev) (d : Nat) (u : fm_Me) (n : Nat) (as : List fm_V) (M : fm_M) (cl : String) (M' : fm_M) : Prop :=
  ∀ sz, MetFree E.1 u.1 (headSpec (fm_ws u) (fm_rm d n)) (va_Pc (fm_cs E.2.2.2.1 as) (fm_pre E sz as M)) (fun _ _ _ _ _ => True) (fun a st o t => fm_X E (fm_Aw E.2.2.2.1 sz) cl M' a st o t ∧ fm_Xe st t n (6 * n) (fm_Aw E.2.2.2.1 sz))
set_option maxHeartbeats 4000000 in
theorem fm_cxt {E : fm_Ev} {d n : Nat} {u : fm_Me} {as : List fm_V} {M M' : fm_M} {cl : String} (O : fm_mok u) (hl : E.1.stackTraces = false) (hw : fm_wd as ≤ u.2.2.1) (G : fm_Go E d u n (0, fm_al 0 as, [], M) (fm_Zx E cl M')) : fm_Cx E d u n as M cl M' := by
  intro sz
  refine MetFree.of_bodyS (code := u.2.1) (maxLocals := u.2.2.1) (ret := u.2.2.2.1) O.2.2.2.2.1 ?_ ?_
  · intro args s m h hn
    obtain ⟨meth, c, h1, h2, h3, h4, h5, h6, -, -⟩ := Cond.code_spec hn (atoms_spec (ws := fm_ws u) h _ List.mem_cons_self)
    exact ⟨meth, c, h1, h2, h3, h4, h5, h6⟩
  · intro p e s m args below meth c s₁ B hml hv _
    have hh0 : s₁.heap = s.heap := by rw [B.state]; rfl
    obtain ⟨rfl, hsz, hP, hK, hD, hX, hnw, hM, has⟩ := hv
    subst hsz
    have hts := atoms_spec (ws := fm_ws u) B.pre
    have hown : s.vm.findClass u.1.cls = some m.cls := findClass_of_methodNamed B.named
    rw [O.2.2.2.1] at hown
    have hle := lv_entry (fm_cs E.2.2.2.1 as) (n := u.2.2.1) (by rw [fm_wd_sl]; exact hw)
    rw [fm_al_cl] at hle
    have G0 := G p e (fm_rm d n) s m (fm_cs E.2.2.2.1 as).toArray below meth c (fm_Aw E.2.2.2.1 s.heap.size) 0 0
      ⟨B.exec, B.bytes, hml, hown, fun w hw => hts w (List.mem_cons_of_mem _ hw), hK, hD, fun q h => Or.inr h, hX, hnw, B.notSynchronized, hl, Or.inr (by simpa using B.noHandlers (hts _ List.mem_cons_self))⟩ B.returns (fun q h => h) (Nat.le_refl _) (Nat.le_refl _) (by simp [fm_rm]) (by simp [fm_rm])
      s.heap [] _ hP va_S.rf hle ⟨fun q hq => fm_al_ok has 0 q hq, fun w hw => (List.not_mem_nil hw).elim, hM⟩
    rw [Nat.zero_add, Nat.zero_add] at G0
    rw [lg_entry_eq]
    obtain ⟨t, a1, o, b1, b2, b3, b4⟩ := G0 s₁ hh0 (Stand.of_body B)
    exact ⟨t, o, a1, b1, b2, b3, b4⟩
/-- a callee throws: the walk stands behind it, the note laid -/
theorem fm_xback {l : Launch} {p : Program} {e : Env} {R : Room} {s : State} {m : MethodId} {args : Array Value} {below : List Frame} {meth : Method} {c : Code} {T : State} {locs : List Loc} {cells slots : Nat} {y : MethodName} {ws : List Cond} {rm : Room} {Pc : Array Value → State → Prop} {Qx : Array Value → State → Outcome → State → Prop} {mc ms : Nat} {free : Nat → Prop} {bytes : ByteArray} {maxL : Nat} {ret : Option FieldType}
    (X : Stand p l e R s m args below meth c T locs cells slots) (hM : MetFree l y (headSpec ws rm) Pc (fun _ _ _ _ _ => True) (fun a st o t => Qx a st o t ∧ fm_Xe st t mc ms free)) (hbl : FrameBlind Pc) (hthr : ∀ a st o t, Qx a st o t → ∃ q, o = .threw q)
    (hframes : rm.frames + 1 ≤ R.frames) (hlocals : 8 + (maxL + 11) + rm.locals ≤ R.locals) (hc : cells + rm.cells ≤ R.cells) (hs : slots + rm.slots ≤ R.slots)
    (hws : ∀ w ∈ ws, ∀ (a' : Array Value) (U : State), s.WarmedH U.vm → w.before a' U = true) (hcode : Cond.code y bytes maxL ret ∈ ws) (hini : ∀ (a' : Array Value) (U : State), s.WarmedH U.vm → (Cond.initialized y.cls).before a' U = true)
    {g : JFrame} {ig : Instr} {mk : MethodId} {a : Array Value} (hg : g.method = m) (hsize : g.locals.size = c.maxLocals) (hdg : decode c.code g.pc = .ok (ig, 3)) (hW : 2 * g.monitorRoom + (g.stack.map fun v => v.category).sum ≤ 8) (hn : T.methodNamed? y = some mk) (hp : Pc a T) :
    ∃ (q : Addr) (t T' : State) (Lc : List Loc), Stand p l e R s m args below meth c T' (locs ++ Lc) (cells + mc) (slots + ms) ∧ (∀ z ∈ Lc, free z.base) ∧ T'.heap = t.heap ∧ T'.vm = t.vm ∧ Qx a (T.calling g mk a) (.threw q) t ∧ Steps p.tables e below (doInvoke e (T.setTop g) [] mk a).1 ((T'.setTop g).pushFrame (.throwing q)) := by
  obtain ⟨methY, cY, hmY, hcY, -, hlY, -, -, -, -⟩ := Cond.code_spec hn (hws _ hcode a T X.warmed)
  obtain ⟨kY, hkY, -⟩ := className_of_methodNamed hn
  have hinitY : kY.init = .initialized := Cond.initialized_spec (findClass_of_methodNamed hn) hkY (hini a T X.warmed)
  have h : At T g.method c below := by rw [hg]; exact X.here
  have happ : (headSpec ws rm).appliesLoose y e.platform (T.calling g mk a) = true :=
    Spec.appliesLoose_calling (g := g) h hdg hn hkY hinitY
      (X.room_calling (g := g) (R' := (headSpec ws rm).room) hsize hmY hcY hframes (by rw [hlY]; show _ + _ + rm.locals ≤ _; omega) hc hs) (atoms_intro fun w hw => hws w hw _ _ X.warmed)
  obtain ⟨mid, hmid⟩ := h.above
  have hfr : (T.setTop g).frames = (.java g :: mid) ++ below := by rw [State.frames_setTop' g h.top, hmid]; rfl
  obtain ⟨o, s₂, hsteps, -, hend, hq, Lc, hWu, hsame, hL⟩ := Steps.callFree hM p X.admits X.cas X.clock (acts := []) hfr happ (hbl _ _ _ _ hp) trivial
  obtain ⟨q, rfl⟩ := hthr _ _ _ _ hq
  rw [State.frames_setTop' g h.top] at hend
  have hmb : T.frames.tail = below := X.tail
  rw [hmb] at hend
  obtain ⟨T', X', hW', -, ht⟩ := X.outOfThrown hg hend hWu hsame
  refine ⟨q, s₂, T', Lc, X', hL, ?_, ?_, hq, by rw [← ht]; exact hsteps⟩
  · rw [ht, Stand.throwing_heap]
  · rw [ht, Stand.throwing_vm]

section Throws
variable {E : fm_Ev} {d n n1 : Nat} {u u' : fm_Me}
theorem fm_thr {E : fm_Ev} {A : Nat → Prop} {cl : String} {M' : fm_M} : ∀ a st o t, fm_X E A cl M' a st o t → ∃ q, o = Outcome.threw q := fun a st o t h => by
  obtain ⟨q, ce, h1, -⟩ := h
  exact ⟨q, h1⟩
/-- the exception goes on, out of a method without handlers -/
theorem fm_xout {E : fm_Ev} {u : fm_Me} {p : Program} {e : Env} {R : Room} {s : State} {m : MethodId} {args : Array Value} {below : List Frame} {meth : Method} {c : Code} {A : Nat → Prop} {cells slots : Nat} (X : fm_cx E.1 E.2.1 E.2.2.1 E.2.2.2.1 E.2.2.2.2.1 E.2.2.2.2.2 u.2.2.2.2.1 u.2.1 u.2.2.1 p s m args meth c A) (hoc : u.2.2.2.2.1 ≠ 8)
    {cl : String} {M1 : fm_M} {H : Heap} {locs : List Loc} (hS : va_S A s.heap H locs) (hf : ∀ q, fm_Aw E.2.2.2.1 H.size q → A q) {T' t : State} {q : Addr} {Lc : List Loc} {g : JFrame} (hg : g.method = m) (hk1 : g.locked = none) (hk2 : g.entered = []) {st : State} {a : Array Value} (hst : st.heap = H) (hvm : s.vm.Alike st.vm)
    (X' : Stand p E.1 e R s m args below meth c T' (locs ++ Lc) cells slots) (hL : ∀ z ∈ Lc, fm_Aw E.2.2.2.1 H.size z.base) (e1 : T'.heap = t.heap) (hq : fm_X E (fm_Aw E.2.2.2.1 H.size) cl M1 a st (.threw q) t) :
    ∃ t2, Steps p.tables e below ((T'.setTop g).pushFrame (.throwing q)) t2 ∧ fm_Zx E cl M1 A below args s cells slots t2 := by
  obtain ⟨-, -, -, -, -, -, -, -, -, -, hlocks, -, hh⟩ := X
  have hempty : c.exceptionTable.toList = [] := hh.resolve_left hoc
  obtain ⟨hsteps, hrun, hend, hWu, hsame⟩ := X'.leaveThrown q hg hk1 hk2 (fun x hx => by rw [hempty] at hx; cases hx)
  obtain ⟨q', ce, eq, h1, h2, h3, h4, h5, h6⟩ := hq
  cases eq
  have hF : va_F A s (T'.setFrames (.throwing q :: below)) := by
    obtain ⟨z1, z2⟩ := h5
    rw [hst] at z1 z2
    refine ⟨?_, fun w hw hA => ?_⟩
    · show s.heap.size ≤ T'.heap.size
      rw [e1]
      exact Nat.le_trans hS.1 z1
    · show T'.heap[w]? = s.heap[w]?
      rw [e1, z2 w (Nat.lt_of_lt_of_le hw hS.1) (fun z => hA (hf w z))]
      exact hS.2.1 w hw hA
  exact ⟨_, hsteps, .threw q, hrun, hend, ⟨q, ce, rfl, by show T'.heap[q]? = _; rw [e1]; exact h1, h2, by rw [← hvm.findClass]; exact h3, by show va_P _ _ _ T'.heap; rw [e1]; exact h4, hF, h6⟩, locs ++ Lc, hWu, hsame, fun z hz => (List.mem_append.mp hz).elim (hS.2.2 z) (fun y => hf _ (hL z y))⟩
end Throws

section ThrowCalls
variable {E : fm_Ev} {d n n1 : Nat} {u u' : fm_Me}
set_option maxHeartbeats 4000000 in
/-- an invokevirtual whose callee throws, in a method without handlers -/
theorem fm_xV (O : fm_mo u) (O' : fm_mok u') (hoc : u.2.2.2.2.1 ≠ 8) {pc ix kd i : Nat} {lo : List (Nat × fm_V)} {as rest : List fm_V} {M M1 : fm_M} {cl : String} (hi : u.2.2.2.2.2.2 pc = some (.invokevirtual ix)) (hlk : fm_lv u.2.2.2.2.1 ix u'.1) (hkd : fm_is kd u'.2.2.2.2.1 = true) (h7 : u'.2.2.2.2.1 < 7)
    (hn : fm_np u'.1 as.length) (hrest : fm_wd rest ≤ 8) (K : fm_Cx E d u' n (.inr (.inr (.inr (.inr (kd, i)))) :: as) M cl M1) : fm_Go E (d + 1) u n (pc, lo, as.reverse ++ .inr (.inr (.inr (.inr (kd, i)))) :: rest, M) (fm_Zx E cl M1) := by
  intro p e R s m args below meth c A cells slots X hr hA h1 h2 h3 h4
  have X0 := X
  obtain ⟨hx, hb, hml, hown, hts, hK, hD, -⟩ := X
  obtain ⟨len, hd, hln⟩ := O.2 pc _ hi
  rw [hln rfl] at hd
  intro H locs ls hP hS hl hv
  have has : ∀ w ∈ (.inr (.inr (.inr (.inr (kd, i)))) :: as : List fm_V), fm_ok w := by
    intro w hw
    rcases List.mem_cons.mp hw with rfl | hw
    · exact hv.2.1 _ (List.mem_append_right _ List.mem_cons_self)
    · exact hv.2.1 _ (List.mem_append_left _ (List.mem_reverse.mpr hw))
  have hpre := fm_preAt X0 hA hP hS hv.2.2 has
  obtain ⟨hkc, hk50⟩ := fm_is_ok hkd
  obtain ⟨j, hj⟩ := fm_ki_at hk50 (show i < fm_cnt kd from has _ List.mem_cons_self)
  obtain ⟨Cn, T0, N, ty0, hc, hgd, hN, hin, hty0, hnm, hC, hfi, t0, t1, t2⟩ := fm_clo u'.2.2.2.2.1 h7
  have hCn : Cn = u'.1.cls := by
    rw [O'.2.2.2.1]
    have h9 := hgd
    rcases (show u'.2.2.2.2.1 = 0 ∨ u'.2.2.2.2.1 = 1 ∨ u'.2.2.2.2.1 = 2 ∨ u'.2.2.2.2.1 = 3 ∨ u'.2.2.2.2.1 = 4 ∨ u'.2.2.2.2.1 = 5 ∨ u'.2.2.2.2.1 = 6 by omega) with q | q | q | q | q | q | q <;> (rw [q] at h9 ⊢; cases h9; rfl)
  have he : (fm_wl E.2.2.1 E.2.2.2.1 M)[j]? = some (E.2.2.2.1 kd i, .inr (u'.2.2.2.2.1, (List.range (fm_nf u'.2.2.2.2.1)).map (fm_fv E.2.2.2.1 M u'.2.2.2.2.1 kd i))) := by rw [fm_wl_at hj, fm_ce_o hkc]
  obtain ⟨cellB, hcB, hoB, hclB⟩ := va_recv hK hP hc he
  rw [show (Cn, T0, N).1 = u'.1.cls from hCn] at hclB
  have hw : ∀ w ∈ fm_ws u', ∀ (a' : Array Value) (U : State), s.WarmedH U.vm → w.before a' U = true := by
    intro w hw a' U hW
    have hin : w ∈ fm_TB := by
      rcases List.mem_cons.mp hw with rfl | hw
      · exact O'.2.1
      · exact hw
    exact word_at hW (good_of_word (List.mem_filter.mp hin).2) (hts w hin)
  have hst : fm_cs E.2.2.2.1 (as.reverse ++ .inr (.inr (.inr (.inr (kd, i)))) :: rest) = (fm_cs E.2.2.2.1 as).reverse ++ .ref (E.2.2.2.1 kd i) :: fm_cs E.2.2.2.1 rest := by
    simp only [fm_cs, List.map_append, List.map_reverse, List.map_cons]
    rfl
  rw [hst]
  intro T hT XS
  have hcode := hts _ O'.2.1
  obtain ⟨mk, methM, hnamed, hmethM, hstM, habM⟩ := Cond.instanceMethod_spec (hts _ hlk.2.1)
  obtain ⟨methM', cM, hmethM', -, -, -, -, -, -, hsigM⟩ := Cond.code_spec hnamed hcode
  cases hmethM.symm.trans hmethM'
  obtain ⟨c2, r2, m2, q1, q2, q3, q4, kP, hkP, hkPi⟩ := Cond.selects_spec (hts _ hlk.2.2)
  cases hclB.symm.trans q1
  cases (State.methodFound?_of_named hnamed hn.1).symm.trans q2
  cases hnamed.symm.trans q3
  have hselP : selectMethod e.platform s.vm cellB.cls mk = .method mk := by rw [Launch.admits_selectMethod XS.admits]; exact q4
  have hlen : (fm_cs E.2.2.2.1 as).length = methM.sig.parameters.length := by
    have h9 := hn.2
    rw [hsigM] at h9
    simp only [fm_cs, List.length_map]
    exact (Option.some.inj h9).symm
  obtain ⟨vm₁, X₁, hstep₁⟩ := XS.invokevirtual hx hown (hts _ hlk.1) hnamed hmethM hstM hkP hkPi hn.1 (a := E.2.2.2.1 kd i) (cell := cellB) (by rw [hT]; exact hcB)
    (fun z h => by rw [h] at hoB; cases hoB) hselP hmethM habM hkP hkPi (g := F0 m pc ls ((fm_cs E.2.2.2.1 as).reverse ++ .ref (E.2.2.2.1 kd i) :: fm_cs E.2.2.2.1 rest)) rfl (argsL := fm_cs E.2.2.2.1 as) (rest := fm_cs E.2.2.2.1 rest) hlen rfl (by rw [hb]; exact hd)
  have hroom := O'.2.2.2.2.2
  obtain ⟨q, t, T', Lc, X', hL, e1, e2, hq, hsteps⟩ := fm_xback (bytes := u'.2.1) (maxL := u'.2.2.1) (ret := u'.2.2.2.1) (g := F0 m pc ls (fm_cs E.2.2.2.1 rest)) (ig := .invokevirtual ix) (a := (Value.ref (E.2.2.2.1 kd i) :: fm_cs E.2.2.2.1 as).toArray) X₁ (K H.size) fm_pre_blind fm_thr (by simp only [fm_rm]; omega) (by simp only [fm_rm]; omega) (by simp only [fm_rm]; omega) (by simp only [fm_rm]; omega) hw List.mem_cons_self
    (fun a' U hW => word_at hW (good_of_word (List.mem_filter.mp O'.2.2.1).2) (hts _ O'.2.2.1)) rfl (hl.1.trans hml.symm) (by rw [hb]; exact hd) (lv_room (by rw [fm_wd_cat]; exact hrest)) (X₁.named hnamed) ⟨rfl, hpre (T.setVm vm₁) hT X₁.warmed⟩
  obtain ⟨t2, a2, z2⟩ := fm_xout X0 hoc hS (fm_Aw_sub hA hS.1) (g := F0 m pc ls (fm_cs E.2.2.2.1 rest)) rfl rfl rfl (st := (T.setVm vm₁).calling (F0 m pc ls (fm_cs E.2.2.2.1 rest)) mk (Value.ref (E.2.2.2.1 kd i) :: fm_cs E.2.2.2.1 as).toArray) hT X₁.warmed.alike X' hL e1 hq
  exact ⟨t2, hstep₁ _ fun acts => by rw [doInvoke_state]; exact hsteps.trans a2, z2⟩
set_option maxHeartbeats 4000000 in
/-- an invokestatic whose callee throws, in a method without handlers -/
theorem fm_xS (O : fm_mo u) (O' : fm_mok u') (hoc : u.2.2.2.2.1 ≠ 8) {pc ix : Nat} {lo : List (Nat × fm_V)} {as rest : List fm_V} {M M1 : fm_M} {cl : String} (hi : u.2.2.2.2.2.2 pc = some (.invokestatic ix)) (hlk : fm_lst u.2.2.2.2.1 ix u'.1)
    (hn : fm_np u'.1 as.length) (hrest : fm_wd rest ≤ 8) (K : fm_Cx E d u' n as M cl M1) : fm_Go E (d + 1) u n (pc, lo, as.reverse ++ rest, M) (fm_Zx E cl M1) := by
  intro p e R s m args below meth c A cells slots X hr hA h1 h2 h3 h4
  have X0 := X
  obtain ⟨hx, hb, hml, hown, hts, hK, hD, -⟩ := X
  obtain ⟨len, hd, hln⟩ := O.2 pc _ hi
  rw [hln rfl] at hd
  intro H locs ls hP hS hl hv
  have has : ∀ w ∈ as, fm_ok w := fun w hw => hv.2.1 _ (List.mem_append_left _ (List.mem_reverse.mpr hw))
  have hpre := fm_preAt X0 hA hP hS hv.2.2 has
  have hw : ∀ w ∈ fm_ws u', ∀ (a' : Array Value) (U : State), s.WarmedH U.vm → w.before a' U = true := by
    intro w hw a' U hW
    have hin : w ∈ fm_TB := by
      rcases List.mem_cons.mp hw with rfl | hw
      · exact O'.2.1
      · exact hw
    exact word_at hW (good_of_word (List.mem_filter.mp hin).2) (hts w hin)
  have hst : fm_cs E.2.2.2.1 (as.reverse ++ rest) = (fm_cs E.2.2.2.1 as).reverse ++ fm_cs E.2.2.2.1 rest := by
    simp only [fm_cs, List.map_append, List.map_reverse]
  rw [hst]
  intro T hT XS
  have hcode := hts _ O'.2.1
  obtain ⟨mk, hnamed⟩ := Cond.code_named hcode
  obtain ⟨methM, cM, hmethM, -, -, -, -, -, -, hsigM⟩ := Cond.code_spec hnamed hcode
  have hstatic : methM.isStatic = true := Cond.static_spec hnamed hmethM (hts _ hlk.2)
  obtain ⟨kP, hkP, -⟩ := className_of_methodNamed hnamed
  have hinitP : kP.init = .initialized := Cond.initialized_spec (findClass_of_methodNamed hnamed) hkP (hts _ O'.2.2.1)
  have hlen : (fm_cs E.2.2.2.1 as).length = methM.sig.parameters.length := by
    have h9 := hn.2
    rw [hsigM] at h9
    simp only [fm_cs, List.length_map]
    exact (Option.some.inj h9).symm
  obtain ⟨vm₁, X₁, hstep₁⟩ := XS.invokestatic hx hown (hts _ hlk.1) hnamed hmethM hstatic hkP hinitP hn.1 (g := F0 m pc ls ((fm_cs E.2.2.2.1 as).reverse ++ fm_cs E.2.2.2.1 rest)) rfl (argsL := fm_cs E.2.2.2.1 as) (rest := fm_cs E.2.2.2.1 rest) hlen rfl (by rw [hb]; exact hd)
  have hroom := O'.2.2.2.2.2
  obtain ⟨q, t, T', Lc, X', hL, e1, e2, hq, hsteps⟩ := fm_xback (bytes := u'.2.1) (maxL := u'.2.2.1) (ret := u'.2.2.2.1) (g := F0 m pc ls (fm_cs E.2.2.2.1 rest)) (ig := .invokestatic ix) (a := (fm_cs E.2.2.2.1 as).toArray) X₁ (K H.size) fm_pre_blind fm_thr (by simp only [fm_rm]; omega) (by simp only [fm_rm]; omega) (by simp only [fm_rm]; omega) (by simp only [fm_rm]; omega) hw List.mem_cons_self
    (fun a' U hW => word_at hW (good_of_word (List.mem_filter.mp O'.2.2.1).2) (hts _ O'.2.2.1)) rfl (hl.1.trans hml.symm) (by rw [hb]; exact hd) (lv_room (by rw [fm_wd_cat]; exact hrest)) (X₁.named hnamed) ⟨rfl, hpre (T.setVm vm₁) hT X₁.warmed⟩
  obtain ⟨t2, a2, z2⟩ := fm_xout X0 hoc hS (fm_Aw_sub hA hS.1) (g := F0 m pc ls (fm_cs E.2.2.2.1 rest)) rfl rfl rfl (st := (T.setVm vm₁).calling (F0 m pc ls (fm_cs E.2.2.2.1 rest)) mk (fm_cs E.2.2.2.1 as).toArray) hT X₁.warmed.alike X' hL e1 hq
  exact ⟨t2, hstep₁ _ fun acts => by rw [doInvoke_state]; exact hsteps.trans a2, z2⟩
end ThrowCalls
end
section
/-! A NEW EXCEPTION IS THROWN (the words by program: wip/tools/gen_throw.py) -/
def fm_nms : List String := ["java/lang/RuntimeException", "java/lang/Exception"]
def fm_bad (cl : String) : List Cond := [.laysStatic fm_tN "UNASSIGNED_STACK" fm_sD, .laysStatic fm_tN "SUPPRESSED_SENTINEL" fm_lD, .declares ⟨"java/lang/RuntimeException", "<init>", "()V"⟩, .declares ⟨"java/lang/Exception", "<init>", "()V"⟩, .declares ⟨"java/lang/Throwable", "<init>", "()V"⟩, .castable cl cl, .isRef (.static fm_tN "UNASSIGNED_STACK" fm_sD), .isRef (.static fm_tN "SUPPRESSED_SENTINEL" fm_lD)]
/-- the words of 'throw new cl()' at pool entries ik, ic of class oc -/
def fm_at (oc ik ic : Nat) (cl : String) : Prop := (∀ w ∈ (Bundle.ownAtoms0 (fm_cn oc) ic cl fm_nms).filter goodWord, w ∈ fm_TB) ∧ (Bundle.ownAtoms0 (fm_cn oc) ic cl fm_nms).filter (fun w => !goodWord w) = fm_bad cl ∧
  Cond.classLink (fm_cn oc) ik cl ∈ fm_TB ∧ Cond.instantiable cl 6 ∈ fm_TB ∧ Cond.initialized cl ∈ fm_TB ∧ Bundle.fit cl = true ∧ (cl = "java/lang/IllegalArgumentException" ∨ cl = "java/lang/IllegalStateException" ∨ cl = "java/lang/ArithmeticException" ∨ cl = "java/lang/UnsupportedOperationException")

theorem fm_atFI : fm_at 0 34 36 "java/lang/IllegalArgumentException" := ⟨fm_in _ [8, 378, 387, 392, 395, 397, 379, 380, 23, 24, 381, 386, 393, 409, 368, 410, 370, 411, 372, 382, 384, 374, 399, 400, 401, 402, 402, 403, 404, 405, 405, 406, 407, 379, 398, 357, 365, 366, 367, 369, 371, 373, 377, 376, 375] (by decide +kernel) (by decide +kernel), by decide +kernel, fm_tb (List.mem_of_getElem? (i := 356) (by decide +kernel)) rfl, fm_tb (List.mem_of_getElem? (i := 357) (by decide +kernel)) rfl, fm_tb (List.mem_of_getElem? (i := 11) (by decide +kernel)) rfl, by decide +kernel, by decide +kernel⟩
theorem fm_atFS : fm_at 0 53 55 "java/lang/IllegalStateException" := ⟨fm_in _ [8, 378, 387, 392, 395, 397, 379, 380, 23, 24, 381, 386, 393, 409, 368, 410, 370, 411, 372, 382, 384, 374, 446, 447, 448, 402, 402, 403, 404, 405, 405, 406, 407, 379, 445, 437, 439, 390, 440, 441, 442, 443, 377, 376, 444] (by decide +kernel) (by decide +kernel), by decide +kernel, fm_tb (List.mem_of_getElem? (i := 436) (by decide +kernel)) rfl, fm_tb (List.mem_of_getElem? (i := 437) (by decide +kernel)) rfl, fm_tb (List.mem_of_getElem? (i := 12) (by decide +kernel)) rfl, by decide +kernel, by decide +kernel⟩
theorem fm_atAA : fm_at 7 19 21 "java/lang/ArithmeticException" := ⟨fm_in _ [8, 378, 387, 392, 395, 397, 379, 380, 23, 24, 381, 386, 393, 409, 368, 410, 370, 411, 372, 382, 384, 374, 538, 539, 540, 402, 402, 403, 404, 405, 405, 406, 407, 379, 537, 529, 531, 389, 532, 533, 534, 535, 377, 376, 536] (by decide +kernel) (by decide +kernel), by decide +kernel, fm_tb (List.mem_of_getElem? (i := 528) (by decide +kernel)) rfl, fm_tb (List.mem_of_getElem? (i := 529) (by decide +kernel)) rfl, fm_tb (List.mem_of_getElem? (i := 15) (by decide +kernel)) rfl, by decide +kernel, by decide +kernel⟩
theorem fm_atMS : fm_at 5 64 66 "java/lang/IllegalStateException" := ⟨fm_in _ [8, 378, 387, 392, 395, 397, 379, 380, 23, 24, 381, 386, 393, 409, 368, 410, 370, 411, 372, 382, 384, 374, 446, 447, 448, 402, 402, 403, 404, 405, 405, 406, 407, 379, 581, 437, 439, 390, 440, 441, 442, 443, 377, 376, 444] (by decide +kernel) (by decide +kernel), by decide +kernel, fm_tb (List.mem_of_getElem? (i := 580) (by decide +kernel)) rfl, fm_tb (List.mem_of_getElem? (i := 437) (by decide +kernel)) rfl, fm_tb (List.mem_of_getElem? (i := 12) (by decide +kernel)) rfl, by decide +kernel, by decide +kernel⟩
theorem fm_atMU : fm_at 5 157 159 "java/lang/UnsupportedOperationException" := ⟨fm_in _ [8, 378, 387, 392, 395, 397, 379, 380, 23, 24, 381, 386, 393, 409, 368, 410, 370, 411, 372, 382, 384, 374, 592, 593, 594, 402, 402, 403, 404, 405, 405, 406, 407, 379, 591, 583, 585, 391, 586, 587, 588, 589, 377, 376, 590] (by decide +kernel) (by decide +kernel), by decide +kernel, fm_tb (List.mem_of_getElem? (i := 582) (by decide +kernel)) rfl, fm_tb (List.mem_of_getElem? (i := 583) (by decide +kernel)) rfl, fm_tb (List.mem_of_getElem? (i := 16) (by decide +kernel)) rfl, by decide +kernel, by decide +kernel⟩
/-- the state at the method's entry, with the heap as it is now -/
abbrev fm_s' (s T : State) : State := { s with heap := T.heap, slotsUsed := T.slotsUsed }
theorem fm_rebase {l : Launch} {p : Program} {e : Env} {R R' : Room} {s : State} {m : MethodId} {args : Array Value} {below : List Frame} {meth : Method} {c : Code} {T : State} {locs : List Loc} {cells slots : Nat} (X : Stand p l e R s m args below meth c T locs cells slots)
    (hf : R'.frames ≤ R.frames) (hl : R'.locals ≤ R.locals) (hc : cells + R'.cells ≤ R.cells) (hs : slots + R'.slots ≤ R.slots) : Stand p l e R' (fm_s' s T) m args below meth c T [] 0 0 := by
  have hroom := X.room
  have hbook := X.book
  have hh := X.heapSize
  have hu := X.used
  refine ⟨X.admits, X.cas, X.clock, X.frames, ?_, X.hears, X.method, X.code, X.here, X.tail, X.warmed, X.limits, X.bytes, ?_⟩
  · simp only [State.hasRoom, Bool.and_eq_true, decide_eq_true_eq] at hroom ⊢
    obtain ⟨⟨⟨⟨r1, r2, r3, r4, r5, r6⟩, r7⟩, r8⟩, r9⟩ := hroom
    have f1 : (fm_s' s T).localsInUse = s.localsInUse := rfl
    have f2 : (fm_s' s T).frames = s.frames := rfl
    have f3 : (fm_s' s T).me = s.me := rfl
    rw [f1, f2, f3]
    refine ⟨⟨⟨⟨?_, ?_, ?_, ?_, ?_, r6⟩, ?_⟩, ?_⟩, hbook⟩
    · omega
    · omega
    · omega
    · omega
    · omega
    · show T.heap.size + R'.cells ≤ _
      omega
    · show T.slotsUsed + R'.slots ≤ _
      omega
  · refine ⟨?_, Nat.le_refl _, Nat.le_refl _, ?_, ?_, fun a c hc => ⟨c, hc, rfl, rfl, fun _ _ => rfl⟩⟩
    · exact X.same.1
    · show T.slotsUsed = T.slotsUsed + _
      rw [show (T.setVm s.vm).heap.toList.drop (fm_s' s T).heap.size = [] from List.drop_eq_nil_of_le (by show T.heap.toList.length ≤ T.heap.size; simp)]
      rfl
    · rw [show (T.setVm (fm_s' s T).vm).heap.toList.drop (fm_s' s T).heap.size = [] from List.drop_eq_nil_of_le (by show T.heap.toList.length ≤ T.heap.size; simp)]
      exact Nat.le_refl _
end
section
/-! 'throw new cl()' ends the method -/
theorem fm_isref {C n d : String} {A : Nat → Prop} {U : State} {args : Array Value} (h : va_Zq C n d A U U.heap) : (Cond.isRef (.static C n d)).before args U = true := by
  have key : ∀ v : Value, va_Z C n d v A U U.heap → (Term.static C n d).eval args U none [] U = some v := by
    intro v hz
    obtain ⟨cf, kf, fi, f, a, cell, h1, h2, h3, h4, h5, h6, h7, h8⟩ := hz
    exact Term.static_eval h1 h2 h4 h5 h6 h7
  rcases h with h | ⟨t, h⟩
  · simp [Cond.before, Cond.holds, Cond.value, key _ h]
  · simp [Cond.before, Cond.holds, Cond.value, key _ h]
section ThrowW
set_option maxHeartbeats 4000000 in
/-- new, dup, <init>, athrow, from a state in which nothing has been done yet -/
theorem fm_thW {p : Program} {l : Launch} {e : Env} {R : Room} {s : State} {m : MethodId} {args : Array Value} {below : List Frame} {meth : Method} {c : Code} {cc : ByteArray} {own cl : String} {ik ic pc : Nat} {ls : Array Slot} {st : List Value} (hx : p.tables.exec = Jvm.exec) (hb : c.code = cc) (htr : l.stackTraces = false) (hlocks : meth.locks = false) (hempty : c.exceptionTable.toList = [])
    (hown : s.vm.findClass own = some m.cls) (hcl : (Cond.classLink own ik cl).before args s = true) (hins : (Cond.instantiable cl 6).before args s = true) (hini : (Cond.initialized cl).before args s = true) (hfit : Bundle.fit cl = true) (hall : ∀ a ∈ Bundle.ownAtoms0 own ic cl fm_nms, a.before args s = true)
    (d0 : decode cc pc = .ok (.new ik, 3)) (d1 : decode cc (pc + 3) = .ok (.dup, 1)) (d2 : decode cc (pc + 4) = .ok (.invokespecial ic, 3)) (d3 : decode cc (pc + 7) = .ok (.athrow, 1)) (hsl : ls.size = c.maxLocals)
    (hf : 5 < R.frames) (hlo : (st.map fun v => v.category).sum + 81 ≤ R.locals) (hc1 : 1 ≤ R.cells) (hs6 : 6 ≤ R.slots) :
    W p l e R s m args below meth c s.heap [] 0 0 (fun t => ∃ q ce, t.status = .running ∧ Ended t below (.threw q) ∧ s.WarmedH t.vm ∧ s.sameButNew ({ t with vm := s.vm } : State) [] 1 6 ∧ t.heap[q]? = some ce ∧ ce.vm = .none ∧ s.vm.findClass cl = some ce.cls) (F0 m pc ls st) := by
  refine W.newc (g := F0 m pc ls st) (C := cl) (n := 6) hx hb (own := own) hown hcl hins hini rfl d0 (by rw [Nat.zero_add]; exact hc1) (by rw [Nat.zero_add]; exact hs6) (fun cC kC f1 f2 f3 f4 => ?_)
  refine W.eq (g2 := F0 m (pc + 3) ls (.ref s.heap.size :: st)) rfl ?_
  refine lv_dup hx hb d1 rfl ?_
  intro T2 hT2 X2
  have htr' : e.platform.stackTraces = false := by rw [X2.admits.platform]; exact htr
  have hcell : T2.heap[s.heap.size]? = some (freshCell cC kC) := by
    rw [hT2]
    simp [freshCell]
  obtain ⟨U, s1, s2, s3, s4, s5, ce, s6, s7⟩ := X2.ctorThrow0 hx htr' (own := own) (cls := cl) (names := fm_nms) (ic := ic) hown hfit (by decide +kernel) hall (fun x hx => by cases hx) (a := s.heap.size) f1 f2 hcell (Nat.le_refl _) (g := F0 m (pc + 3 + 1) ls (.ref s.heap.size :: .ref s.heap.size :: st)) rfl hsl rfl rfl (rest := st) rfl (by rw [hb]; exact d2) (by rw [hb]; exact d3) (fun x hx => by rw [hempty] at hx; cases hx)
    (by show 2 + 3 < R.frames; omega) (by
      show 2 * 0 + ((Value.ref s.heap.size :: st).map fun v => v.category).sum + (13 * (2 + 1) + 41) ≤ R.locals
      rw [List.map_cons, List.sum_cons]
      show 2 * 0 + (1 + _) + (13 * (2 + 1) + 41) ≤ R.locals
      omega)
  rw [Nat.zero_add] at s5
  exact ⟨U, s1, _, ce, s2, s3, s4, s5, s6, s7.vm, s7.cls⟩
end ThrowW
section ThrowNew
variable {E : fm_Ev} {d : Nat} {u : fm_Me}
set_option maxHeartbeats 4000000 in
theorem fm_th (O : fm_mo u) (hoc : u.2.2.2.2.1 ≠ 8) {pc ik ic : Nat} {lo : List (Nat × fm_V)} {st : List fm_V} {M : fm_M} {cl : String} (hw : fm_at u.2.2.2.2.1 ik ic cl)
    (i0 : u.2.2.2.2.2.2 pc = some (.new ik)) (i1 : u.2.2.2.2.2.2 (pc + 3) = some .dup) (i2 : u.2.2.2.2.2.2 (pc + 4) = some (.invokespecial ic)) (i3 : u.2.2.2.2.2.2 (pc + 7) = some .athrow) (hst : fm_wd st ≤ 8) : fm_Go E (d + 6) u 1 (pc, lo, st, M) (fm_Zx E cl M) := by
  intro p e R s m args below meth c A cells slots X hr hA h1 h2 h3 h4
  obtain ⟨hx, hb, hml, hown, hts, hK, hD, hAs, hXs, hnw, hlocks, htr0, hh⟩ := X
  have hempty : c.exceptionTable.toList = [] := hh.resolve_left hoc
  obtain ⟨len0, d0, l0⟩ := O.2 _ _ i0
  rw [l0 rfl] at d0
  obtain ⟨len1, d1, l1⟩ := O.2 _ _ i1
  rw [l1 rfl] at d1
  obtain ⟨len2, d2, l2⟩ := O.2 _ _ i2
  rw [l2 rfl] at d2
  obtain ⟨len3, d3, l3⟩ := O.2 _ _ i3
  rw [l3 rfl] at d3
  intro H locs ls hP hS hl hv
  intro T hT XS
  have XR : Stand p E.1 e { frames := R.frames, cells := 1, slots := 6, locals := R.locals } (fm_s' s T) m args below meth c T [] 0 0 := fm_rebase XS (Nat.le_refl _) (Nat.le_refl _) (by show cells + 1 ≤ _; omega) (by show slots + 6 ≤ _; omega)
  have gw : ∀ w, goodWord w = true → w.before args s = true → w.before args (fm_s' s T) = true := by
    intro w hg hb'
    have := word_at (s := s) (U := fm_s' s T) (a' := args) (State.WarmedH.refl s) (good_of_word hg) hb'
    exact this
  have inTB : ∀ w, w ∈ fm_TB → w.before args (fm_s' s T) = true := fun w hw => gw w (List.mem_filter.mp hw).2 (hts w hw)
  have hkeep : ∀ a : Nat, a < s.heap.size → ¬ A a → T.heap[a]? = s.heap[a]? := fun a q1 q2 => by rw [hT]; exact hS.2.1 a q1 q2
  have hnw' : fm_nw A (fm_s' s T) T.heap := hnw.to (U := fm_s' s T) (State.WarmedH.refl s) hkeep (fun q h => h)
  obtain ⟨hg, hbad, hcl, hins, hini, hfit, hfour⟩ := hw
  have hall : ∀ a ∈ Bundle.ownAtoms0 (fm_cn u.2.2.2.2.1) ic cl fm_nms, a.before args (fm_s' s T) = true := by
    intro a ha
    cases hgw : goodWord a with
    | true => exact inTB a (hg a (List.mem_filter.mpr ⟨ha, hgw⟩))
    | false =>
      have hin : a ∈ fm_bad cl := by
        rw [← hbad]
        exact List.mem_filter.mpr ⟨ha, by rw [hgw]; rfl⟩
      obtain ⟨-, c1, c2, c3, c4, k1, k2, z1, z2, e1, e2, e3⟩ := hnw'
      simp only [fm_bad, List.mem_cons, List.not_mem_nil, or_false] at hin
      rcases hin with rfl | rfl | rfl | rfl | rfl | rfl | rfl | rfl
      · exact k1.use
      · exact k2.use
      · exact e1.use rfl
      · exact e2.use rfl
      · exact e3.use rfl
      · rcases hfour with rfl | rfl | rfl | rfl
        · exact c1.use rfl
        · exact c2.use rfl
        · exact c3.use rfl
        · exact c4.use rfl
      · exact fm_isref z1
      · exact fm_isref z2
  have hsl : ls.size = c.maxLocals := hl.1.trans hml.symm
  have Hw := fm_thW (R := { frames := R.frames, cells := 1, slots := 6, locals := R.locals }) (s := fm_s' s T) (p := p) (l := E.1) (e := e) (m := m) (args := args) (below := below) (pc := pc) (ls := ls) (st := fm_cs E.2.2.2.1 st) hx hb htr0 hlocks hempty hown (inTB _ hcl) (inTB _ hins) (inTB _ hini) hfit hall d0 d1 d2 d3 hsl (by show 5 < R.frames; omega) (by show _ + 81 ≤ R.locals; rw [fm_wd_cat]; omega) (Nat.le_refl _) (Nat.le_refl _)
  obtain ⟨t, a1, q, ce, b1, b2, b3, b4, b5, b6, b7⟩ := Hw T rfl XR
  have hsame : s.sameButNew ({ t with vm := s.vm } : State) locs (cells + 1) (slots + 6 * 1) := by
    have hmid : s.sameButNew (fm_s' s T) locs cells slots := by
      obtain ⟨y1, y2, y3, y4, y5, y6⟩ := XS.same
      refine ⟨?_, y2, y3, y4, y5, y6⟩
      have hfr : s.setFrames s.frames = s := by
        obtain ⟨t9, ht9, -⟩ := State.frames_cons XS.frames
        exact State.setFrames_self ht9
      show fm_s' s T = { s.setFrames s.frames with heap := T.heap, slotsUsed := T.slotsUsed }
      rw [hfr]
    have := hmid.trans b4
    rw [List.append_nil] at this
    exact this
  have hheap : ∀ z : Nat, z < T.heap.size → t.heap[z]? = T.heap[z]? := by
    intro z hz
    obtain ⟨y1, y2, y3, y4, y5, y6⟩ := b4
    obtain ⟨c', w1, w2, w3, w4⟩ := y6 z T.heap[z] (Array.getElem?_eq_getElem hz)
    have ec : c' = T.heap[z] := by
      rw [w2]
      have : c'.slots = T.heap[z].slots := by
        apply Array.ext_getElem?
        intro i
        exact w4 i (fun h => nomatch h)
      rw [this]
    show t.heap[z]? = _
    rw [Array.getElem?_eq_getElem hz, ← ec]
    exact w1
  have hsz : T.heap.size ≤ t.heap.size := b4.2.1
  refine ⟨t, a1, .threw q, b1, b2, ⟨q, ce, rfl, b5, b6, b7, ?_, ?_, hv.2.2⟩, locs, b3, hsame, hS.2.2⟩
  · refine hP.kept (fun k z hk => ?_)
    have hlt := (hP k z hk).lt
    rw [hheap z.1 (by rw [hT]; exact hlt), hT]
  · refine ⟨Nat.le_trans hS.1 (by rw [← hT]; exact hsz), fun z q1 q2 => ?_⟩
    rw [hheap z (by rw [hT]; exact Nat.lt_of_lt_of_le q1 hS.1), hT]
    exact hS.2.1 z q1 q2
end ThrowNew
end
section
/-! METHODS AS DATA, by program (wip/tools/gen_methods.py) -/

def fmA_ofWholes_i (k : Nat) : Option Instr := cond (Nat.blt k 18) (cond (Nat.blt k 5) (cond (Nat.blt k 2) (cond (Nat.blt k 1) (cond (Nat.beq k 0) (some (.iload_n 0)) (none)) (cond (Nat.beq k 1) (some (.lload_n 2)) (none))) (cond (Nat.blt k 4) (cond (Nat.beq k 2) (some (.lload 4)) (none)) (cond (Nat.beq k 4) (some (.iload_n 1)) (none)))) (cond (Nat.blt k 10) (cond (Nat.blt k 8) (cond (Nat.beq k 5) (some (.ifCond .ne 8)) (none)) (cond (Nat.beq k 8) (some (.bipush 31)) (none))) (cond (Nat.blt k 13) (cond (Nat.beq k 10) (some (.goto 5)) (none)) (cond (Nat.blt k 15) (cond (Nat.beq k 13) (some (.bipush 63)) (none)) (cond (Nat.beq k 15) (some (.invokestatic 9)) (none)))))) (cond (Nat.blt k 26) (cond (Nat.blt k 21) (cond (Nat.blt k 20) (cond (Nat.beq k 18) (some (.lstore 6)) (none)) (cond (Nat.beq k 20) (some (.iload_n 1)) (none))) (cond (Nat.blt k 24) (cond (Nat.beq k 21) (some (.ifCond .ne 10)) (none)) (cond (Nat.beq k 24) (some (.lload 6)) (none)))) (cond (Nat.blt k 28) (cond (Nat.blt k 27) (cond (Nat.beq k 26) (some (.l2i)) (none)) (cond (Nat.beq k 27) (some (.i2l)) (none))) (cond (Nat.blt k 31) (cond (Nat.beq k 28) (some (.goto 5)) (none)) (cond (Nat.blt k 33) (cond (Nat.beq k 31) (some (.lload 6)) (none)) (cond (Nat.beq k 33) (some (.lreturn)) (none))))))
def fmA_ofWholes : fm_Me := (⟨"FlatModule$Arithmetic", "ofWholes", "(IIJJ)J"⟩, prog_2_method_2_code, 8, some .long, 7, fm_f7, fm_cut 34 fmA_ofWholes_i)
theorem fmA_ofWholes_dc : fm_dc prog_2_method_2_code (fm_cut 34 fmA_ofWholes_i) := fm_dc_of (by decide +kernel)
theorem fmA_ofWholes_o : fm_mok fmA_ofWholes := ⟨⟨fm_f7_o, fmA_ofWholes_dc⟩, fm_tb (List.mem_of_getElem? (i := 549) (by decide +kernel)) rfl, fm_tb (List.mem_of_getElem? (i := 14) (by decide +kernel)) rfl, rfl, by decide +kernel, by decide⟩
def fmA_wholeOutcome_i (k : Nat) : Option Instr := cond (Nat.blt k 58) (cond (Nat.blt k 47) (cond (Nat.blt k 42) (cond (Nat.blt k 40) (cond (Nat.blt k 1) (cond (Nat.beq k 0) (some (.iload_n 0)) (none)) (cond (Nat.beq k 1) (some (.tableswitch 69 11 16 #[39, 43, 47, 51, 58, 65])) (none))) (cond (Nat.blt k 41) (cond (Nat.beq k 40) (some (.lload_n 1)) (none)) (cond (Nat.beq k 41) (some (.lload_n 3)) (none)))) (cond (Nat.blt k 44) (cond (Nat.blt k 43) (cond (Nat.beq k 42) (some (.ladd)) (none)) (cond (Nat.beq k 43) (some (.lreturn)) (none))) (cond (Nat.blt k 45) (cond (Nat.beq k 44) (some (.lload_n 1)) (none)) (cond (Nat.blt k 46) (cond (Nat.beq k 45) (some (.lload_n 3)) (none)) (cond (Nat.beq k 46) (some (.lsub)) (none)))))) (cond (Nat.blt k 51) (cond (Nat.blt k 49) (cond (Nat.blt k 48) (cond (Nat.beq k 47) (some (.lreturn)) (none)) (cond (Nat.beq k 48) (some (.lload_n 1)) (none))) (cond (Nat.blt k 50) (cond (Nat.beq k 49) (some (.lload_n 3)) (none)) (cond (Nat.beq k 50) (some (.lmul)) (none)))) (cond (Nat.blt k 53) (cond (Nat.blt k 52) (cond (Nat.beq k 51) (some (.lreturn)) (none)) (cond (Nat.beq k 52) (some (.lload_n 1)) (none))) (cond (Nat.blt k 54) (cond (Nat.beq k 53) (some (.lload_n 3)) (none)) (cond (Nat.blt k 57) (cond (Nat.beq k 54) (some (.invokestatic 15)) (none)) (cond (Nat.beq k 57) (some (.ldiv)) (none))))))) (cond (Nat.blt k 69) (cond (Nat.blt k 64) (cond (Nat.blt k 60) (cond (Nat.blt k 59) (cond (Nat.beq k 58) (some (.lreturn)) (none)) (cond (Nat.beq k 59) (some (.lload_n 1)) (none))) (cond (Nat.blt k 61) (cond (Nat.beq k 60) (some (.lload_n 3)) (none)) (cond (Nat.beq k 61) (some (.invokestatic 15)) (none)))) (cond (Nat.blt k 66) (cond (Nat.blt k 65) (cond (Nat.beq k 64) (some (.lrem)) (none)) (cond (Nat.beq k 65) (some (.lreturn)) (none))) (cond (Nat.blt k 67) (cond (Nat.beq k 66) (some (.lload_n 1)) (none)) (cond (Nat.blt k 68) (cond (Nat.beq k 67) (some (.lload_n 3)) (none)) (cond (Nat.beq k 68) (some (.land)) (none)))))) (cond (Nat.blt k 74) (cond (Nat.blt k 71) (cond (Nat.blt k 70) (cond (Nat.beq k 69) (some (.lreturn)) (none)) (cond (Nat.beq k 70) (some (.lload_n 1)) (none))) (cond (Nat.blt k 72) (cond (Nat.beq k 71) (some (.lload_n 3)) (none)) (cond (Nat.beq k 72) (some (.iload 5)) (none)))) (cond (Nat.blt k 76) (cond (Nat.blt k 75) (cond (Nat.beq k 74) (some (.i2l)) (none)) (cond (Nat.beq k 75) (some (.land)) (none))) (cond (Nat.blt k 77) (cond (Nat.beq k 76) (some (.l2i)) (none)) (cond (Nat.blt k 78) (cond (Nat.beq k 77) (some (.lshl)) (none)) (cond (Nat.beq k 78) (some (.lreturn)) (none)))))))
def fmA_wholeOutcome : fm_Me := (⟨"FlatModule$Arithmetic", "wholeOutcome", "(IJJI)J"⟩, prog_2_method_3_code, 6, some .long, 7, fm_f7, fm_cut 79 fmA_wholeOutcome_i)
theorem fmA_wholeOutcome_dc : fm_dc prog_2_method_3_code (fm_cut 79 fmA_wholeOutcome_i) := fm_dc_of (by decide +kernel)
theorem fmA_wholeOutcome_o : fm_mok fmA_wholeOutcome := ⟨⟨fm_f7_o, fmA_wholeOutcome_dc⟩, fm_tb (List.mem_of_getElem? (i := 552) (by decide +kernel)) rfl, fm_tb (List.mem_of_getElem? (i := 14) (by decide +kernel)) rfl, rfl, by decide +kernel, by decide⟩
def fmA_divisor_i (k : Nat) : Option Instr := cond (Nat.blt k 9) (cond (Nat.blt k 2) (cond (Nat.blt k 1) (cond (Nat.beq k 0) (some (.lload_n 0)) (none)) (cond (Nat.beq k 1) (some (.lconst 0)) (none))) (cond (Nat.blt k 3) (cond (Nat.beq k 2) (some (.lcmp)) (none)) (cond (Nat.blt k 6) (cond (Nat.beq k 3) (some (.ifCond .ne 11)) (none)) (cond (Nat.beq k 6) (some (.new 19)) (none))))) (cond (Nat.blt k 13) (cond (Nat.blt k 10) (cond (Nat.beq k 9) (some (.dup)) (none)) (cond (Nat.beq k 10) (some (.invokespecial 21)) (none))) (cond (Nat.blt k 14) (cond (Nat.beq k 13) (some (.athrow)) (none)) (cond (Nat.blt k 15) (cond (Nat.beq k 14) (some (.lload_n 0)) (none)) (cond (Nat.beq k 15) (some (.lreturn)) (none)))))
def fmA_divisor : fm_Me := (⟨"FlatModule$Arithmetic", "divisor", "(J)J"⟩, prog_2_method_4_code, 2, some .long, 7, fm_f7, fm_cut 16 fmA_divisor_i)
theorem fmA_divisor_dc : fm_dc prog_2_method_4_code (fm_cut 16 fmA_divisor_i) := fm_dc_of (by decide +kernel)
theorem fmA_divisor_o : fm_mok fmA_divisor := ⟨⟨fm_f7_o, fmA_divisor_dc⟩, fm_tb (List.mem_of_getElem? (i := 555) (by decide +kernel)) rfl, fm_tb (List.mem_of_getElem? (i := 14) (by decide +kernel)) rfl, rfl, by decide +kernel, by decide⟩
def fmA_ofFractions_i (k : Nat) : Option Instr := cond (Nat.blt k 49) (cond (Nat.blt k 24) (cond (Nat.blt k 13) (cond (Nat.blt k 6) (cond (Nat.blt k 1) (cond (Nat.beq k 0) (some (.iload_n 0)) (none)) (cond (Nat.blt k 3) (cond (Nat.beq k 1) (some (.bipush 14)) (none)) (cond (Nat.beq k 3) (some (.if_icmp .ne 18)) (none)))) (cond (Nat.blt k 9) (cond (Nat.blt k 8) (cond (Nat.beq k 6) (some (.dload 4)) (none)) (cond (Nat.beq k 8) (some (.dconst 0)) (none))) (cond (Nat.blt k 10) (cond (Nat.beq k 9) (some (.dcmp .l)) (none)) (cond (Nat.beq k 10) (some (.ifCond .ne 11)) (none))))) (cond (Nat.blt k 20) (cond (Nat.blt k 16) (cond (Nat.beq k 13) (some (.new 19)) (none)) (cond (Nat.blt k 17) (cond (Nat.beq k 16) (some (.dup)) (none)) (cond (Nat.beq k 17) (some (.invokespecial 21)) (none)))) (cond (Nat.blt k 22) (cond (Nat.blt k 21) (cond (Nat.beq k 20) (some (.athrow)) (none)) (cond (Nat.beq k 21) (some (.dload_n 2)) (none))) (cond (Nat.blt k 23) (cond (Nat.beq k 22) (some (.dload_n 2)) (none)) (cond (Nat.beq k 23) (some (.dcmp .l)) (none)))))) (cond (Nat.blt k 37) (cond (Nat.blt k 31) (cond (Nat.blt k 27) (cond (Nat.beq k 24) (some (.ifCond .ne 11)) (none)) (cond (Nat.blt k 29) (cond (Nat.beq k 27) (some (.dload 4)) (none)) (cond (Nat.beq k 29) (some (.dload 4)) (none)))) (cond (Nat.blt k 35) (cond (Nat.blt k 32) (cond (Nat.beq k 31) (some (.dcmp .l)) (none)) (cond (Nat.beq k 32) (some (.ifCond .eq 16)) (none))) (cond (Nat.blt k 36) (cond (Nat.beq k 35) (some (.dload_n 2)) (none)) (cond (Nat.beq k 36) (some (.dload_n 2)) (none))))) (cond (Nat.blt k 42) (cond (Nat.blt k 38) (cond (Nat.beq k 37) (some (.dcmp .l)) (none)) (cond (Nat.blt k 41) (cond (Nat.beq k 38) (some (.ifCond .eq 7)) (none)) (cond (Nat.beq k 41) (some (.dload_n 2)) (none)))) (cond (Nat.blt k 47) (cond (Nat.blt k 45) (cond (Nat.beq k 42) (some (.goto 5)) (none)) (cond (Nat.beq k 45) (some (.dload 4)) (none))) (cond (Nat.blt k 48) (cond (Nat.beq k 47) (some (.dreturn)) (none)) (cond (Nat.beq k 48) (some (.dload_n 2)) (none))))))) (cond (Nat.blt k 79) (cond (Nat.blt k 66) (cond (Nat.blt k 57) (cond (Nat.blt k 52) (cond (Nat.beq k 49) (some (.invokestatic 22)) (none)) (cond (Nat.blt k 55) (cond (Nat.beq k 52) (some (.ifCond .ne 17)) (none)) (cond (Nat.beq k 55) (some (.dload 4)) (none)))) (cond (Nat.blt k 63) (cond (Nat.blt k 60) (cond (Nat.beq k 57) (some (.invokestatic 22)) (none)) (cond (Nat.beq k 60) (some (.ifCond .eq 17)) (none))) (cond (Nat.blt k 64) (cond (Nat.beq k 63) (some (.iload_n 0)) (none)) (cond (Nat.beq k 64) (some (.bipush 14)) (none))))) (cond (Nat.blt k 73) (cond (Nat.blt k 69) (cond (Nat.beq k 66) (some (.if_icmp .eq 11)) (none)) (cond (Nat.blt k 72) (cond (Nat.beq k 69) (some (.new 19)) (none)) (cond (Nat.beq k 72) (some (.dup)) (none)))) (cond (Nat.blt k 77) (cond (Nat.blt k 76) (cond (Nat.beq k 73) (some (.invokespecial 21)) (none)) (cond (Nat.beq k 76) (some (.athrow)) (none))) (cond (Nat.blt k 78) (cond (Nat.beq k 77) (some (.iload_n 0)) (none)) (cond (Nat.beq k 78) (some (.dload_n 2)) (none)))))) (cond (Nat.blt k 93) (cond (Nat.blt k 86) (cond (Nat.blt k 81) (cond (Nat.beq k 79) (some (.dload 4)) (none)) (cond (Nat.blt k 84) (cond (Nat.beq k 81) (some (.invokestatic 26)) (none)) (cond (Nat.beq k 84) (some (.dstore 6)) (none)))) (cond (Nat.blt k 88) (cond (Nat.blt k 87) (cond (Nat.beq k 86) (some (.iload_n 1)) (none)) (cond (Nat.beq k 87) (some (.iconst 2)) (none))) (cond (Nat.blt k 91) (cond (Nat.beq k 88) (some (.if_icmp .ne 9)) (none)) (cond (Nat.beq k 91) (some (.dload 6)) (none))))) (cond (Nat.blt k 97) (cond (Nat.blt k 94) (cond (Nat.beq k 93) (some (.d2f)) (none)) (cond (Nat.blt k 95) (cond (Nat.beq k 94) (some (.f2d)) (none)) (cond (Nat.beq k 95) (some (.dstore 6)) (none)))) (cond (Nat.blt k 102) (cond (Nat.blt k 99) (cond (Nat.beq k 97) (some (.dload 6)) (none)) (cond (Nat.beq k 99) (some (.invokestatic 30)) (none))) (cond (Nat.blt k 104) (cond (Nat.beq k 102) (some (.dload 6)) (none)) (cond (Nat.beq k 104) (some (.dreturn)) (none)))))))
def fmA_ofFractions : fm_Me := (⟨"FlatModule$Arithmetic", "ofFractions", "(IIDD)D"⟩, prog_2_method_5_code, 8, some .double, 7, fm_f7, fm_cut 105 fmA_ofFractions_i)
theorem fmA_ofFractions_dc : fm_dc prog_2_method_5_code (fm_cut 105 fmA_ofFractions_i) := fm_dc_of (by decide +kernel)
theorem fmA_ofFractions_o : fm_mok fmA_ofFractions := ⟨⟨fm_f7_o, fmA_ofFractions_dc⟩, fm_tb (List.mem_of_getElem? (i := 558) (by decide +kernel)) rfl, fm_tb (List.mem_of_getElem? (i := 14) (by decide +kernel)) rfl, rfl, by decide +kernel, by decide⟩
def fmA_fractionOutcome_i (k : Nat) : Option Instr := cond (Nat.blt k 35) (cond (Nat.blt k 30) (cond (Nat.blt k 28) (cond (Nat.blt k 1) (cond (Nat.beq k 0) (some (.iload_n 0)) (none)) (cond (Nat.beq k 1) (some (.tableswitch 39 11 13 #[27, 31, 35])) (none))) (cond (Nat.blt k 29) (cond (Nat.beq k 28) (some (.dload_n 1)) (none)) (cond (Nat.beq k 29) (some (.dload_n 3)) (none)))) (cond (Nat.blt k 32) (cond (Nat.blt k 31) (cond (Nat.beq k 30) (some (.dadd)) (none)) (cond (Nat.beq k 31) (some (.dreturn)) (none))) (cond (Nat.blt k 33) (cond (Nat.beq k 32) (some (.dload_n 1)) (none)) (cond (Nat.blt k 34) (cond (Nat.beq k 33) (some (.dload_n 3)) (none)) (cond (Nat.beq k 34) (some (.dsub)) (none)))))) (cond (Nat.blt k 39) (cond (Nat.blt k 37) (cond (Nat.blt k 36) (cond (Nat.beq k 35) (some (.dreturn)) (none)) (cond (Nat.beq k 36) (some (.dload_n 1)) (none))) (cond (Nat.blt k 38) (cond (Nat.beq k 37) (some (.dload_n 3)) (none)) (cond (Nat.beq k 38) (some (.dmul)) (none)))) (cond (Nat.blt k 41) (cond (Nat.blt k 40) (cond (Nat.beq k 39) (some (.dreturn)) (none)) (cond (Nat.beq k 40) (some (.dload_n 1)) (none))) (cond (Nat.blt k 42) (cond (Nat.beq k 41) (some (.dload_n 3)) (none)) (cond (Nat.blt k 43) (cond (Nat.beq k 42) (some (.ddiv)) (none)) (cond (Nat.beq k 43) (some (.dreturn)) (none))))))
def fmA_fractionOutcome : fm_Me := (⟨"FlatModule$Arithmetic", "fractionOutcome", "(IDD)D"⟩, prog_2_method_6_code, 5, some .double, 7, fm_f7, fm_cut 44 fmA_fractionOutcome_i)
theorem fmA_fractionOutcome_dc : fm_dc prog_2_method_6_code (fm_cut 44 fmA_fractionOutcome_i) := fm_dc_of (by decide +kernel)
theorem fmA_fractionOutcome_o : fm_mok fmA_fractionOutcome := ⟨⟨fm_f7_o, fmA_fractionOutcome_dc⟩, fm_tb (List.mem_of_getElem? (i := 566) (by decide +kernel)) rfl, fm_tb (List.mem_of_getElem? (i := 14) (by decide +kernel)) rfl, rfl, by decide +kernel, by decide⟩
def fmA_asFloat_i (k : Nat) : Option Instr := cond (Nat.blt k 7) (cond (Nat.blt k 2) (cond (Nat.blt k 1) (cond (Nat.beq k 0) (some (.dload_n 0)) (none)) (cond (Nat.beq k 1) (some (.dload_n 0)) (none))) (cond (Nat.blt k 3) (cond (Nat.beq k 2) (some (.dcmp .l)) (none)) (cond (Nat.blt k 6) (cond (Nat.beq k 3) (some (.ifCond .eq 7)) (none)) (cond (Nat.beq k 6) (some (.dload_n 0)) (none))))) (cond (Nat.blt k 11) (cond (Nat.blt k 10) (cond (Nat.beq k 7) (some (.goto 6)) (none)) (cond (Nat.beq k 10) (some (.dload_n 0)) (none))) (cond (Nat.blt k 12) (cond (Nat.beq k 11) (some (.d2f)) (none)) (cond (Nat.blt k 13) (cond (Nat.beq k 12) (some (.f2d)) (none)) (cond (Nat.beq k 13) (some (.dreturn)) (none)))))
def fmA_asFloat : fm_Me := (⟨"FlatModule$Arithmetic", "asFloat", "(D)D"⟩, prog_2_method_7_code, 2, some .double, 7, fm_f7, fm_cut 14 fmA_asFloat_i)
theorem fmA_asFloat_dc : fm_dc prog_2_method_7_code (fm_cut 14 fmA_asFloat_i) := fm_dc_of (by decide +kernel)
theorem fmA_asFloat_o : fm_mok fmA_asFloat := ⟨⟨fm_f7_o, fmA_asFloat_dc⟩, fm_tb (List.mem_of_getElem? (i := 488) (by decide +kernel)) rfl, fm_tb (List.mem_of_getElem? (i := 14) (by decide +kernel)) rfl, rfl, by decide +kernel, by decide⟩
def fmA_trapIfTooLarge_i (k : Nat) : Option Instr := cond (Nat.blt k 12) (cond (Nat.blt k 5) (cond (Nat.blt k 1) (cond (Nat.beq k 0) (some (.dload_n 0)) (none)) (cond (Nat.blt k 4) (cond (Nat.beq k 1) (some (.ldc2_w 34)) (none)) (cond (Nat.beq k 4) (some (.dcmp .l)) (none)))) (cond (Nat.blt k 8) (cond (Nat.beq k 5) (some (.ifCond .gt 11)) (none)) (cond (Nat.blt k 9) (cond (Nat.beq k 8) (some (.dload_n 0)) (none)) (cond (Nat.beq k 9) (some (.ldc2_w 36)) (none))))) (cond (Nat.blt k 19) (cond (Nat.blt k 13) (cond (Nat.beq k 12) (some (.dcmp .g)) (none)) (cond (Nat.blt k 16) (cond (Nat.beq k 13) (some (.ifCond .ge 11)) (none)) (cond (Nat.beq k 16) (some (.new 19)) (none)))) (cond (Nat.blt k 23) (cond (Nat.blt k 20) (cond (Nat.beq k 19) (some (.dup)) (none)) (cond (Nat.beq k 20) (some (.invokespecial 21)) (none))) (cond (Nat.blt k 24) (cond (Nat.beq k 23) (some (.athrow)) (none)) (cond (Nat.beq k 24) (some (.return_)) (none)))))
def fmA_trapIfTooLarge : fm_Me := (⟨"FlatModule$Arithmetic", "trapIfTooLarge", "(D)V"⟩, prog_2_method_8_code, 2, none, 7, fm_f7, fm_cut 25 fmA_trapIfTooLarge_i)
theorem fmA_trapIfTooLarge_dc : fm_dc prog_2_method_8_code (fm_cut 25 fmA_trapIfTooLarge_i) := fm_dc_of (by decide +kernel)
theorem fmA_trapIfTooLarge_o : fm_mok fmA_trapIfTooLarge := ⟨⟨fm_f7_o, fmA_trapIfTooLarge_dc⟩, fm_tb (List.mem_of_getElem? (i := 525) (by decide +kernel)) rfl, fm_tb (List.mem_of_getElem? (i := 14) (by decide +kernel)) rfl, rfl, by decide +kernel, by decide⟩
def fmA_isEndless_i (k : Nat) : Option Instr := cond (Nat.blt k 12) (cond (Nat.blt k 5) (cond (Nat.blt k 1) (cond (Nat.beq k 0) (some (.dload_n 0)) (none)) (cond (Nat.blt k 4) (cond (Nat.beq k 1) (some (.ldc2_w 38)) (none)) (cond (Nat.beq k 4) (some (.dcmp .l)) (none)))) (cond (Nat.blt k 8) (cond (Nat.beq k 5) (some (.ifCond .gt 11)) (none)) (cond (Nat.blt k 9) (cond (Nat.beq k 8) (some (.dload_n 0)) (none)) (cond (Nat.beq k 9) (some (.ldc2_w 40)) (none))))) (cond (Nat.blt k 17) (cond (Nat.blt k 13) (cond (Nat.beq k 12) (some (.dcmp .g)) (none)) (cond (Nat.blt k 16) (cond (Nat.beq k 13) (some (.ifCond .ge 7)) (none)) (cond (Nat.beq k 16) (some (.iconst 1)) (none)))) (cond (Nat.blt k 20) (cond (Nat.beq k 17) (some (.goto 4)) (none)) (cond (Nat.blt k 21) (cond (Nat.beq k 20) (some (.iconst 0)) (none)) (cond (Nat.beq k 21) (some (.ireturn)) (none)))))
def fmA_isEndless : fm_Me := (⟨"FlatModule$Arithmetic", "isEndless", "(D)Z"⟩, prog_2_method_9_code, 2, some .boolean, 7, fm_f7, fm_cut 22 fmA_isEndless_i)
theorem fmA_isEndless_dc : fm_dc prog_2_method_9_code (fm_cut 22 fmA_isEndless_i) := fm_dc_of (by decide +kernel)
theorem fmA_isEndless_o : fm_mok fmA_isEndless := ⟨⟨fm_f7_o, fmA_isEndless_dc⟩, fm_tb (List.mem_of_getElem? (i := 561) (by decide +kernel)) rfl, fm_tb (List.mem_of_getElem? (i := 14) (by decide +kernel)) rfl, rfl, by decide +kernel, by decide⟩
end
section
/-! METHODS AS DATA, by program (wip/tools/gen_methods.py) -/

def fmC_firstFault_i (k : Nat) : Option Instr := cond (Nat.blt k 69) (cond (Nat.blt k 33) (cond (Nat.blt k 15) (cond (Nat.blt k 6) (cond (Nat.blt k 2) (cond (Nat.blt k 1) (cond (Nat.beq k 0) (some (.aload_n 0)) (none)) (cond (Nat.beq k 1) (some (.aload_n 1)) (none))) (cond (Nat.blt k 5) (cond (Nat.beq k 2) (some (.putfield 11)) (none)) (cond (Nat.beq k 5) (some (.aload_n 0)) (none)))) (cond (Nat.blt k 10) (cond (Nat.blt k 7) (cond (Nat.beq k 6) (some (.iload_n 2)) (none)) (cond (Nat.beq k 7) (some (.putfield 28)) (none))) (cond (Nat.blt k 11) (cond (Nat.beq k 10) (some (.aload_n 0)) (none)) (cond (Nat.blt k 12) (cond (Nat.beq k 11) (some (.iconst 0)) (none)) (cond (Nat.beq k 12) (some (.putfield 32)) (none)))))) (cond (Nat.blt k 22) (cond (Nat.blt k 17) (cond (Nat.blt k 16) (cond (Nat.beq k 15) (some (.aload_n 0)) (none)) (cond (Nat.beq k 16) (some (.iconst 0)) (none))) (cond (Nat.blt k 20) (cond (Nat.beq k 17) (some (.putfield 35)) (none)) (cond (Nat.blt k 21) (cond (Nat.beq k 20) (some (.aload_n 0)) (none)) (cond (Nat.beq k 21) (some (.iconst 0)) (none))))) (cond (Nat.blt k 26) (cond (Nat.blt k 25) (cond (Nat.beq k 22) (some (.putfield 38)) (none)) (cond (Nat.beq k 25) (some (.aload_n 0)) (none))) (cond (Nat.blt k 29) (cond (Nat.beq k 26) (some (.invokevirtual 41)) (none)) (cond (Nat.blt k 32) (cond (Nat.beq k 29) (some (.getfield 45)) (none)) (cond (Nat.beq k 32) (some (.iconst 0)) (none))))))) (cond (Nat.blt k 51) (cond (Nat.blt k 42) (cond (Nat.blt k 37) (cond (Nat.blt k 36) (cond (Nat.beq k 33) (some (.putfield 49)) (none)) (cond (Nat.beq k 36) (some (.aload_n 0)) (none))) (cond (Nat.blt k 40) (cond (Nat.beq k 37) (some (.getfield 23)) (none)) (cond (Nat.blt k 41) (cond (Nat.beq k 40) (some (.iconst 0)) (none)) (cond (Nat.beq k 41) (some (.aaload)) (none))))) (cond (Nat.blt k 44) (cond (Nat.blt k 43) (cond (Nat.beq k 42) (some (.iconst 0)) (none)) (cond (Nat.beq k 43) (some (.aload_n 0)) (none))) (cond (Nat.blt k 47) (cond (Nat.beq k 44) (some (.invokevirtual 41)) (none)) (cond (Nat.blt k 50) (cond (Nat.beq k 47) (some (.getfield 54)) (none)) (cond (Nat.beq k 50) (some (.iconst 0)) (none)))))) (cond (Nat.blt k 58) (cond (Nat.blt k 53) (cond (Nat.blt k 52) (cond (Nat.beq k 51) (some (.iconst 0)) (none)) (cond (Nat.beq k 52) (some (.iconst 1)) (none))) (cond (Nat.blt k 56) (cond (Nat.beq k 53) (some (.invokevirtual 57)) (none)) (cond (Nat.blt k 57) (cond (Nat.beq k 56) (some (.iconst 0)) (none)) (cond (Nat.beq k 57) (some (.istore_n 3)) (none))))) (cond (Nat.blt k 60) (cond (Nat.blt k 59) (cond (Nat.beq k 58) (some (.iload_n 3)) (none)) (cond (Nat.beq k 59) (some (.aload_n 0)) (none))) (cond (Nat.blt k 63) (cond (Nat.beq k 60) (some (.invokevirtual 41)) (none)) (cond (Nat.blt k 66) (cond (Nat.beq k 63) (some (.getfield 60)) (none)) (cond (Nat.beq k 66) (some (.if_icmp .ge 48)) (none)))))))) (cond (Nat.blt k 106) (cond (Nat.blt k 87) (cond (Nat.blt k 78) (cond (Nat.blt k 71) (cond (Nat.blt k 70) (cond (Nat.beq k 69) (some (.aload_n 0)) (none)) (cond (Nat.beq k 70) (some (.aload_n 0)) (none))) (cond (Nat.blt k 74) (cond (Nat.beq k 71) (some (.invokevirtual 41)) (none)) (cond (Nat.blt k 77) (cond (Nat.beq k 74) (some (.getfield 61)) (none)) (cond (Nat.beq k 77) (some (.iload_n 3)) (none))))) (cond (Nat.blt k 80) (cond (Nat.blt k 79) (cond (Nat.beq k 78) (some (.iaload)) (none)) (cond (Nat.beq k 79) (some (.aload_n 0)) (none))) (cond (Nat.blt k 83) (cond (Nat.beq k 80) (some (.invokevirtual 41)) (none)) (cond (Nat.blt k 86) (cond (Nat.beq k 83) (some (.getfield 64)) (none)) (cond (Nat.beq k 86) (some (.iload_n 3)) (none)))))) (cond (Nat.blt k 98) (cond (Nat.blt k 91) (cond (Nat.blt k 88) (cond (Nat.beq k 87) (some (.iaload)) (none)) (cond (Nat.beq k 88) (some (.invokevirtual 67)) (none))) (cond (Nat.blt k 92) (cond (Nat.beq k 91) (some (.aload_n 0)) (none)) (cond (Nat.blt k 95) (cond (Nat.beq k 92) (some (.getfield 32)) (none)) (cond (Nat.beq k 95) (some (.ifCond .eq 13)) (none))))) (cond (Nat.blt k 101) (cond (Nat.blt k 100) (cond (Nat.beq k 98) (some (.bipush 100)) (none)) (cond (Nat.beq k 100) (some (.iload_n 3)) (none))) (cond (Nat.blt k 102) (cond (Nat.beq k 101) (some (.imul)) (none)) (cond (Nat.blt k 103) (cond (Nat.beq k 102) (some (.aload_n 0)) (none)) (cond (Nat.beq k 103) (some (.getfield 32)) (none))))))) (cond (Nat.blt k 126) (cond (Nat.blt k 115) (cond (Nat.blt k 108) (cond (Nat.blt k 107) (cond (Nat.beq k 106) (some (.iadd)) (none)) (cond (Nat.beq k 107) (some (.ireturn)) (none))) (cond (Nat.blt k 111) (cond (Nat.beq k 108) (some (.iinc 3 1)) (none)) (cond (Nat.blt k 114) (cond (Nat.beq k 111) (some (.goto (-53))) (none)) (cond (Nat.beq k 114) (some (.aload_n 0)) (none))))) (cond (Nat.blt k 119) (cond (Nat.blt k 118) (cond (Nat.beq k 115) (some (.invokevirtual 71)) (none)) (cond (Nat.beq k 118) (some (.aload_n 0)) (none))) (cond (Nat.blt k 122) (cond (Nat.beq k 119) (some (.getfield 32)) (none)) (cond (Nat.blt k 125) (cond (Nat.beq k 122) (some (.ifCond .ne 7)) (none)) (cond (Nat.beq k 125) (some (.iconst 0)) (none)))))) (cond (Nat.blt k 138) (cond (Nat.blt k 131) (cond (Nat.blt k 129) (cond (Nat.beq k 126) (some (.goto 18)) (none)) (cond (Nat.beq k 129) (some (.bipush 100)) (none))) (cond (Nat.blt k 132) (cond (Nat.beq k 131) (some (.aload_n 0)) (none)) (cond (Nat.blt k 135) (cond (Nat.beq k 132) (some (.invokevirtual 41)) (none)) (cond (Nat.beq k 135) (some (.getfield 60)) (none))))) (cond (Nat.blt k 140) (cond (Nat.blt k 139) (cond (Nat.beq k 138) (some (.imul)) (none)) (cond (Nat.beq k 139) (some (.aload_n 0)) (none))) (cond (Nat.blt k 143) (cond (Nat.beq k 140) (some (.getfield 32)) (none)) (cond (Nat.blt k 144) (cond (Nat.beq k 143) (some (.iadd)) (none)) (cond (Nat.beq k 144) (some (.ireturn)) (none))))))))
def fmC_firstFault : fm_Me := (⟨"FlatModule$Checker", "firstFault", "([LFlatModule$Function;I)I"⟩, prog_3_method_2_code, 4, some .int, 1, fm_f1, fm_cut 145 fmC_firstFault_i)
theorem fmC_firstFault_dc : fm_dc prog_3_method_2_code (fm_cut 145 fmC_firstFault_i) := fm_dc_of (by decide +kernel)
theorem fmC_firstFault_o : fm_mok fmC_firstFault := ⟨⟨fm_f1_o, fmC_firstFault_dc⟩, fm_tb (List.mem_of_getElem? (i := 239) (by decide +kernel)) rfl, fm_tb (List.mem_of_getElem? (i := 2) (by decide +kernel)) rfl, rfl, by decide +kernel, by decide⟩
def fmC_subject_i (k : Nat) : Option Instr := cond (Nat.blt k 5) (cond (Nat.blt k 1) (cond (Nat.beq k 0) (some (.aload_n 0)) (none)) (cond (Nat.blt k 4) (cond (Nat.beq k 1) (some (.getfield 11)) (none)) (cond (Nat.beq k 4) (some (.aload_n 0)) (none)))) (cond (Nat.blt k 8) (cond (Nat.beq k 5) (some (.getfield 28)) (none)) (cond (Nat.blt k 9) (cond (Nat.beq k 8) (some (.aaload)) (none)) (cond (Nat.beq k 9) (some (.areturn)) (none))))
def fmC_subject : fm_Me := (⟨"FlatModule$Checker", "subject", "()LFlatModule$Function;"⟩, prog_3_method_3_code, 1, some (.object "FlatModule$Function"), 1, fm_f1, fm_cut 10 fmC_subject_i)
theorem fmC_subject_dc : fm_dc prog_3_method_3_code (fm_cut 10 fmC_subject_i) := fm_dc_of (by decide +kernel)
theorem fmC_subject_o : fm_mok fmC_subject := ⟨⟨fm_f1_o, fmC_subject_dc⟩, fm_tb (List.mem_of_getElem? (i := 243) (by decide +kernel)) rfl, fm_tb (List.mem_of_getElem? (i := 2) (by decide +kernel)) rfl, rfl, by decide +kernel, by decide⟩
def fmC_instruction_i (k : Nat) : Option Instr := cond (Nat.blt k 35) (cond (Nat.blt k 17) (cond (Nat.blt k 6) (cond (Nat.blt k 2) (cond (Nat.blt k 1) (cond (Nat.beq k 0) (some (.aload_n 0)) (none)) (cond (Nat.beq k 1) (some (.iload_n 1)) (none))) (cond (Nat.blt k 3) (cond (Nat.beq k 2) (some (.iload_n 2)) (none)) (cond (Nat.beq k 3) (some (.invokevirtual 74)) (none)))) (cond (Nat.blt k 10) (cond (Nat.blt k 9) (cond (Nat.beq k 6) (some (.ifCond .ne 11)) (none)) (cond (Nat.beq k 9) (some (.aload_n 0)) (none))) (cond (Nat.blt k 11) (cond (Nat.beq k 10) (some (.iconst 1)) (none)) (cond (Nat.blt k 14) (cond (Nat.beq k 11) (some (.putfield 32)) (none)) (cond (Nat.beq k 14) (some (.goto 54)) (none)))))) (cond (Nat.blt k 25) (cond (Nat.blt k 20) (cond (Nat.blt k 18) (cond (Nat.beq k 17) (some (.iload_n 1)) (none)) (cond (Nat.beq k 18) (some (.bipush 10)) (none))) (cond (Nat.blt k 23) (cond (Nat.beq k 20) (some (.if_icmp .gt 12)) (none)) (cond (Nat.blt k 24) (cond (Nat.beq k 23) (some (.aload_n 0)) (none)) (cond (Nat.beq k 24) (some (.iload_n 1)) (none))))) (cond (Nat.blt k 29) (cond (Nat.blt k 26) (cond (Nat.beq k 25) (some (.iload_n 2)) (none)) (cond (Nat.beq k 26) (some (.invokevirtual 78)) (none))) (cond (Nat.blt k 32) (cond (Nat.beq k 29) (some (.goto 39)) (none)) (cond (Nat.blt k 33) (cond (Nat.beq k 32) (some (.iload_n 1)) (none)) (cond (Nat.beq k 33) (some (.bipush 20)) (none))))))) (cond (Nat.blt k 53) (cond (Nat.blt k 41) (cond (Nat.blt k 39) (cond (Nat.blt k 38) (cond (Nat.beq k 35) (some (.if_icmp .gt 12)) (none)) (cond (Nat.beq k 38) (some (.aload_n 0)) (none))) (cond (Nat.blt k 40) (cond (Nat.beq k 39) (some (.iload_n 1)) (none)) (cond (Nat.beq k 40) (some (.iload_n 2)) (none)))) (cond (Nat.blt k 47) (cond (Nat.blt k 44) (cond (Nat.beq k 41) (some (.invokevirtual 81)) (none)) (cond (Nat.beq k 44) (some (.goto 24)) (none))) (cond (Nat.blt k 48) (cond (Nat.beq k 47) (some (.iload_n 1)) (none)) (cond (Nat.blt k 50) (cond (Nat.beq k 48) (some (.bipush 25)) (none)) (cond (Nat.beq k 50) (some (.if_icmp .gt 12)) (none)))))) (cond (Nat.blt k 62) (cond (Nat.blt k 55) (cond (Nat.blt k 54) (cond (Nat.beq k 53) (some (.aload_n 0)) (none)) (cond (Nat.beq k 54) (some (.iload_n 1)) (none))) (cond (Nat.blt k 56) (cond (Nat.beq k 55) (some (.iload_n 2)) (none)) (cond (Nat.blt k 59) (cond (Nat.beq k 56) (some (.invokevirtual 84)) (none)) (cond (Nat.beq k 59) (some (.goto 9)) (none))))) (cond (Nat.blt k 64) (cond (Nat.blt k 63) (cond (Nat.beq k 62) (some (.aload_n 0)) (none)) (cond (Nat.beq k 63) (some (.iload_n 1)) (none))) (cond (Nat.blt k 65) (cond (Nat.beq k 64) (some (.iload_n 2)) (none)) (cond (Nat.blt k 68) (cond (Nat.beq k 65) (some (.invokevirtual 87)) (none)) (cond (Nat.beq k 68) (some (.return_)) (none)))))))
def fmC_instruction : fm_Me := (⟨"FlatModule$Checker", "instruction", "(II)V"⟩, prog_3_method_4_code, 3, none, 1, fm_f1, fm_cut 69 fmC_instruction_i)
theorem fmC_instruction_dc : fm_dc prog_3_method_4_code (fm_cut 69 fmC_instruction_i) := fm_dc_of (by decide +kernel)
theorem fmC_instruction_o : fm_mok fmC_instruction := ⟨⟨fm_f1_o, fmC_instruction_dc⟩, fm_tb (List.mem_of_getElem? (i := 251) (by decide +kernel)) rfl, fm_tb (List.mem_of_getElem? (i := 2) (by decide +kernel)) rfl, rfl, by decide +kernel, by decide⟩
def fmC_isAsSaid_i (k : Nat) : Option Instr := cond (Nat.blt k 160) (cond (Nat.blt k 139) (cond (Nat.blt k 128) (cond (Nat.blt k 121) (cond (Nat.blt k 1) (cond (Nat.beq k 0) (some (.iload_n 1)) (none)) (cond (Nat.blt k 120) (cond (Nat.beq k 1) (some (.tableswitch 205 4 29 #[119, 119, 119, 133, 133, 205, 205, 139, 139, 139, 139, 145, 145, 145, 139, 139, 151, 158, 158, 158, 205, 205, 164, 164, 205, 173])) (none)) (cond (Nat.beq k 120) (some (.iload_n 2)) (none)))) (cond (Nat.blt k 122) (cond (Nat.beq k 121) (some (.aload_n 0)) (none)) (cond (Nat.blt k 125) (cond (Nat.beq k 122) (some (.invokevirtual 41)) (none)) (cond (Nat.beq k 125) (some (.getfield 90)) (none))))) (cond (Nat.blt k 133) (cond (Nat.blt k 129) (cond (Nat.beq k 128) (some (.iconst 1)) (none)) (cond (Nat.blt k 130) (cond (Nat.beq k 129) (some (.isub)) (none)) (cond (Nat.beq k 130) (some (.invokestatic 93)) (none)))) (cond (Nat.blt k 135) (cond (Nat.blt k 134) (cond (Nat.beq k 133) (some (.ireturn)) (none)) (cond (Nat.beq k 134) (some (.iload_n 2)) (none))) (cond (Nat.blt k 136) (cond (Nat.beq k 135) (some (.iconst 3)) (none)) (cond (Nat.beq k 136) (some (.invokestatic 93)) (none)))))) (cond (Nat.blt k 148) (cond (Nat.blt k 142) (cond (Nat.blt k 140) (cond (Nat.beq k 139) (some (.ireturn)) (none)) (cond (Nat.blt k 141) (cond (Nat.beq k 140) (some (.iload_n 2)) (none)) (cond (Nat.beq k 141) (some (.iconst 3)) (none)))) (cond (Nat.blt k 146) (cond (Nat.blt k 145) (cond (Nat.beq k 142) (some (.invokestatic 93)) (none)) (cond (Nat.beq k 145) (some (.ireturn)) (none))) (cond (Nat.blt k 147) (cond (Nat.beq k 146) (some (.iload_n 2)) (none)) (cond (Nat.beq k 147) (some (.iconst 1)) (none))))) (cond (Nat.blt k 153) (cond (Nat.blt k 151) (cond (Nat.beq k 148) (some (.invokestatic 93)) (none)) (cond (Nat.blt k 152) (cond (Nat.beq k 151) (some (.ireturn)) (none)) (cond (Nat.beq k 152) (some (.iload_n 2)) (none)))) (cond (Nat.blt k 158) (cond (Nat.blt k 155) (cond (Nat.beq k 153) (some (.bipush 15)) (none)) (cond (Nat.beq k 155) (some (.invokestatic 93)) (none))) (cond (Nat.blt k 159) (cond (Nat.beq k 158) (some (.ireturn)) (none)) (cond (Nat.beq k 159) (some (.iload_n 2)) (none))))))) (cond (Nat.blt k 182) (cond (Nat.blt k 173) (cond (Nat.blt k 165) (cond (Nat.blt k 161) (cond (Nat.beq k 160) (some (.iconst 4)) (none)) (cond (Nat.blt k 164) (cond (Nat.beq k 161) (some (.invokestatic 93)) (none)) (cond (Nat.beq k 164) (some (.ireturn)) (none)))) (cond (Nat.blt k 167) (cond (Nat.blt k 166) (cond (Nat.beq k 165) (some (.iload_n 2)) (none)) (cond (Nat.beq k 166) (some (.aload_n 0)) (none))) (cond (Nat.blt k 170) (cond (Nat.beq k 167) (some (.getfield 38)) (none)) (cond (Nat.beq k 170) (some (.invokestatic 93)) (none))))) (cond (Nat.blt k 176) (cond (Nat.blt k 174) (cond (Nat.beq k 173) (some (.ireturn)) (none)) (cond (Nat.blt k 175) (cond (Nat.beq k 174) (some (.iload_n 2)) (none)) (cond (Nat.beq k 175) (some (.aload_n 0)) (none)))) (cond (Nat.blt k 180) (cond (Nat.blt k 179) (cond (Nat.beq k 176) (some (.getfield 11)) (none)) (cond (Nat.beq k 179) (some (.arraylength)) (none))) (cond (Nat.blt k 181) (cond (Nat.beq k 180) (some (.iconst 1)) (none)) (cond (Nat.beq k 181) (some (.isub)) (none)))))) (cond (Nat.blt k 197) (cond (Nat.blt k 189) (cond (Nat.blt k 185) (cond (Nat.beq k 182) (some (.invokestatic 93)) (none)) (cond (Nat.blt k 188) (cond (Nat.beq k 185) (some (.ifCond .eq 19)) (none)) (cond (Nat.beq k 188) (some (.aload_n 0)) (none)))) (cond (Nat.blt k 193) (cond (Nat.blt k 192) (cond (Nat.beq k 189) (some (.getfield 11)) (none)) (cond (Nat.beq k 192) (some (.iload_n 2)) (none))) (cond (Nat.blt k 194) (cond (Nat.beq k 193) (some (.aaload)) (none)) (cond (Nat.beq k 194) (some (.getfield 96)) (none))))) (cond (Nat.blt k 204) (cond (Nat.blt k 200) (cond (Nat.beq k 197) (some (.ifCond .eq 7)) (none)) (cond (Nat.blt k 201) (cond (Nat.beq k 200) (some (.iconst 1)) (none)) (cond (Nat.beq k 201) (some (.goto 4)) (none)))) (cond (Nat.blt k 206) (cond (Nat.blt k 205) (cond (Nat.beq k 204) (some (.iconst 0)) (none)) (cond (Nat.beq k 205) (some (.ireturn)) (none))) (cond (Nat.blt k 207) (cond (Nat.beq k 206) (some (.iconst 1)) (none)) (cond (Nat.beq k 207) (some (.ireturn)) (none)))))))
def fmC_isAsSaid : fm_Me := (⟨"FlatModule$Checker", "isAsSaid", "(II)Z"⟩, prog_3_method_5_code, 3, some .boolean, 1, fm_f1, fm_cut 208 fmC_isAsSaid_i)
theorem fmC_isAsSaid_dc : fm_dc prog_3_method_5_code (fm_cut 208 fmC_isAsSaid_i) := fm_dc_of (by decide +kernel)
theorem fmC_isAsSaid_o : fm_mok fmC_isAsSaid := ⟨⟨fm_f1_o, fmC_isAsSaid_dc⟩, fm_tb (List.mem_of_getElem? (i := 255) (by decide +kernel)) rfl, fm_tb (List.mem_of_getElem? (i := 2) (by decide +kernel)) rfl, rfl, by decide +kernel, by decide⟩
def fmC_moveValues_i (k : Nat) : Option Instr := cond (Nat.blt k 131) (cond (Nat.blt k 84) (cond (Nat.blt k 61) (cond (Nat.blt k 50) (cond (Nat.blt k 45) (cond (Nat.blt k 1) (cond (Nat.beq k 0) (some (.iload_n 1)) (none)) (cond (Nat.blt k 44) (cond (Nat.beq k 1) (some (.tableswitch 205 4 10 #[43, 66, 90, 127, 142, 158, 174])) (none)) (cond (Nat.beq k 44) (some (.aload_n 0)) (none)))) (cond (Nat.blt k 46) (cond (Nat.beq k 45) (some (.iload_n 1)) (none)) (cond (Nat.blt k 47) (cond (Nat.beq k 46) (some (.iload_n 2)) (none)) (cond (Nat.beq k 47) (some (.invokevirtual 100)) (none))))) (cond (Nat.blt k 53) (cond (Nat.blt k 51) (cond (Nat.beq k 50) (some (.pop)) (none)) (cond (Nat.blt k 52) (cond (Nat.beq k 51) (some (.aload_n 0)) (none)) (cond (Nat.beq k 52) (some (.aload_n 0)) (none)))) (cond (Nat.blt k 59) (cond (Nat.blt k 56) (cond (Nat.beq k 53) (some (.invokevirtual 41)) (none)) (cond (Nat.beq k 56) (some (.getfield 104)) (none))) (cond (Nat.blt k 60) (cond (Nat.beq k 59) (some (.iload_n 2)) (none)) (cond (Nat.beq k 60) (some (.iaload)) (none)))))) (cond (Nat.blt k 75) (cond (Nat.blt k 68) (cond (Nat.blt k 64) (cond (Nat.beq k 61) (some (.invokevirtual 105)) (none)) (cond (Nat.blt k 67) (cond (Nat.beq k 64) (some (.goto 154)) (none)) (cond (Nat.beq k 67) (some (.aload_n 0)) (none)))) (cond (Nat.blt k 69) (cond (Nat.beq k 68) (some (.aload_n 0)) (none)) (cond (Nat.blt k 72) (cond (Nat.beq k 69) (some (.invokevirtual 41)) (none)) (cond (Nat.beq k 72) (some (.getfield 104)) (none))))) (cond (Nat.blt k 80) (cond (Nat.blt k 76) (cond (Nat.beq k 75) (some (.iload_n 2)) (none)) (cond (Nat.blt k 77) (cond (Nat.beq k 76) (some (.iaload)) (none)) (cond (Nat.beq k 77) (some (.invokevirtual 109)) (none)))) (cond (Nat.blt k 82) (cond (Nat.blt k 81) (cond (Nat.beq k 80) (some (.pop)) (none)) (cond (Nat.beq k 81) (some (.aload_n 0)) (none))) (cond (Nat.blt k 83) (cond (Nat.beq k 82) (some (.iload_n 1)) (none)) (cond (Nat.beq k 83) (some (.iload_n 2)) (none))))))) (cond (Nat.blt k 107) (cond (Nat.blt k 96) (cond (Nat.blt k 91) (cond (Nat.blt k 87) (cond (Nat.beq k 84) (some (.invokevirtual 100)) (none)) (cond (Nat.blt k 88) (cond (Nat.beq k 87) (some (.pop)) (none)) (cond (Nat.beq k 88) (some (.goto 130)) (none)))) (cond (Nat.blt k 92) (cond (Nat.beq k 91) (some (.aload_n 0)) (none)) (cond (Nat.blt k 93) (cond (Nat.beq k 92) (some (.aload_n 0)) (none)) (cond (Nat.beq k 93) (some (.invokevirtual 41)) (none))))) (cond (Nat.blt k 101) (cond (Nat.blt k 99) (cond (Nat.beq k 96) (some (.getfield 104)) (none)) (cond (Nat.blt k 100) (cond (Nat.beq k 99) (some (.iload_n 2)) (none)) (cond (Nat.beq k 100) (some (.iaload)) (none)))) (cond (Nat.blt k 105) (cond (Nat.blt k 104) (cond (Nat.beq k 101) (some (.invokevirtual 109)) (none)) (cond (Nat.beq k 104) (some (.pop)) (none))) (cond (Nat.blt k 106) (cond (Nat.beq k 105) (some (.aload_n 0)) (none)) (cond (Nat.beq k 106) (some (.iload_n 1)) (none)))))) (cond (Nat.blt k 120) (cond (Nat.blt k 112) (cond (Nat.blt k 108) (cond (Nat.beq k 107) (some (.iload_n 2)) (none)) (cond (Nat.blt k 111) (cond (Nat.beq k 108) (some (.invokevirtual 100)) (none)) (cond (Nat.beq k 111) (some (.pop)) (none)))) (cond (Nat.blt k 114) (cond (Nat.blt k 113) (cond (Nat.beq k 112) (some (.aload_n 0)) (none)) (cond (Nat.beq k 113) (some (.aload_n 0)) (none))) (cond (Nat.blt k 117) (cond (Nat.beq k 114) (some (.invokevirtual 41)) (none)) (cond (Nat.beq k 117) (some (.getfield 104)) (none))))) (cond (Nat.blt k 125) (cond (Nat.blt k 121) (cond (Nat.beq k 120) (some (.iload_n 2)) (none)) (cond (Nat.blt k 122) (cond (Nat.beq k 121) (some (.iaload)) (none)) (cond (Nat.beq k 122) (some (.invokevirtual 105)) (none)))) (cond (Nat.blt k 129) (cond (Nat.blt k 128) (cond (Nat.beq k 125) (some (.goto 93)) (none)) (cond (Nat.beq k 128) (some (.aload_n 0)) (none))) (cond (Nat.blt k 130) (cond (Nat.beq k 129) (some (.iload_n 1)) (none)) (cond (Nat.beq k 130) (some (.iload_n 2)) (none)))))))) (cond (Nat.blt k 176) (cond (Nat.blt k 152) (cond (Nat.blt k 143) (cond (Nat.blt k 136) (cond (Nat.blt k 134) (cond (Nat.beq k 131) (some (.invokevirtual 100)) (none)) (cond (Nat.blt k 135) (cond (Nat.beq k 134) (some (.pop)) (none)) (cond (Nat.beq k 135) (some (.aload_n 0)) (none)))) (cond (Nat.blt k 137) (cond (Nat.beq k 136) (some (.iload_n 2)) (none)) (cond (Nat.blt k 140) (cond (Nat.beq k 137) (some (.invokevirtual 105)) (none)) (cond (Nat.beq k 140) (some (.goto 78)) (none))))) (cond (Nat.blt k 148) (cond (Nat.blt k 144) (cond (Nat.beq k 143) (some (.aload_n 0)) (none)) (cond (Nat.blt k 145) (cond (Nat.beq k 144) (some (.iload_n 2)) (none)) (cond (Nat.beq k 145) (some (.invokevirtual 109)) (none)))) (cond (Nat.blt k 150) (cond (Nat.blt k 149) (cond (Nat.beq k 148) (some (.pop)) (none)) (cond (Nat.beq k 149) (some (.aload_n 0)) (none))) (cond (Nat.blt k 151) (cond (Nat.beq k 150) (some (.iload_n 1)) (none)) (cond (Nat.beq k 151) (some (.iload_n 2)) (none)))))) (cond (Nat.blt k 165) (cond (Nat.blt k 159) (cond (Nat.blt k 155) (cond (Nat.beq k 152) (some (.invokevirtual 100)) (none)) (cond (Nat.blt k 156) (cond (Nat.beq k 155) (some (.pop)) (none)) (cond (Nat.beq k 156) (some (.goto 62)) (none)))) (cond (Nat.blt k 161) (cond (Nat.blt k 160) (cond (Nat.beq k 159) (some (.aload_n 0)) (none)) (cond (Nat.beq k 160) (some (.iconst 5)) (none))) (cond (Nat.blt k 164) (cond (Nat.beq k 161) (some (.invokevirtual 109)) (none)) (cond (Nat.beq k 164) (some (.pop)) (none))))) (cond (Nat.blt k 168) (cond (Nat.blt k 166) (cond (Nat.beq k 165) (some (.aload_n 0)) (none)) (cond (Nat.blt k 167) (cond (Nat.beq k 166) (some (.iload_n 1)) (none)) (cond (Nat.beq k 167) (some (.iload_n 2)) (none)))) (cond (Nat.blt k 172) (cond (Nat.blt k 171) (cond (Nat.beq k 168) (some (.invokevirtual 100)) (none)) (cond (Nat.beq k 171) (some (.pop)) (none))) (cond (Nat.blt k 175) (cond (Nat.beq k 172) (some (.goto 46)) (none)) (cond (Nat.beq k 175) (some (.aload_n 0)) (none))))))) (cond (Nat.blt k 197) (cond (Nat.blt k 184) (cond (Nat.blt k 181) (cond (Nat.blt k 177) (cond (Nat.beq k 176) (some (.iconst 0)) (none)) (cond (Nat.blt k 180) (cond (Nat.beq k 177) (some (.invokevirtual 109)) (none)) (cond (Nat.beq k 180) (some (.pop)) (none)))) (cond (Nat.blt k 182) (cond (Nat.beq k 181) (some (.aload_n 0)) (none)) (cond (Nat.blt k 183) (cond (Nat.beq k 182) (some (.aload_n 0)) (none)) (cond (Nat.beq k 183) (some (.iconst 5)) (none))))) (cond (Nat.blt k 191) (cond (Nat.blt k 187) (cond (Nat.beq k 184) (some (.invokevirtual 109)) (none)) (cond (Nat.blt k 190) (cond (Nat.beq k 187) (some (.invokevirtual 109)) (none)) (cond (Nat.beq k 190) (some (.istore_n 3)) (none)))) (cond (Nat.blt k 193) (cond (Nat.blt k 192) (cond (Nat.beq k 191) (some (.aload_n 0)) (none)) (cond (Nat.beq k 192) (some (.iload_n 1)) (none))) (cond (Nat.blt k 194) (cond (Nat.beq k 193) (some (.iload_n 2)) (none)) (cond (Nat.beq k 194) (some (.invokevirtual 100)) (none)))))) (cond (Nat.blt k 208) (cond (Nat.blt k 200) (cond (Nat.blt k 198) (cond (Nat.beq k 197) (some (.pop)) (none)) (cond (Nat.blt k 199) (cond (Nat.beq k 198) (some (.aload_n 0)) (none)) (cond (Nat.beq k 199) (some (.iload_n 3)) (none)))) (cond (Nat.blt k 206) (cond (Nat.blt k 203) (cond (Nat.beq k 200) (some (.invokevirtual 105)) (none)) (cond (Nat.beq k 203) (some (.goto 15)) (none))) (cond (Nat.blt k 207) (cond (Nat.beq k 206) (some (.aload_n 0)) (none)) (cond (Nat.beq k 207) (some (.iload_n 1)) (none))))) (cond (Nat.blt k 213) (cond (Nat.blt k 209) (cond (Nat.beq k 208) (some (.iload_n 2)) (none)) (cond (Nat.blt k 212) (cond (Nat.beq k 209) (some (.invokevirtual 100)) (none)) (cond (Nat.beq k 212) (some (.pop)) (none)))) (cond (Nat.blt k 215) (cond (Nat.blt k 214) (cond (Nat.beq k 213) (some (.aload_n 0)) (none)) (cond (Nat.beq k 214) (some (.iload_n 1)) (none))) (cond (Nat.blt k 218) (cond (Nat.beq k 215) (some (.invokevirtual 105)) (none)) (cond (Nat.beq k 218) (some (.return_)) (none))))))))
def fmC_moveValues : fm_Me := (⟨"FlatModule$Checker", "moveValues", "(II)V"⟩, prog_3_method_6_code, 4, none, 1, fm_f1, fm_cut 219 fmC_moveValues_i)
theorem fmC_moveValues_dc : fm_dc prog_3_method_6_code (fm_cut 219 fmC_moveValues_i) := fm_dc_of (by decide +kernel)
theorem fmC_moveValues_o : fm_mok fmC_moveValues := ⟨⟨fm_f1_o, fmC_moveValues_dc⟩, fm_tb (List.mem_of_getElem? (i := 262) (by decide +kernel)) rfl, fm_tb (List.mem_of_getElem? (i := 2) (by decide +kernel)) rfl, rfl, by decide +kernel, by decide⟩
def fmC_compute_i (k : Nat) : Option Instr := cond (Nat.blt k 33) (cond (Nat.blt k 16) (cond (Nat.blt k 8) (cond (Nat.blt k 3) (cond (Nat.blt k 1) (cond (Nat.beq k 0) (some (.iload_n 1)) (none)) (cond (Nat.beq k 1) (some (.bipush 20)) (none))) (cond (Nat.blt k 6) (cond (Nat.beq k 3) (some (.if_icmp .ne 28)) (none)) (cond (Nat.blt k 7) (cond (Nat.beq k 6) (some (.aload_n 0)) (none)) (cond (Nat.beq k 7) (some (.iload_n 2)) (none))))) (cond (Nat.blt k 13) (cond (Nat.blt k 9) (cond (Nat.beq k 8) (some (.iconst 4)) (none)) (cond (Nat.blt k 10) (cond (Nat.beq k 9) (some (.idiv)) (none)) (cond (Nat.beq k 10) (some (.invokevirtual 109)) (none)))) (cond (Nat.blt k 14) (cond (Nat.beq k 13) (some (.pop)) (none)) (cond (Nat.blt k 15) (cond (Nat.beq k 14) (some (.aload_n 0)) (none)) (cond (Nat.beq k 15) (some (.iload_n 1)) (none)))))) (cond (Nat.blt k 23) (cond (Nat.blt k 20) (cond (Nat.blt k 17) (cond (Nat.beq k 16) (some (.iload_n 2)) (none)) (cond (Nat.beq k 17) (some (.invokevirtual 100)) (none))) (cond (Nat.blt k 21) (cond (Nat.beq k 20) (some (.pop)) (none)) (cond (Nat.blt k 22) (cond (Nat.beq k 21) (some (.aload_n 0)) (none)) (cond (Nat.beq k 22) (some (.iload_n 2)) (none))))) (cond (Nat.blt k 28) (cond (Nat.blt k 24) (cond (Nat.beq k 23) (some (.iconst 4)) (none)) (cond (Nat.blt k 25) (cond (Nat.beq k 24) (some (.irem)) (none)) (cond (Nat.beq k 25) (some (.invokevirtual 105)) (none)))) (cond (Nat.blt k 31) (cond (Nat.beq k 28) (some (.goto 43)) (none)) (cond (Nat.blt k 32) (cond (Nat.beq k 31) (some (.aload_n 0)) (none)) (cond (Nat.beq k 32) (some (.iload_n 2)) (none))))))) (cond (Nat.blt k 50) (cond (Nat.blt k 42) (cond (Nat.blt k 37) (cond (Nat.blt k 36) (cond (Nat.beq k 33) (some (.invokevirtual 109)) (none)) (cond (Nat.beq k 36) (some (.pop)) (none))) (cond (Nat.blt k 38) (cond (Nat.beq k 37) (some (.aload_n 0)) (none)) (cond (Nat.blt k 39) (cond (Nat.beq k 38) (some (.iload_n 2)) (none)) (cond (Nat.beq k 39) (some (.invokevirtual 109)) (none))))) (cond (Nat.blt k 45) (cond (Nat.blt k 43) (cond (Nat.beq k 42) (some (.pop)) (none)) (cond (Nat.blt k 44) (cond (Nat.beq k 43) (some (.aload_n 0)) (none)) (cond (Nat.beq k 44) (some (.iload_n 1)) (none)))) (cond (Nat.blt k 46) (cond (Nat.beq k 45) (some (.iload_n 2)) (none)) (cond (Nat.blt k 49) (cond (Nat.beq k 46) (some (.invokevirtual 100)) (none)) (cond (Nat.beq k 49) (some (.pop)) (none)))))) (cond (Nat.blt k 60) (cond (Nat.blt k 54) (cond (Nat.blt k 51) (cond (Nat.beq k 50) (some (.aload_n 0)) (none)) (cond (Nat.blt k 52) (cond (Nat.beq k 51) (some (.iload_n 1)) (none)) (cond (Nat.beq k 52) (some (.bipush 18)) (none)))) (cond (Nat.blt k 57) (cond (Nat.beq k 54) (some (.if_icmp .eq 9)) (none)) (cond (Nat.blt k 58) (cond (Nat.beq k 57) (some (.iload_n 1)) (none)) (cond (Nat.beq k 58) (some (.bipush 19)) (none))))) (cond (Nat.blt k 67) (cond (Nat.blt k 63) (cond (Nat.beq k 60) (some (.if_icmp .ne 7)) (none)) (cond (Nat.blt k 64) (cond (Nat.beq k 63) (some (.iconst 0)) (none)) (cond (Nat.beq k 64) (some (.goto 4)) (none)))) (cond (Nat.blt k 68) (cond (Nat.beq k 67) (some (.iload_n 2)) (none)) (cond (Nat.blt k 71) (cond (Nat.beq k 68) (some (.invokevirtual 105)) (none)) (cond (Nat.beq k 71) (some (.return_)) (none)))))))
def fmC_compute : fm_Me := (⟨"FlatModule$Checker", "compute", "(II)V"⟩, prog_3_method_7_code, 3, none, 1, fm_f1, fm_cut 72 fmC_compute_i)
theorem fmC_compute_dc : fm_dc prog_3_method_7_code (fm_cut 72 fmC_compute_i) := fm_dc_of (by decide +kernel)
theorem fmC_compute_o : fm_mok fmC_compute := ⟨⟨fm_f1_o, fmC_compute_dc⟩, fm_tb (List.mem_of_getElem? (i := 286) (by decide +kernel)) rfl, fm_tb (List.mem_of_getElem? (i := 2) (by decide +kernel)) rfl, rfl, by decide +kernel, by decide⟩
def fmC_nest_i (k : Nat) : Option Instr := cond (Nat.blt k 51) (cond (Nat.blt k 36) (cond (Nat.blt k 30) (cond (Nat.blt k 28) (cond (Nat.blt k 1) (cond (Nat.beq k 0) (some (.iload_n 1)) (none)) (cond (Nat.beq k 1) (some (.tableswitch 76 23 25 #[27, 62, 69])) (none))) (cond (Nat.blt k 29) (cond (Nat.beq k 28) (some (.aload_n 0)) (none)) (cond (Nat.beq k 29) (some (.iconst 0)) (none)))) (cond (Nat.blt k 34) (cond (Nat.blt k 33) (cond (Nat.beq k 30) (some (.invokevirtual 109)) (none)) (cond (Nat.beq k 33) (some (.pop)) (none))) (cond (Nat.blt k 35) (cond (Nat.beq k 34) (some (.aload_n 0)) (none)) (cond (Nat.beq k 35) (some (.iload_n 1)) (none))))) (cond (Nat.blt k 42) (cond (Nat.blt k 40) (cond (Nat.blt k 37) (cond (Nat.beq k 36) (some (.iload_n 2)) (none)) (cond (Nat.beq k 37) (some (.invokevirtual 100)) (none))) (cond (Nat.blt k 41) (cond (Nat.beq k 40) (some (.istore_n 3)) (none)) (cond (Nat.beq k 41) (some (.aload_n 0)) (none)))) (cond (Nat.blt k 44) (cond (Nat.blt k 43) (cond (Nat.beq k 42) (some (.iload_n 1)) (none)) (cond (Nat.beq k 43) (some (.iload_n 2)) (none))) (cond (Nat.blt k 47) (cond (Nat.beq k 44) (some (.invokevirtual 113)) (none)) (cond (Nat.blt k 48) (cond (Nat.beq k 47) (some (.aload_n 0)) (none)) (cond (Nat.beq k 48) (some (.getfield 23)) (none))))))) (cond (Nat.blt k 67) (cond (Nat.blt k 57) (cond (Nat.blt k 55) (cond (Nat.blt k 52) (cond (Nat.beq k 51) (some (.aload_n 0)) (none)) (cond (Nat.beq k 52) (some (.getfield 38)) (none))) (cond (Nat.blt k 56) (cond (Nat.beq k 55) (some (.aaload)) (none)) (cond (Nat.beq k 56) (some (.iload_n 3)) (none)))) (cond (Nat.blt k 63) (cond (Nat.blt k 60) (cond (Nat.beq k 57) (some (.putfield 116)) (none)) (cond (Nat.beq k 60) (some (.goto 23)) (none))) (cond (Nat.blt k 64) (cond (Nat.beq k 63) (some (.aload_n 0)) (none)) (cond (Nat.beq k 64) (some (.invokevirtual 119)) (none))))) (cond (Nat.blt k 77) (cond (Nat.blt k 71) (cond (Nat.blt k 70) (cond (Nat.beq k 67) (some (.goto 16)) (none)) (cond (Nat.beq k 70) (some (.aload_n 0)) (none))) (cond (Nat.blt k 74) (cond (Nat.beq k 71) (some (.invokevirtual 122)) (none)) (cond (Nat.beq k 74) (some (.goto 9)) (none)))) (cond (Nat.blt k 79) (cond (Nat.blt k 78) (cond (Nat.beq k 77) (some (.aload_n 0)) (none)) (cond (Nat.beq k 78) (some (.iload_n 1)) (none))) (cond (Nat.blt k 80) (cond (Nat.beq k 79) (some (.iload_n 2)) (none)) (cond (Nat.blt k 83) (cond (Nat.beq k 80) (some (.invokevirtual 113)) (none)) (cond (Nat.beq k 83) (some (.return_)) (none)))))))
def fmC_nest : fm_Me := (⟨"FlatModule$Checker", "nest", "(II)V"⟩, prog_3_method_8_code, 4, none, 1, fm_f1, fm_cut 84 fmC_nest_i)
theorem fmC_nest_dc : fm_dc prog_3_method_8_code (fm_cut 84 fmC_nest_i) := fm_dc_of (by decide +kernel)
theorem fmC_nest_o : fm_mok fmC_nest := ⟨⟨fm_f1_o, fmC_nest_dc⟩, fm_tb (List.mem_of_getElem? (i := 290) (by decide +kernel)) rfl, fm_tb (List.mem_of_getElem? (i := 2) (by decide +kernel)) rfl, rfl, by decide +kernel, by decide⟩
def fmC_openFrame_i (k : Nat) : Option Instr := cond (Nat.blt k 39) (cond (Nat.blt k 19) (cond (Nat.blt k 8) (cond (Nat.blt k 4) (cond (Nat.blt k 1) (cond (Nat.beq k 0) (some (.aload_n 0)) (none)) (cond (Nat.beq k 1) (some (.getfield 32)) (none))) (cond (Nat.blt k 7) (cond (Nat.beq k 4) (some (.ifCond .ne 18)) (none)) (cond (Nat.beq k 7) (some (.aload_n 0)) (none)))) (cond (Nat.blt k 13) (cond (Nat.blt k 11) (cond (Nat.beq k 8) (some (.getfield 38)) (none)) (cond (Nat.beq k 11) (some (.bipush 8)) (none))) (cond (Nat.blt k 16) (cond (Nat.beq k 13) (some (.if_icmp .ne 9)) (none)) (cond (Nat.blt k 17) (cond (Nat.beq k 16) (some (.aload_n 0)) (none)) (cond (Nat.beq k 17) (some (.bipush 7)) (none)))))) (cond (Nat.blt k 30) (cond (Nat.blt k 23) (cond (Nat.blt k 22) (cond (Nat.beq k 19) (some (.putfield 32)) (none)) (cond (Nat.beq k 22) (some (.aload_n 0)) (none))) (cond (Nat.blt k 26) (cond (Nat.beq k 23) (some (.getfield 32)) (none)) (cond (Nat.blt k 29) (cond (Nat.beq k 26) (some (.ifCond .ne 47)) (none)) (cond (Nat.beq k 29) (some (.aload_n 0)) (none))))) (cond (Nat.blt k 34) (cond (Nat.blt k 33) (cond (Nat.beq k 30) (some (.invokevirtual 125)) (none)) (cond (Nat.beq k 33) (some (.istore_n 3)) (none))) (cond (Nat.blt k 35) (cond (Nat.beq k 34) (some (.aload_n 0)) (none)) (cond (Nat.blt k 36) (cond (Nat.beq k 35) (some (.dup)) (none)) (cond (Nat.beq k 36) (some (.getfield 38)) (none))))))) (cond (Nat.blt k 54) (cond (Nat.blt k 45) (cond (Nat.blt k 41) (cond (Nat.blt k 40) (cond (Nat.beq k 39) (some (.iconst 1)) (none)) (cond (Nat.beq k 40) (some (.iadd)) (none))) (cond (Nat.blt k 44) (cond (Nat.beq k 41) (some (.putfield 38)) (none)) (cond (Nat.beq k 44) (some (.aload_n 0)) (none)))) (cond (Nat.blt k 49) (cond (Nat.blt k 48) (cond (Nat.beq k 45) (some (.getfield 23)) (none)) (cond (Nat.beq k 48) (some (.aload_n 0)) (none))) (cond (Nat.blt k 52) (cond (Nat.beq k 49) (some (.getfield 38)) (none)) (cond (Nat.blt k 53) (cond (Nat.beq k 52) (some (.aaload)) (none)) (cond (Nat.beq k 53) (some (.iload_n 1)) (none)))))) (cond (Nat.blt k 63) (cond (Nat.blt k 56) (cond (Nat.blt k 55) (cond (Nat.beq k 54) (some (.iload_n 2)) (none)) (cond (Nat.beq k 55) (some (.aload_n 0)) (none))) (cond (Nat.blt k 59) (cond (Nat.beq k 56) (some (.getfield 35)) (none)) (cond (Nat.blt k 60) (cond (Nat.beq k 59) (some (.aload_n 0)) (none)) (cond (Nat.beq k 60) (some (.invokevirtual 41)) (none))))) (cond (Nat.blt k 69) (cond (Nat.blt k 66) (cond (Nat.beq k 63) (some (.getfield 45)) (none)) (cond (Nat.beq k 66) (some (.getfield 49)) (none))) (cond (Nat.blt k 70) (cond (Nat.beq k 69) (some (.iload_n 3)) (none)) (cond (Nat.blt k 73) (cond (Nat.beq k 70) (some (.invokevirtual 57)) (none)) (cond (Nat.beq k 73) (some (.return_)) (none)))))))
def fmC_openFrame : fm_Me := (⟨"FlatModule$Checker", "openFrame", "(II)V"⟩, prog_3_method_9_code, 4, none, 1, fm_f1, fm_cut 74 fmC_openFrame_i)
theorem fmC_openFrame_dc : fm_dc prog_3_method_9_code (fm_cut 74 fmC_openFrame_i) := fm_dc_of (by decide +kernel)
theorem fmC_openFrame_o : fm_mok fmC_openFrame := ⟨⟨fm_f1_o, fmC_openFrame_dc⟩, fm_tb (List.mem_of_getElem? (i := 294) (by decide +kernel)) rfl, fm_tb (List.mem_of_getElem? (i := 2) (by decide +kernel)) rfl, rfl, by decide +kernel, by decide⟩
def fmC_turnToElse_i (k : Nat) : Option Instr := cond (Nat.blt k 38) (cond (Nat.blt k 20) (cond (Nat.blt k 9) (cond (Nat.blt k 4) (cond (Nat.blt k 1) (cond (Nat.beq k 0) (some (.aload_n 0)) (none)) (cond (Nat.beq k 1) (some (.getfield 23)) (none))) (cond (Nat.blt k 5) (cond (Nat.beq k 4) (some (.aload_n 0)) (none)) (cond (Nat.blt k 8) (cond (Nat.beq k 5) (some (.getfield 38)) (none)) (cond (Nat.beq k 8) (some (.aaload)) (none))))) (cond (Nat.blt k 14) (cond (Nat.blt k 10) (cond (Nat.beq k 9) (some (.astore_n 1)) (none)) (cond (Nat.blt k 11) (cond (Nat.beq k 10) (some (.aload_n 1)) (none)) (cond (Nat.beq k 11) (some (.getfield 129)) (none)))) (cond (Nat.blt k 16) (cond (Nat.beq k 14) (some (.bipush 23)) (none)) (cond (Nat.blt k 19) (cond (Nat.beq k 16) (some (.if_icmp .eq 9)) (none)) (cond (Nat.beq k 19) (some (.aload_n 0)) (none)))))) (cond (Nat.blt k 29) (cond (Nat.blt k 24) (cond (Nat.blt k 21) (cond (Nat.beq k 20) (some (.iconst 5)) (none)) (cond (Nat.beq k 21) (some (.putfield 32)) (none))) (cond (Nat.blt k 25) (cond (Nat.beq k 24) (some (.return_)) (none)) (cond (Nat.blt k 26) (cond (Nat.beq k 25) (some (.aload_n 0)) (none)) (cond (Nat.beq k 26) (some (.invokevirtual 132)) (none))))) (cond (Nat.blt k 33) (cond (Nat.blt k 30) (cond (Nat.beq k 29) (some (.aload_n 0)) (none)) (cond (Nat.blt k 32) (cond (Nat.beq k 30) (some (.bipush 26)) (none)) (cond (Nat.beq k 32) (some (.iconst 0)) (none)))) (cond (Nat.blt k 36) (cond (Nat.beq k 33) (some (.invokevirtual 100)) (none)) (cond (Nat.blt k 37) (cond (Nat.beq k 36) (some (.istore_n 2)) (none)) (cond (Nat.beq k 37) (some (.iload_n 2)) (none))))))) (cond (Nat.blt k 59) (cond (Nat.blt k 49) (cond (Nat.blt k 42) (cond (Nat.blt k 39) (cond (Nat.beq k 38) (some (.iconst (-1))) (none)) (cond (Nat.beq k 39) (some (.if_icmp .eq 19)) (none))) (cond (Nat.blt k 43) (cond (Nat.beq k 42) (some (.aload_n 0)) (none)) (cond (Nat.blt k 46) (cond (Nat.beq k 43) (some (.invokevirtual 41)) (none)) (cond (Nat.beq k 46) (some (.getfield 45)) (none))))) (cond (Nat.blt k 54) (cond (Nat.blt k 52) (cond (Nat.beq k 49) (some (.getfield 135)) (none)) (cond (Nat.blt k 53) (cond (Nat.beq k 52) (some (.iload_n 2)) (none)) (cond (Nat.beq k 53) (some (.aload_n 0)) (none)))) (cond (Nat.blt k 57) (cond (Nat.beq k 54) (some (.getfield 38)) (none)) (cond (Nat.blt k 58) (cond (Nat.beq k 57) (some (.iastore)) (none)) (cond (Nat.beq k 58) (some (.aload_n 0)) (none)))))) (cond (Nat.blt k 73) (cond (Nat.blt k 66) (cond (Nat.blt k 62) (cond (Nat.beq k 59) (some (.invokevirtual 41)) (none)) (cond (Nat.blt k 65) (cond (Nat.beq k 62) (some (.getfield 45)) (none)) (cond (Nat.beq k 65) (some (.aload_n 1)) (none)))) (cond (Nat.blt k 69) (cond (Nat.beq k 66) (some (.getfield 116)) (none)) (cond (Nat.blt k 72) (cond (Nat.beq k 69) (some (.invokevirtual 138)) (none)) (cond (Nat.beq k 72) (some (.aload_n 1)) (none))))) (cond (Nat.blt k 79) (cond (Nat.blt k 75) (cond (Nat.beq k 73) (some (.bipush 24)) (none)) (cond (Nat.blt k 78) (cond (Nat.beq k 75) (some (.putfield 129)) (none)) (cond (Nat.beq k 78) (some (.aload_n 1)) (none)))) (cond (Nat.blt k 80) (cond (Nat.beq k 79) (some (.iconst 0)) (none)) (cond (Nat.blt k 83) (cond (Nat.beq k 80) (some (.putfield 141)) (none)) (cond (Nat.beq k 83) (some (.return_)) (none)))))))
def fmC_turnToElse : fm_Me := (⟨"FlatModule$Checker", "turnToElse", "()V"⟩, prog_3_method_10_code, 3, none, 1, fm_f1, fm_cut 84 fmC_turnToElse_i)
theorem fmC_turnToElse_dc : fm_dc prog_3_method_10_code (fm_cut 84 fmC_turnToElse_i) := fm_dc_of (by decide +kernel)
theorem fmC_turnToElse_o : fm_mok fmC_turnToElse := ⟨⟨fm_f1_o, fmC_turnToElse_dc⟩, fm_tb (List.mem_of_getElem? (i := 298) (by decide +kernel)) rfl, fm_tb (List.mem_of_getElem? (i := 2) (by decide +kernel)) rfl, rfl, by decide +kernel, by decide⟩
def fmC_closeFrame_i (k : Nat) : Option Instr := cond (Nat.blt k 54) (cond (Nat.blt k 24) (cond (Nat.blt k 13) (cond (Nat.blt k 7) (cond (Nat.blt k 1) (cond (Nat.beq k 0) (some (.aload_n 0)) (none)) (cond (Nat.blt k 4) (cond (Nat.beq k 1) (some (.getfield 38)) (none)) (cond (Nat.beq k 4) (some (.ifCond .ne 9)) (none)))) (cond (Nat.blt k 9) (cond (Nat.blt k 8) (cond (Nat.beq k 7) (some (.aload_n 0)) (none)) (cond (Nat.beq k 8) (some (.iconst 5)) (none))) (cond (Nat.blt k 12) (cond (Nat.beq k 9) (some (.putfield 32)) (none)) (cond (Nat.beq k 12) (some (.return_)) (none))))) (cond (Nat.blt k 18) (cond (Nat.blt k 14) (cond (Nat.beq k 13) (some (.aload_n 0)) (none)) (cond (Nat.blt k 17) (cond (Nat.beq k 14) (some (.getfield 23)) (none)) (cond (Nat.beq k 17) (some (.aload_n 0)) (none)))) (cond (Nat.blt k 22) (cond (Nat.blt k 21) (cond (Nat.beq k 18) (some (.getfield 38)) (none)) (cond (Nat.beq k 21) (some (.aaload)) (none))) (cond (Nat.blt k 23) (cond (Nat.beq k 22) (some (.astore_n 1)) (none)) (cond (Nat.beq k 23) (some (.aload_n 0)) (none)))))) (cond (Nat.blt k 40) (cond (Nat.blt k 31) (cond (Nat.blt k 27) (cond (Nat.beq k 24) (some (.invokevirtual 132)) (none)) (cond (Nat.blt k 28) (cond (Nat.beq k 27) (some (.aload_n 0)) (none)) (cond (Nat.beq k 28) (some (.getfield 32)) (none)))) (cond (Nat.blt k 35) (cond (Nat.blt k 34) (cond (Nat.beq k 31) (some (.ifCond .ne 26)) (none)) (cond (Nat.beq k 34) (some (.aload_n 1)) (none))) (cond (Nat.blt k 38) (cond (Nat.beq k 35) (some (.getfield 129)) (none)) (cond (Nat.beq k 38) (some (.bipush 23)) (none))))) (cond (Nat.blt k 47) (cond (Nat.blt k 43) (cond (Nat.beq k 40) (some (.if_icmp .ne 17)) (none)) (cond (Nat.blt k 44) (cond (Nat.beq k 43) (some (.aload_n 1)) (none)) (cond (Nat.beq k 44) (some (.getfield 144)) (none)))) (cond (Nat.blt k 51) (cond (Nat.blt k 48) (cond (Nat.beq k 47) (some (.iconst 4)) (none)) (cond (Nat.beq k 48) (some (.if_icmp .eq 9)) (none))) (cond (Nat.blt k 52) (cond (Nat.beq k 51) (some (.aload_n 0)) (none)) (cond (Nat.beq k 52) (some (.bipush 6)) (none))))))) (cond (Nat.blt k 87) (cond (Nat.blt k 70) (cond (Nat.blt k 61) (cond (Nat.blt k 57) (cond (Nat.beq k 54) (some (.putfield 32)) (none)) (cond (Nat.blt k 58) (cond (Nat.beq k 57) (some (.aload_n 1)) (none)) (cond (Nat.beq k 58) (some (.getfield 129)) (none)))) (cond (Nat.blt k 66) (cond (Nat.blt k 63) (cond (Nat.beq k 61) (some (.bipush 23)) (none)) (cond (Nat.beq k 63) (some (.if_icmp .ne 17)) (none))) (cond (Nat.blt k 67) (cond (Nat.beq k 66) (some (.aload_n 0)) (none)) (cond (Nat.beq k 67) (some (.invokevirtual 41)) (none))))) (cond (Nat.blt k 77) (cond (Nat.blt k 73) (cond (Nat.beq k 70) (some (.getfield 45)) (none)) (cond (Nat.blt k 74) (cond (Nat.beq k 73) (some (.aload_n 1)) (none)) (cond (Nat.beq k 74) (some (.getfield 116)) (none)))) (cond (Nat.blt k 81) (cond (Nat.blt k 80) (cond (Nat.beq k 77) (some (.invokevirtual 138)) (none)) (cond (Nat.beq k 80) (some (.aload_n 0)) (none))) (cond (Nat.blt k 84) (cond (Nat.beq k 81) (some (.invokevirtual 41)) (none)) (cond (Nat.beq k 84) (some (.getfield 45)) (none)))))) (cond (Nat.blt k 100) (cond (Nat.blt k 94) (cond (Nat.blt k 88) (cond (Nat.beq k 87) (some (.aload_n 0)) (none)) (cond (Nat.blt k 91) (cond (Nat.beq k 88) (some (.getfield 38)) (none)) (cond (Nat.beq k 91) (some (.invokevirtual 147)) (none)))) (cond (Nat.blt k 96) (cond (Nat.blt k 95) (cond (Nat.beq k 94) (some (.aload_n 0)) (none)) (cond (Nat.beq k 95) (some (.dup)) (none))) (cond (Nat.blt k 99) (cond (Nat.beq k 96) (some (.getfield 38)) (none)) (cond (Nat.beq k 99) (some (.iconst 1)) (none))))) (cond (Nat.blt k 105) (cond (Nat.blt k 101) (cond (Nat.beq k 100) (some (.isub)) (none)) (cond (Nat.blt k 104) (cond (Nat.beq k 101) (some (.putfield 38)) (none)) (cond (Nat.beq k 104) (some (.aload_n 0)) (none)))) (cond (Nat.blt k 109) (cond (Nat.blt k 106) (cond (Nat.beq k 105) (some (.aload_n 1)) (none)) (cond (Nat.beq k 106) (some (.getfield 144)) (none))) (cond (Nat.blt k 112) (cond (Nat.beq k 109) (some (.invokevirtual 105)) (none)) (cond (Nat.beq k 112) (some (.return_)) (none)))))))
def fmC_closeFrame : fm_Me := (⟨"FlatModule$Checker", "closeFrame", "()V"⟩, prog_3_method_11_code, 2, none, 1, fm_f1, fm_cut 113 fmC_closeFrame_i)
theorem fmC_closeFrame_dc : fm_dc prog_3_method_11_code (fm_cut 113 fmC_closeFrame_i) := fm_dc_of (by decide +kernel)
theorem fmC_closeFrame_o : fm_mok fmC_closeFrame := ⟨⟨fm_f1_o, fmC_closeFrame_dc⟩, fm_tb (List.mem_of_getElem? (i := 310) (by decide +kernel)) rfl, fm_tb (List.mem_of_getElem? (i := 2) (by decide +kernel)) rfl, rfl, by decide +kernel, by decide⟩
def fmC_endOfCode_i (k : Nat) : Option Instr := cond (Nat.blt k 13) (cond (Nat.blt k 7) (cond (Nat.blt k 1) (cond (Nat.beq k 0) (some (.aload_n 0)) (none)) (cond (Nat.blt k 4) (cond (Nat.beq k 1) (some (.getfield 38)) (none)) (cond (Nat.beq k 4) (some (.ifCond .eq 9)) (none)))) (cond (Nat.blt k 9) (cond (Nat.blt k 8) (cond (Nat.beq k 7) (some (.aload_n 0)) (none)) (cond (Nat.beq k 8) (some (.iconst 5)) (none))) (cond (Nat.blt k 12) (cond (Nat.beq k 9) (some (.putfield 32)) (none)) (cond (Nat.beq k 12) (some (.return_)) (none))))) (cond (Nat.blt k 21) (cond (Nat.blt k 17) (cond (Nat.blt k 14) (cond (Nat.beq k 13) (some (.aload_n 0)) (none)) (cond (Nat.beq k 14) (some (.invokevirtual 132)) (none))) (cond (Nat.blt k 18) (cond (Nat.beq k 17) (some (.aload_n 0)) (none)) (cond (Nat.beq k 18) (some (.invokevirtual 41)) (none)))) (cond (Nat.blt k 25) (cond (Nat.blt k 24) (cond (Nat.beq k 21) (some (.getfield 45)) (none)) (cond (Nat.beq k 24) (some (.iconst 0)) (none))) (cond (Nat.blt k 28) (cond (Nat.beq k 25) (some (.invokevirtual 147)) (none)) (cond (Nat.beq k 28) (some (.return_)) (none)))))
def fmC_endOfCode : fm_Me := (⟨"FlatModule$Checker", "endOfCode", "()V"⟩, prog_3_method_12_code, 1, none, 1, fm_f1, fm_cut 29 fmC_endOfCode_i)
theorem fmC_endOfCode_dc : fm_dc prog_3_method_12_code (fm_cut 29 fmC_endOfCode_i) := fm_dc_of (by decide +kernel)
theorem fmC_endOfCode_o : fm_mok fmC_endOfCode := ⟨⟨fm_f1_o, fmC_endOfCode_dc⟩, fm_tb (List.mem_of_getElem? (i := 338) (by decide +kernel)) rfl, fm_tb (List.mem_of_getElem? (i := 2) (by decide +kernel)) rfl, rfl, by decide +kernel, by decide⟩
def fmC_takeJustWhatIsGiven_i (k : Nat) : Option Instr := cond (Nat.blt k 24) (cond (Nat.blt k 10) (cond (Nat.blt k 5) (cond (Nat.blt k 1) (cond (Nat.beq k 0) (some (.aload_n 0)) (none)) (cond (Nat.blt k 2) (cond (Nat.beq k 1) (some (.aload_n 0)) (none)) (cond (Nat.beq k 2) (some (.getfield 23)) (none)))) (cond (Nat.blt k 6) (cond (Nat.beq k 5) (some (.aload_n 0)) (none)) (cond (Nat.blt k 9) (cond (Nat.beq k 6) (some (.getfield 38)) (none)) (cond (Nat.beq k 9) (some (.aaload)) (none))))) (cond (Nat.blt k 17) (cond (Nat.blt k 13) (cond (Nat.beq k 10) (some (.getfield 144)) (none)) (cond (Nat.blt k 16) (cond (Nat.beq k 13) (some (.invokevirtual 109)) (none)) (cond (Nat.beq k 16) (some (.pop)) (none)))) (cond (Nat.blt k 18) (cond (Nat.beq k 17) (some (.aload_n 0)) (none)) (cond (Nat.blt k 21) (cond (Nat.beq k 18) (some (.getfield 32)) (none)) (cond (Nat.beq k 21) (some (.ifCond .ne 27)) (none)))))) (cond (Nat.blt k 36) (cond (Nat.blt k 29) (cond (Nat.blt k 25) (cond (Nat.beq k 24) (some (.aload_n 0)) (none)) (cond (Nat.blt k 28) (cond (Nat.beq k 25) (some (.getfield 35)) (none)) (cond (Nat.beq k 28) (some (.aload_n 0)) (none)))) (cond (Nat.blt k 32) (cond (Nat.beq k 29) (some (.getfield 23)) (none)) (cond (Nat.blt k 33) (cond (Nat.beq k 32) (some (.aload_n 0)) (none)) (cond (Nat.beq k 33) (some (.getfield 38)) (none))))) (cond (Nat.blt k 43) (cond (Nat.blt k 37) (cond (Nat.beq k 36) (some (.aaload)) (none)) (cond (Nat.blt k 40) (cond (Nat.beq k 37) (some (.getfield 150)) (none)) (cond (Nat.beq k 40) (some (.if_icmp .le 8)) (none)))) (cond (Nat.blt k 45) (cond (Nat.blt k 44) (cond (Nat.beq k 43) (some (.aload_n 0)) (none)) (cond (Nat.beq k 44) (some (.iconst 4)) (none))) (cond (Nat.blt k 48) (cond (Nat.beq k 45) (some (.putfield 32)) (none)) (cond (Nat.beq k 48) (some (.return_)) (none))))))
def fmC_takeJustWhatIsGiven : fm_Me := (⟨"FlatModule$Checker", "takeJustWhatIsGiven", "()V"⟩, prog_3_method_13_code, 1, none, 1, fm_f1, fm_cut 49 fmC_takeJustWhatIsGiven_i)
theorem fmC_takeJustWhatIsGiven_dc : fm_dc prog_3_method_13_code (fm_cut 49 fmC_takeJustWhatIsGiven_i) := fm_dc_of (by decide +kernel)
theorem fmC_takeJustWhatIsGiven_o : fm_mok fmC_takeJustWhatIsGiven := ⟨⟨fm_f1_o, fmC_takeJustWhatIsGiven_dc⟩, fm_tb (List.mem_of_getElem? (i := 302) (by decide +kernel)) rfl, fm_tb (List.mem_of_getElem? (i := 2) (by decide +kernel)) rfl, rfl, by decide +kernel, by decide⟩
def fmC_leave_i (k : Nat) : Option Instr := cond (Nat.blt k 72) (cond (Nat.blt k 51) (cond (Nat.blt k 38) (cond (Nat.blt k 33) (cond (Nat.blt k 1) (cond (Nat.beq k 0) (some (.iload_n 1)) (none)) (cond (Nat.blt k 32) (cond (Nat.beq k 1) (some (.tableswitch 109 26 29 #[31, 49, 87, 101])) (none)) (cond (Nat.beq k 32) (some (.aload_n 0)) (none)))) (cond (Nat.blt k 34) (cond (Nat.beq k 33) (some (.iload_n 1)) (none)) (cond (Nat.blt k 35) (cond (Nat.beq k 34) (some (.aload_n 0)) (none)) (cond (Nat.beq k 35) (some (.getfield 38)) (none))))) (cond (Nat.blt k 43) (cond (Nat.blt k 39) (cond (Nat.beq k 38) (some (.iload_n 2)) (none)) (cond (Nat.blt k 40) (cond (Nat.beq k 39) (some (.isub)) (none)) (cond (Nat.beq k 40) (some (.invokevirtual 153)) (none)))) (cond (Nat.blt k 47) (cond (Nat.blt k 44) (cond (Nat.beq k 43) (some (.aload_n 0)) (none)) (cond (Nat.beq k 44) (some (.invokevirtual 156)) (none))) (cond (Nat.blt k 50) (cond (Nat.beq k 47) (some (.goto 74)) (none)) (cond (Nat.beq k 50) (some (.aload_n 0)) (none)))))) (cond (Nat.blt k 59) (cond (Nat.blt k 56) (cond (Nat.blt k 52) (cond (Nat.beq k 51) (some (.iconst 0)) (none)) (cond (Nat.blt k 55) (cond (Nat.beq k 52) (some (.invokevirtual 109)) (none)) (cond (Nat.beq k 55) (some (.pop)) (none)))) (cond (Nat.blt k 57) (cond (Nat.beq k 56) (some (.aload_n 0)) (none)) (cond (Nat.blt k 58) (cond (Nat.beq k 57) (some (.iload_n 1)) (none)) (cond (Nat.beq k 58) (some (.aload_n 0)) (none))))) (cond (Nat.blt k 64) (cond (Nat.blt k 62) (cond (Nat.beq k 59) (some (.getfield 38)) (none)) (cond (Nat.blt k 63) (cond (Nat.beq k 62) (some (.iload_n 2)) (none)) (cond (Nat.beq k 63) (some (.isub)) (none)))) (cond (Nat.blt k 68) (cond (Nat.blt k 67) (cond (Nat.beq k 64) (some (.invokevirtual 153)) (none)) (cond (Nat.beq k 67) (some (.aload_n 0)) (none))) (cond (Nat.blt k 69) (cond (Nat.beq k 68) (some (.aload_n 0)) (none)) (cond (Nat.beq k 69) (some (.getfield 23)) (none))))))) (cond (Nat.blt k 96) (cond (Nat.blt k 82) (cond (Nat.blt k 77) (cond (Nat.blt k 73) (cond (Nat.beq k 72) (some (.aload_n 0)) (none)) (cond (Nat.blt k 76) (cond (Nat.beq k 73) (some (.getfield 38)) (none)) (cond (Nat.beq k 76) (some (.iload_n 2)) (none)))) (cond (Nat.blt k 78) (cond (Nat.beq k 77) (some (.isub)) (none)) (cond (Nat.blt k 79) (cond (Nat.beq k 78) (some (.aaload)) (none)) (cond (Nat.beq k 79) (some (.invokevirtual 159)) (none))))) (cond (Nat.blt k 89) (cond (Nat.blt k 85) (cond (Nat.beq k 82) (some (.invokevirtual 105)) (none)) (cond (Nat.blt k 88) (cond (Nat.beq k 85) (some (.goto 36)) (none)) (cond (Nat.beq k 88) (some (.aload_n 0)) (none)))) (cond (Nat.blt k 92) (cond (Nat.blt k 91) (cond (Nat.beq k 89) (some (.bipush 26)) (none)) (cond (Nat.beq k 91) (some (.iconst 0)) (none))) (cond (Nat.blt k 95) (cond (Nat.beq k 92) (some (.invokevirtual 153)) (none)) (cond (Nat.beq k 95) (some (.aload_n 0)) (none)))))) (cond (Nat.blt k 111) (cond (Nat.blt k 103) (cond (Nat.blt k 99) (cond (Nat.beq k 96) (some (.invokevirtual 156)) (none)) (cond (Nat.blt k 102) (cond (Nat.beq k 99) (some (.goto 22)) (none)) (cond (Nat.beq k 102) (some (.aload_n 0)) (none)))) (cond (Nat.blt k 107) (cond (Nat.blt k 104) (cond (Nat.beq k 103) (some (.iload_n 2)) (none)) (cond (Nat.beq k 104) (some (.invokevirtual 163)) (none))) (cond (Nat.blt k 110) (cond (Nat.beq k 107) (some (.goto 14)) (none)) (cond (Nat.beq k 110) (some (.aload_n 0)) (none))))) (cond (Nat.blt k 116) (cond (Nat.blt k 112) (cond (Nat.beq k 111) (some (.iload_n 1)) (none)) (cond (Nat.blt k 113) (cond (Nat.beq k 112) (some (.iload_n 2)) (none)) (cond (Nat.beq k 113) (some (.invokevirtual 100)) (none)))) (cond (Nat.blt k 118) (cond (Nat.blt k 117) (cond (Nat.beq k 116) (some (.pop)) (none)) (cond (Nat.beq k 117) (some (.aload_n 0)) (none))) (cond (Nat.blt k 121) (cond (Nat.beq k 118) (some (.invokevirtual 156)) (none)) (cond (Nat.beq k 121) (some (.return_)) (none)))))))
def fmC_leave : fm_Me := (⟨"FlatModule$Checker", "leave", "(II)V"⟩, prog_3_method_14_code, 3, none, 1, fm_f1, fm_cut 122 fmC_leave_i)
theorem fmC_leave_dc : fm_dc prog_3_method_14_code (fm_cut 122 fmC_leave_i) := fm_dc_of (by decide +kernel)
theorem fmC_leave_o : fm_mok fmC_leave := ⟨⟨fm_f1_o, fmC_leave_dc⟩, fm_tb (List.mem_of_getElem? (i := 318) (by decide +kernel)) rfl, fm_tb (List.mem_of_getElem? (i := 2) (by decide +kernel)) rfl, rfl, by decide +kernel, by decide⟩
def fmC_jump_i (k : Nat) : Option Instr := cond (Nat.blt k 47) (cond (Nat.blt k 21) (cond (Nat.blt k 8) (cond (Nat.blt k 5) (cond (Nat.blt k 1) (cond (Nat.beq k 0) (some (.aload_n 0)) (none)) (cond (Nat.blt k 4) (cond (Nat.beq k 1) (some (.getfield 23)) (none)) (cond (Nat.beq k 4) (some (.iload_n 2)) (none)))) (cond (Nat.blt k 6) (cond (Nat.beq k 5) (some (.aaload)) (none)) (cond (Nat.blt k 7) (cond (Nat.beq k 6) (some (.astore_n 3)) (none)) (cond (Nat.beq k 7) (some (.aload_n 3)) (none))))) (cond (Nat.blt k 14) (cond (Nat.blt k 11) (cond (Nat.beq k 8) (some (.invokevirtual 159)) (none)) (cond (Nat.blt k 13) (cond (Nat.beq k 11) (some (.istore 4)) (none)) (cond (Nat.beq k 13) (some (.aload_n 0)) (none)))) (cond (Nat.blt k 19) (cond (Nat.blt k 16) (cond (Nat.beq k 14) (some (.iload 4)) (none)) (cond (Nat.beq k 16) (some (.invokevirtual 109)) (none))) (cond (Nat.blt k 20) (cond (Nat.beq k 19) (some (.pop)) (none)) (cond (Nat.beq k 20) (some (.aload_n 0)) (none)))))) (cond (Nat.blt k 34) (cond (Nat.blt k 26) (cond (Nat.blt k 22) (cond (Nat.beq k 21) (some (.iload_n 1)) (none)) (cond (Nat.blt k 23) (cond (Nat.beq k 22) (some (.iconst 0)) (none)) (cond (Nat.beq k 23) (some (.invokevirtual 100)) (none)))) (cond (Nat.blt k 30) (cond (Nat.blt k 28) (cond (Nat.beq k 26) (some (.istore 5)) (none)) (cond (Nat.beq k 28) (some (.iload 5)) (none))) (cond (Nat.blt k 31) (cond (Nat.beq k 30) (some (.iconst (-1))) (none)) (cond (Nat.beq k 31) (some (.if_icmp .ne 4)) (none))))) (cond (Nat.blt k 39) (cond (Nat.blt k 35) (cond (Nat.beq k 34) (some (.return_)) (none)) (cond (Nat.blt k 36) (cond (Nat.beq k 35) (some (.aload_n 0)) (none)) (cond (Nat.beq k 36) (some (.invokevirtual 41)) (none)))) (cond (Nat.blt k 44) (cond (Nat.blt k 42) (cond (Nat.beq k 39) (some (.getfield 45)) (none)) (cond (Nat.beq k 42) (some (.astore 6)) (none))) (cond (Nat.blt k 46) (cond (Nat.beq k 44) (some (.iload 4)) (none)) (cond (Nat.beq k 46) (some (.iconst 4)) (none))))))) (cond (Nat.blt k 76) (cond (Nat.blt k 64) (cond (Nat.blt k 55) (cond (Nat.blt k 50) (cond (Nat.beq k 47) (some (.if_icmp .eq 23)) (none)) (cond (Nat.blt k 52) (cond (Nat.beq k 50) (some (.aload 6)) (none)) (cond (Nat.beq k 52) (some (.getfield 166)) (none)))) (cond (Nat.blt k 58) (cond (Nat.blt k 57) (cond (Nat.beq k 55) (some (.iload 5)) (none)) (cond (Nat.beq k 57) (some (.aload_n 0)) (none))) (cond (Nat.blt k 61) (cond (Nat.beq k 58) (some (.invokevirtual 41)) (none)) (cond (Nat.beq k 61) (some (.getfield 90)) (none))))) (cond (Nat.blt k 69) (cond (Nat.blt k 65) (cond (Nat.beq k 64) (some (.aload_n 3)) (none)) (cond (Nat.blt k 68) (cond (Nat.beq k 65) (some (.getfield 150)) (none)) (cond (Nat.beq k 68) (some (.iadd)) (none)))) (cond (Nat.blt k 71) (cond (Nat.blt k 70) (cond (Nat.beq k 69) (some (.iastore)) (none)) (cond (Nat.beq k 70) (some (.aload_n 3)) (none))) (cond (Nat.blt k 74) (cond (Nat.beq k 71) (some (.getfield 129)) (none)) (cond (Nat.beq k 74) (some (.bipush 22)) (none)))))) (cond (Nat.blt k 91) (cond (Nat.blt k 84) (cond (Nat.blt k 79) (cond (Nat.beq k 76) (some (.if_icmp .ne 18)) (none)) (cond (Nat.blt k 81) (cond (Nat.beq k 79) (some (.aload 6)) (none)) (cond (Nat.beq k 81) (some (.getfield 169)) (none)))) (cond (Nat.blt k 87) (cond (Nat.blt k 86) (cond (Nat.beq k 84) (some (.iload 5)) (none)) (cond (Nat.beq k 86) (some (.aload_n 3)) (none))) (cond (Nat.blt k 90) (cond (Nat.beq k 87) (some (.getfield 172)) (none)) (cond (Nat.beq k 90) (some (.iastore)) (none))))) (cond (Nat.blt k 99) (cond (Nat.blt k 94) (cond (Nat.beq k 91) (some (.goto 12)) (none)) (cond (Nat.blt k 96) (cond (Nat.beq k 94) (some (.aload 6)) (none)) (cond (Nat.beq k 96) (some (.getfield 135)) (none)))) (cond (Nat.blt k 102) (cond (Nat.blt k 101) (cond (Nat.beq k 99) (some (.iload 5)) (none)) (cond (Nat.beq k 101) (some (.iload_n 2)) (none))) (cond (Nat.blt k 103) (cond (Nat.beq k 102) (some (.iastore)) (none)) (cond (Nat.beq k 103) (some (.return_)) (none)))))))
def fmC_jump : fm_Me := (⟨"FlatModule$Checker", "jump", "(II)V"⟩, prog_3_method_15_code, 7, none, 1, fm_f1, fm_cut 104 fmC_jump_i)
theorem fmC_jump_dc : fm_dc prog_3_method_15_code (fm_cut 104 fmC_jump_i) := fm_dc_of (by decide +kernel)
theorem fmC_jump_o : fm_mok fmC_jump := ⟨⟨fm_f1_o, fmC_jump_dc⟩, fm_tb (List.mem_of_getElem? (i := 322) (by decide +kernel)) rfl, fm_tb (List.mem_of_getElem? (i := 2) (by decide +kernel)) rfl, rfl, by decide +kernel, by decide⟩
def fmC_callFunction_i (k : Nat) : Option Instr := cond (Nat.blt k 23) (cond (Nat.blt k 11) (cond (Nat.blt k 5) (cond (Nat.blt k 1) (cond (Nat.beq k 0) (some (.aload_n 0)) (none)) (cond (Nat.blt k 4) (cond (Nat.beq k 1) (some (.getfield 11)) (none)) (cond (Nat.beq k 4) (some (.iload_n 1)) (none)))) (cond (Nat.blt k 7) (cond (Nat.blt k 6) (cond (Nat.beq k 5) (some (.aaload)) (none)) (cond (Nat.beq k 6) (some (.astore_n 2)) (none))) (cond (Nat.blt k 8) (cond (Nat.beq k 7) (some (.aload_n 2)) (none)) (cond (Nat.beq k 8) (some (.getfield 175)) (none))))) (cond (Nat.blt k 15) (cond (Nat.blt k 13) (cond (Nat.blt k 12) (cond (Nat.beq k 11) (some (.iconst 1)) (none)) (cond (Nat.beq k 12) (some (.isub)) (none))) (cond (Nat.blt k 14) (cond (Nat.beq k 13) (some (.istore_n 3)) (none)) (cond (Nat.beq k 14) (some (.iload_n 3)) (none)))) (cond (Nat.blt k 19) (cond (Nat.blt k 18) (cond (Nat.beq k 15) (some (.ifCond .lt 20)) (none)) (cond (Nat.beq k 18) (some (.aload_n 0)) (none))) (cond (Nat.blt k 20) (cond (Nat.beq k 19) (some (.aload_n 2)) (none)) (cond (Nat.beq k 20) (some (.getfield 104)) (none)))))) (cond (Nat.blt k 38) (cond (Nat.blt k 29) (cond (Nat.blt k 25) (cond (Nat.blt k 24) (cond (Nat.beq k 23) (some (.iload_n 3)) (none)) (cond (Nat.beq k 24) (some (.iaload)) (none))) (cond (Nat.blt k 28) (cond (Nat.beq k 25) (some (.invokevirtual 109)) (none)) (cond (Nat.beq k 28) (some (.pop)) (none)))) (cond (Nat.blt k 35) (cond (Nat.blt k 32) (cond (Nat.beq k 29) (some (.iinc 3 (-1))) (none)) (cond (Nat.beq k 32) (some (.goto (-18))) (none))) (cond (Nat.blt k 36) (cond (Nat.beq k 35) (some (.aload_n 0)) (none)) (cond (Nat.beq k 36) (some (.bipush 29)) (none))))) (cond (Nat.blt k 44) (cond (Nat.blt k 42) (cond (Nat.blt k 39) (cond (Nat.beq k 38) (some (.iload_n 1)) (none)) (cond (Nat.beq k 39) (some (.invokevirtual 100)) (none))) (cond (Nat.blt k 43) (cond (Nat.beq k 42) (some (.pop)) (none)) (cond (Nat.beq k 43) (some (.aload_n 0)) (none)))) (cond (Nat.blt k 48) (cond (Nat.blt k 45) (cond (Nat.beq k 44) (some (.aload_n 2)) (none)) (cond (Nat.beq k 45) (some (.getfield 54)) (none))) (cond (Nat.blt k 51) (cond (Nat.beq k 48) (some (.invokevirtual 105)) (none)) (cond (Nat.beq k 51) (some (.return_)) (none))))))
def fmC_callFunction : fm_Me := (⟨"FlatModule$Checker", "callFunction", "(I)V"⟩, prog_3_method_16_code, 4, none, 1, fm_f1, fm_cut 52 fmC_callFunction_i)
theorem fmC_callFunction_dc : fm_dc prog_3_method_16_code (fm_cut 52 fmC_callFunction_i) := fm_dc_of (by decide +kernel)
theorem fmC_callFunction_o : fm_mok fmC_callFunction := ⟨⟨fm_f1_o, fmC_callFunction_dc⟩, fm_tb (List.mem_of_getElem? (i := 334) (by decide +kernel)) rfl, fm_tb (List.mem_of_getElem? (i := 2) (by decide +kernel)) rfl, rfl, by decide +kernel, by decide⟩
def fmC_die_i (k : Nat) : Option Instr := cond (Nat.blt k 16) (cond (Nat.blt k 6) (cond (Nat.blt k 2) (cond (Nat.blt k 1) (cond (Nat.beq k 0) (some (.aload_n 0)) (none)) (cond (Nat.beq k 1) (some (.aload_n 0)) (none))) (cond (Nat.blt k 5) (cond (Nat.beq k 2) (some (.getfield 23)) (none)) (cond (Nat.beq k 5) (some (.aload_n 0)) (none)))) (cond (Nat.blt k 10) (cond (Nat.blt k 9) (cond (Nat.beq k 6) (some (.getfield 38)) (none)) (cond (Nat.beq k 9) (some (.aaload)) (none))) (cond (Nat.blt k 13) (cond (Nat.beq k 10) (some (.getfield 150)) (none)) (cond (Nat.beq k 13) (some (.putfield 35)) (none))))) (cond (Nat.blt k 24) (cond (Nat.blt k 20) (cond (Nat.blt k 17) (cond (Nat.beq k 16) (some (.aload_n 0)) (none)) (cond (Nat.beq k 17) (some (.getfield 23)) (none))) (cond (Nat.blt k 21) (cond (Nat.beq k 20) (some (.aload_n 0)) (none)) (cond (Nat.beq k 21) (some (.getfield 38)) (none)))) (cond (Nat.blt k 26) (cond (Nat.blt k 25) (cond (Nat.beq k 24) (some (.aaload)) (none)) (cond (Nat.beq k 25) (some (.iconst 1)) (none))) (cond (Nat.blt k 29) (cond (Nat.beq k 26) (some (.putfield 141)) (none)) (cond (Nat.beq k 29) (some (.return_)) (none)))))
def fmC_die : fm_Me := (⟨"FlatModule$Checker", "die", "()V"⟩, prog_3_method_17_code, 1, none, 1, fm_f1, fm_cut 30 fmC_die_i)
theorem fmC_die_dc : fm_dc prog_3_method_17_code (fm_cut 30 fmC_die_i) := fm_dc_of (by decide +kernel)
theorem fmC_die_o : fm_mok fmC_die := ⟨⟨fm_f1_o, fmC_die_dc⟩, fm_tb (List.mem_of_getElem? (i := 330) (by decide +kernel)) rfl, fm_tb (List.mem_of_getElem? (i := 2) (by decide +kernel)) rfl, rfl, by decide +kernel, by decide⟩
def fmC_isLive_i (k : Nat) : Option Instr := cond (Nat.blt k 19) (cond (Nat.blt k 8) (cond (Nat.blt k 4) (cond (Nat.blt k 1) (cond (Nat.beq k 0) (some (.aload_n 0)) (none)) (cond (Nat.beq k 1) (some (.getfield 23)) (none))) (cond (Nat.blt k 5) (cond (Nat.beq k 4) (some (.aload_n 0)) (none)) (cond (Nat.beq k 5) (some (.getfield 38)) (none)))) (cond (Nat.blt k 12) (cond (Nat.blt k 9) (cond (Nat.beq k 8) (some (.aaload)) (none)) (cond (Nat.beq k 9) (some (.getfield 178)) (none))) (cond (Nat.blt k 15) (cond (Nat.beq k 12) (some (.ifCond .eq 22)) (none)) (cond (Nat.blt k 16) (cond (Nat.beq k 15) (some (.aload_n 0)) (none)) (cond (Nat.beq k 16) (some (.getfield 23)) (none)))))) (cond (Nat.blt k 27) (cond (Nat.blt k 23) (cond (Nat.blt k 20) (cond (Nat.beq k 19) (some (.aload_n 0)) (none)) (cond (Nat.beq k 20) (some (.getfield 38)) (none))) (cond (Nat.blt k 24) (cond (Nat.beq k 23) (some (.aaload)) (none)) (cond (Nat.beq k 24) (some (.getfield 141)) (none)))) (cond (Nat.blt k 31) (cond (Nat.blt k 30) (cond (Nat.beq k 27) (some (.ifCond .ne 7)) (none)) (cond (Nat.beq k 30) (some (.iconst 1)) (none))) (cond (Nat.blt k 34) (cond (Nat.beq k 31) (some (.goto 4)) (none)) (cond (Nat.blt k 35) (cond (Nat.beq k 34) (some (.iconst 0)) (none)) (cond (Nat.beq k 35) (some (.ireturn)) (none))))))
def fmC_isLive : fm_Me := (⟨"FlatModule$Checker", "isLive", "()Z"⟩, prog_3_method_18_code, 1, some .boolean, 1, fm_f1, fm_cut 36 fmC_isLive_i)
theorem fmC_isLive_dc : fm_dc prog_3_method_18_code (fm_cut 36 fmC_isLive_i) := fm_dc_of (by decide +kernel)
theorem fmC_isLive_o : fm_mok fmC_isLive := ⟨⟨fm_f1_o, fmC_isLive_dc⟩, fm_tb (List.mem_of_getElem? (i := 270) (by decide +kernel)) rfl, fm_tb (List.mem_of_getElem? (i := 2) (by decide +kernel)) rfl, rfl, by decide +kernel, by decide⟩
def fmC_addRow_i (k : Nat) : Option Instr := cond (Nat.blt k 17) (cond (Nat.blt k 8) (cond (Nat.blt k 4) (cond (Nat.blt k 1) (cond (Nat.beq k 0) (some (.aload_n 0)) (none)) (cond (Nat.beq k 1) (some (.invokevirtual 125)) (none))) (cond (Nat.blt k 7) (cond (Nat.beq k 4) (some (.ifCond .eq 30)) (none)) (cond (Nat.beq k 7) (some (.aload_n 0)) (none)))) (cond (Nat.blt k 14) (cond (Nat.blt k 11) (cond (Nat.beq k 8) (some (.invokevirtual 41)) (none)) (cond (Nat.beq k 11) (some (.getfield 45)) (none))) (cond (Nat.blt k 15) (cond (Nat.beq k 14) (some (.iload_n 1)) (none)) (cond (Nat.blt k 16) (cond (Nat.beq k 15) (some (.iload_n 2)) (none)) (cond (Nat.beq k 16) (some (.aload_n 0)) (none)))))) (cond (Nat.blt k 27) (cond (Nat.blt k 23) (cond (Nat.blt k 20) (cond (Nat.beq k 17) (some (.invokevirtual 41)) (none)) (cond (Nat.beq k 20) (some (.getfield 90)) (none))) (cond (Nat.blt k 24) (cond (Nat.beq k 23) (some (.aload_n 0)) (none)) (cond (Nat.beq k 24) (some (.getfield 35)) (none)))) (cond (Nat.blt k 31) (cond (Nat.blt k 28) (cond (Nat.beq k 27) (some (.iadd)) (none)) (cond (Nat.beq k 28) (some (.invokevirtual 181)) (none))) (cond (Nat.blt k 34) (cond (Nat.beq k 31) (some (.goto 4)) (none)) (cond (Nat.blt k 35) (cond (Nat.beq k 34) (some (.iconst (-1))) (none)) (cond (Nat.beq k 35) (some (.ireturn)) (none))))))
def fmC_addRow : fm_Me := (⟨"FlatModule$Checker", "addRow", "(II)I"⟩, prog_3_method_19_code, 3, some .int, 1, fm_f1, fm_cut 36 fmC_addRow_i)
theorem fmC_addRow_dc : fm_dc prog_3_method_19_code (fm_cut 36 fmC_addRow_i) := fm_dc_of (by decide +kernel)
theorem fmC_addRow_o : fm_mok fmC_addRow := ⟨⟨fm_f1_o, fmC_addRow_dc⟩, fm_tb (List.mem_of_getElem? (i := 266) (by decide +kernel)) rfl, fm_tb (List.mem_of_getElem? (i := 2) (by decide +kernel)) rfl, rfl, by decide +kernel, by decide⟩
def fmC_take_i (k : Nat) : Option Instr := cond (Nat.blt k 54) (cond (Nat.blt k 26) (cond (Nat.blt k 13) (cond (Nat.blt k 7) (cond (Nat.blt k 1) (cond (Nat.beq k 0) (some (.aload_n 0)) (none)) (cond (Nat.blt k 4) (cond (Nat.beq k 1) (some (.getfield 32)) (none)) (cond (Nat.beq k 4) (some (.ifCond .ne 8)) (none)))) (cond (Nat.blt k 9) (cond (Nat.blt k 8) (cond (Nat.beq k 7) (some (.iload_n 1)) (none)) (cond (Nat.beq k 8) (some (.iconst 4)) (none))) (cond (Nat.blt k 12) (cond (Nat.beq k 9) (some (.if_icmp .ne 5)) (none)) (cond (Nat.beq k 12) (some (.iload_n 1)) (none))))) (cond (Nat.blt k 18) (cond (Nat.blt k 14) (cond (Nat.beq k 13) (some (.ireturn)) (none)) (cond (Nat.blt k 15) (cond (Nat.beq k 14) (some (.aload_n 0)) (none)) (cond (Nat.beq k 15) (some (.getfield 35)) (none)))) (cond (Nat.blt k 22) (cond (Nat.blt k 19) (cond (Nat.beq k 18) (some (.aload_n 0)) (none)) (cond (Nat.beq k 19) (some (.getfield 23)) (none))) (cond (Nat.blt k 23) (cond (Nat.beq k 22) (some (.aload_n 0)) (none)) (cond (Nat.beq k 23) (some (.getfield 38)) (none)))))) (cond (Nat.blt k 41) (cond (Nat.blt k 33) (cond (Nat.blt k 27) (cond (Nat.beq k 26) (some (.aaload)) (none)) (cond (Nat.blt k 30) (cond (Nat.beq k 27) (some (.getfield 150)) (none)) (cond (Nat.beq k 30) (some (.if_icmp .ne 25)) (none)))) (cond (Nat.blt k 37) (cond (Nat.blt k 34) (cond (Nat.beq k 33) (some (.aload_n 0)) (none)) (cond (Nat.beq k 34) (some (.getfield 23)) (none))) (cond (Nat.blt k 38) (cond (Nat.beq k 37) (some (.aload_n 0)) (none)) (cond (Nat.beq k 38) (some (.getfield 38)) (none))))) (cond (Nat.blt k 48) (cond (Nat.blt k 42) (cond (Nat.beq k 41) (some (.aaload)) (none)) (cond (Nat.blt k 45) (cond (Nat.beq k 42) (some (.getfield 141)) (none)) (cond (Nat.beq k 45) (some (.ifCond .ne 8)) (none)))) (cond (Nat.blt k 50) (cond (Nat.blt k 49) (cond (Nat.beq k 48) (some (.aload_n 0)) (none)) (cond (Nat.beq k 49) (some (.iconst 2)) (none))) (cond (Nat.blt k 53) (cond (Nat.beq k 50) (some (.putfield 32)) (none)) (cond (Nat.beq k 53) (some (.iload_n 1)) (none))))))) (cond (Nat.blt k 76) (cond (Nat.blt k 65) (cond (Nat.blt k 57) (cond (Nat.blt k 55) (cond (Nat.beq k 54) (some (.ireturn)) (none)) (cond (Nat.blt k 56) (cond (Nat.beq k 55) (some (.aload_n 0)) (none)) (cond (Nat.beq k 56) (some (.dup)) (none)))) (cond (Nat.blt k 61) (cond (Nat.blt k 60) (cond (Nat.beq k 57) (some (.getfield 35)) (none)) (cond (Nat.beq k 60) (some (.iconst 1)) (none))) (cond (Nat.blt k 62) (cond (Nat.beq k 61) (some (.isub)) (none)) (cond (Nat.beq k 62) (some (.putfield 35)) (none))))) (cond (Nat.blt k 70) (cond (Nat.blt k 66) (cond (Nat.beq k 65) (some (.aload_n 0)) (none)) (cond (Nat.blt k 69) (cond (Nat.beq k 66) (some (.getfield 17)) (none)) (cond (Nat.beq k 69) (some (.aload_n 0)) (none)))) (cond (Nat.blt k 74) (cond (Nat.blt k 73) (cond (Nat.beq k 70) (some (.getfield 35)) (none)) (cond (Nat.beq k 73) (some (.iaload)) (none))) (cond (Nat.blt k 75) (cond (Nat.beq k 74) (some (.istore_n 2)) (none)) (cond (Nat.beq k 75) (some (.iload_n 2)) (none)))))) (cond (Nat.blt k 87) (cond (Nat.blt k 81) (cond (Nat.blt k 77) (cond (Nat.beq k 76) (some (.iconst 5)) (none)) (cond (Nat.blt k 80) (cond (Nat.beq k 77) (some (.if_icmp .ne 5)) (none)) (cond (Nat.beq k 80) (some (.iload_n 1)) (none)))) (cond (Nat.blt k 83) (cond (Nat.blt k 82) (cond (Nat.beq k 81) (some (.ireturn)) (none)) (cond (Nat.beq k 82) (some (.iload_n 1)) (none))) (cond (Nat.blt k 84) (cond (Nat.beq k 83) (some (.iconst 5)) (none)) (cond (Nat.beq k 84) (some (.if_icmp .eq 13)) (none))))) (cond (Nat.blt k 93) (cond (Nat.blt k 89) (cond (Nat.blt k 88) (cond (Nat.beq k 87) (some (.iload_n 1)) (none)) (cond (Nat.beq k 88) (some (.iload_n 2)) (none))) (cond (Nat.blt k 92) (cond (Nat.beq k 89) (some (.if_icmp .eq 8)) (none)) (cond (Nat.beq k 92) (some (.aload_n 0)) (none)))) (cond (Nat.blt k 97) (cond (Nat.blt k 94) (cond (Nat.beq k 93) (some (.iconst 3)) (none)) (cond (Nat.beq k 94) (some (.putfield 32)) (none))) (cond (Nat.blt k 98) (cond (Nat.beq k 97) (some (.iload_n 2)) (none)) (cond (Nat.beq k 98) (some (.ireturn)) (none)))))))
def fmC_take : fm_Me := (⟨"FlatModule$Checker", "take", "(I)I"⟩, prog_3_method_20_code, 3, some .int, 1, fm_f1, fm_cut 99 fmC_take_i)
theorem fmC_take_dc : fm_dc prog_3_method_20_code (fm_cut 99 fmC_take_i) := fm_dc_of (by decide +kernel)
theorem fmC_take_o : fm_mok fmC_take := ⟨⟨fm_f1_o, fmC_take_dc⟩, fm_tb (List.mem_of_getElem? (i := 282) (by decide +kernel)) rfl, fm_tb (List.mem_of_getElem? (i := 2) (by decide +kernel)) rfl, rfl, by decide +kernel, by decide⟩
def fmC_put_i (k : Nat) : Option Instr := cond (Nat.blt k 28) (cond (Nat.blt k 13) (cond (Nat.blt k 7) (cond (Nat.blt k 1) (cond (Nat.beq k 0) (some (.aload_n 0)) (none)) (cond (Nat.blt k 4) (cond (Nat.beq k 1) (some (.getfield 32)) (none)) (cond (Nat.beq k 4) (some (.ifCond .ne 8)) (none)))) (cond (Nat.blt k 9) (cond (Nat.blt k 8) (cond (Nat.beq k 7) (some (.iload_n 1)) (none)) (cond (Nat.beq k 8) (some (.iconst 4)) (none))) (cond (Nat.blt k 12) (cond (Nat.beq k 9) (some (.if_icmp .ne 4)) (none)) (cond (Nat.beq k 12) (some (.return_)) (none))))) (cond (Nat.blt k 19) (cond (Nat.blt k 14) (cond (Nat.beq k 13) (some (.aload_n 0)) (none)) (cond (Nat.blt k 17) (cond (Nat.beq k 14) (some (.getfield 35)) (none)) (cond (Nat.beq k 17) (some (.bipush 20)) (none)))) (cond (Nat.blt k 23) (cond (Nat.blt k 22) (cond (Nat.beq k 19) (some (.if_icmp .ne 10)) (none)) (cond (Nat.beq k 22) (some (.aload_n 0)) (none))) (cond (Nat.blt k 25) (cond (Nat.beq k 23) (some (.bipush 7)) (none)) (cond (Nat.beq k 25) (some (.putfield 32)) (none)))))) (cond (Nat.blt k 39) (cond (Nat.blt k 33) (cond (Nat.blt k 29) (cond (Nat.beq k 28) (some (.return_)) (none)) (cond (Nat.blt k 30) (cond (Nat.beq k 29) (some (.aload_n 0)) (none)) (cond (Nat.beq k 30) (some (.getfield 17)) (none)))) (cond (Nat.blt k 37) (cond (Nat.blt k 34) (cond (Nat.beq k 33) (some (.aload_n 0)) (none)) (cond (Nat.beq k 34) (some (.getfield 35)) (none))) (cond (Nat.blt k 38) (cond (Nat.beq k 37) (some (.iload_n 1)) (none)) (cond (Nat.beq k 38) (some (.iastore)) (none))))) (cond (Nat.blt k 44) (cond (Nat.blt k 40) (cond (Nat.beq k 39) (some (.aload_n 0)) (none)) (cond (Nat.blt k 41) (cond (Nat.beq k 40) (some (.dup)) (none)) (cond (Nat.beq k 41) (some (.getfield 35)) (none)))) (cond (Nat.blt k 46) (cond (Nat.blt k 45) (cond (Nat.beq k 44) (some (.iconst 1)) (none)) (cond (Nat.beq k 45) (some (.iadd)) (none))) (cond (Nat.blt k 49) (cond (Nat.beq k 46) (some (.putfield 35)) (none)) (cond (Nat.beq k 49) (some (.return_)) (none))))))
def fmC_put : fm_Me := (⟨"FlatModule$Checker", "put", "(I)V"⟩, prog_3_method_21_code, 2, none, 1, fm_f1, fm_cut 50 fmC_put_i)
theorem fmC_put_dc : fm_dc prog_3_method_21_code (fm_cut 50 fmC_put_i) := fm_dc_of (by decide +kernel)
theorem fmC_put_o : fm_mok fmC_put := ⟨⟨fm_f1_o, fmC_put_dc⟩, fm_tb (List.mem_of_getElem? (i := 278) (by decide +kernel)) rfl, fm_tb (List.mem_of_getElem? (i := 2) (by decide +kernel)) rfl, rfl, by decide +kernel, by decide⟩
end
section
/-! METHODS AS DATA, by program (wip/tools/gen_methods.py) -/

def fmD_thrown_i (k : Nat) : Option Instr := cond (Nat.blt k 1) (cond (Nat.beq k 0) (some (.aload_n 0)) (none)) (cond (Nat.blt k 4) (cond (Nat.beq k 1) (some (.getfield 82)) (none)) (cond (Nat.beq k 4) (some (.ireturn)) (none)))
def fmD_thrown : fm_Me := (⟨"FlatModuleModel", "thrown", "()I"⟩, prog_9_method_2_code, 1, some .int, 6, fm_f6, fm_cut 5 fmD_thrown_i)
theorem fmD_thrown_dc : fm_dc prog_9_method_2_code (fm_cut 5 fmD_thrown_i) := fm_dc_of (by decide +kernel)
theorem fmD_thrown_o : fm_mok fmD_thrown := ⟨⟨fm_f6_o, fmD_thrown_dc⟩, fm_tb (List.mem_of_getElem? (i := 726) (by decide +kernel)) rfl, fm_tb (List.mem_of_getElem? (i := 7) (by decide +kernel)) rfl, rfl, by decide +kernel, by decide⟩
def fmD_in_i (k : Nat) : Option Instr := cond (Nat.blt k 7) (cond (Nat.blt k 2) (cond (Nat.blt k 1) (cond (Nat.beq k 0) (some (.iload_n 0)) (none)) (cond (Nat.beq k 1) (some (.iload_n 1)) (none))) (cond (Nat.blt k 5) (cond (Nat.beq k 2) (some (.if_icmp .lt 12)) (none)) (cond (Nat.blt k 6) (cond (Nat.beq k 5) (some (.iload_n 0)) (none)) (cond (Nat.beq k 6) (some (.iload_n 2)) (none))))) (cond (Nat.blt k 11) (cond (Nat.blt k 10) (cond (Nat.beq k 7) (some (.if_icmp .gt 7)) (none)) (cond (Nat.beq k 10) (some (.iconst 1)) (none))) (cond (Nat.blt k 14) (cond (Nat.beq k 11) (some (.goto 4)) (none)) (cond (Nat.blt k 15) (cond (Nat.beq k 14) (some (.iconst 0)) (none)) (cond (Nat.beq k 15) (some (.ireturn)) (none)))))
def fmD_in : fm_Me := (⟨"FlatModuleModel", "in", "(III)Z"⟩, prog_9_method_3_code, 3, some .boolean, 6, fm_f6, fm_cut 16 fmD_in_i)
theorem fmD_in_dc : fm_dc prog_9_method_3_code (fm_cut 16 fmD_in_i) := fm_dc_of (by decide +kernel)
theorem fmD_in_o : fm_mok fmD_in := ⟨⟨fm_f6_o, fmD_in_dc⟩, fm_tb (List.mem_of_getElem? (i := 733) (by decide +kernel)) rfl, fm_tb (List.mem_of_getElem? (i := 7) (by decide +kernel)) rfl, rfl, by decide +kernel, by decide⟩
def fmD_bad_i (k : Nat) : Option Instr := cond (Nat.blt k 10) (cond (Nat.blt k 5) (cond (Nat.blt k 1) (cond (Nat.beq k 0) (some (.aload_n 0)) (none)) (cond (Nat.blt k 2) (cond (Nat.beq k 1) (some (.iload_n 1)) (none)) (cond (Nat.beq k 2) (some (.ifCond .eq 7)) (none)))) (cond (Nat.blt k 6) (cond (Nat.beq k 5) (some (.iconst 0)) (none)) (cond (Nat.blt k 9) (cond (Nat.beq k 6) (some (.goto 4)) (none)) (cond (Nat.beq k 9) (some (.iconst 1)) (none))))) (cond (Nat.blt k 17) (cond (Nat.blt k 13) (cond (Nat.beq k 10) (some (.putfield 82)) (none)) (cond (Nat.blt k 14) (cond (Nat.beq k 13) (some (.iload_n 1)) (none)) (cond (Nat.beq k 14) (some (.ifCond .ne 7)) (none)))) (cond (Nat.blt k 21) (cond (Nat.blt k 18) (cond (Nat.beq k 17) (some (.iconst 1)) (none)) (cond (Nat.beq k 18) (some (.goto 4)) (none))) (cond (Nat.blt k 22) (cond (Nat.beq k 21) (some (.iconst 0)) (none)) (cond (Nat.beq k 22) (some (.ireturn)) (none)))))
def fmD_bad : fm_Me := (⟨"FlatModuleModel", "bad", "(Z)Z"⟩, prog_9_method_4_code, 2, some .boolean, 6, fm_f6, fm_cut 23 fmD_bad_i)
theorem fmD_bad_dc : fm_dc prog_9_method_4_code (fm_cut 23 fmD_bad_i) := fm_dc_of (by decide +kernel)
theorem fmD_bad_o : fm_mok fmD_bad := ⟨⟨fm_f6_o, fmD_bad_dc⟩, fm_tb (List.mem_of_getElem? (i := 737) (by decide +kernel)) rfl, fm_tb (List.mem_of_getElem? (i := 7) (by decide +kernel)) rfl, rfl, by decide +kernel, by decide⟩
def fmD_isFunction_i (k : Nat) : Option Instr := cond (Nat.blt k 13) (cond (Nat.blt k 3) (cond (Nat.blt k 1) (cond (Nat.beq k 0) (some (.iload_n 1)) (none)) (cond (Nat.blt k 2) (cond (Nat.beq k 1) (some (.iconst 0)) (none)) (cond (Nat.beq k 2) (some (.iconst 3)) (none)))) (cond (Nat.blt k 9) (cond (Nat.blt k 6) (cond (Nat.beq k 3) (some (.invokestatic 86)) (none)) (cond (Nat.beq k 6) (some (.ifCond .eq 16)) (none))) (cond (Nat.blt k 10) (cond (Nat.beq k 9) (some (.aload_n 0)) (none)) (cond (Nat.beq k 10) (some (.getfield 31)) (none))))) (cond (Nat.blt k 18) (cond (Nat.blt k 14) (cond (Nat.beq k 13) (some (.iload_n 1)) (none)) (cond (Nat.blt k 15) (cond (Nat.beq k 14) (some (.baload)) (none)) (cond (Nat.beq k 15) (some (.ifCond .eq 7)) (none)))) (cond (Nat.blt k 22) (cond (Nat.blt k 19) (cond (Nat.beq k 18) (some (.iconst 1)) (none)) (cond (Nat.beq k 19) (some (.goto 4)) (none))) (cond (Nat.blt k 23) (cond (Nat.beq k 22) (some (.iconst 0)) (none)) (cond (Nat.beq k 23) (some (.ireturn)) (none)))))
def fmD_isFunction : fm_Me := (⟨"FlatModuleModel", "isFunction", "(I)Z"⟩, prog_9_method_5_code, 2, some .boolean, 6, fm_f6, fm_cut 24 fmD_isFunction_i)
theorem fmD_isFunction_dc : fm_dc prog_9_method_5_code (fm_cut 24 fmD_isFunction_i) := fm_dc_of (by decide +kernel)
theorem fmD_isFunction_o : fm_mok fmD_isFunction := ⟨⟨fm_f6_o, fmD_isFunction_dc⟩, fm_tb (List.mem_of_getElem? (i := 745) (by decide +kernel)) rfl, fm_tb (List.mem_of_getElem? (i := 7) (by decide +kernel)) rfl, rfl, by decide +kernel, by decide⟩
def fmD_function_i (k : Nat) : Option Instr := cond (Nat.blt k 70) (cond (Nat.blt k 35) (cond (Nat.blt k 16) (cond (Nat.blt k 7) (cond (Nat.blt k 2) (cond (Nat.blt k 1) (cond (Nat.beq k 0) (some (.aload_n 0)) (none)) (cond (Nat.beq k 1) (some (.iload_n 1)) (none))) (cond (Nat.blt k 3) (cond (Nat.beq k 2) (some (.iconst 0)) (none)) (cond (Nat.blt k 4) (cond (Nat.beq k 3) (some (.iconst 3)) (none)) (cond (Nat.beq k 4) (some (.invokestatic 86)) (none))))) (cond (Nat.blt k 11) (cond (Nat.blt k 10) (cond (Nat.beq k 7) (some (.ifCond .eq 35)) (none)) (cond (Nat.beq k 10) (some (.iload_n 2)) (none))) (cond (Nat.blt k 12) (cond (Nat.beq k 11) (some (.iconst 0)) (none)) (cond (Nat.blt k 13) (cond (Nat.beq k 12) (some (.iconst 3)) (none)) (cond (Nat.beq k 13) (some (.invokestatic 86)) (none)))))) (cond (Nat.blt k 25) (cond (Nat.blt k 20) (cond (Nat.blt k 19) (cond (Nat.beq k 16) (some (.ifCond .eq 26)) (none)) (cond (Nat.beq k 19) (some (.iload_n 3)) (none))) (cond (Nat.blt k 21) (cond (Nat.beq k 20) (some (.iconst 0)) (none)) (cond (Nat.blt k 22) (cond (Nat.beq k 21) (some (.iconst 3)) (none)) (cond (Nat.beq k 22) (some (.invokestatic 86)) (none))))) (cond (Nat.blt k 30) (cond (Nat.blt k 28) (cond (Nat.beq k 25) (some (.ifCond .eq 17)) (none)) (cond (Nat.beq k 28) (some (.iload 5)) (none))) (cond (Nat.blt k 31) (cond (Nat.beq k 30) (some (.iconst 0)) (none)) (cond (Nat.blt k 32) (cond (Nat.beq k 31) (some (.iconst 4)) (none)) (cond (Nat.beq k 32) (some (.invokestatic 86)) (none))))))) (cond (Nat.blt k 55) (cond (Nat.blt k 46) (cond (Nat.blt k 39) (cond (Nat.blt k 38) (cond (Nat.beq k 35) (some (.ifCond .eq 7)) (none)) (cond (Nat.beq k 38) (some (.iconst 1)) (none))) (cond (Nat.blt k 42) (cond (Nat.beq k 39) (some (.goto 4)) (none)) (cond (Nat.blt k 43) (cond (Nat.beq k 42) (some (.iconst 0)) (none)) (cond (Nat.beq k 43) (some (.invokevirtual 90)) (none))))) (cond (Nat.blt k 50) (cond (Nat.blt k 49) (cond (Nat.beq k 46) (some (.ifCond .eq 4)) (none)) (cond (Nat.beq k 49) (some (.return_)) (none))) (cond (Nat.blt k 51) (cond (Nat.beq k 50) (some (.aload_n 0)) (none)) (cond (Nat.blt k 54) (cond (Nat.beq k 51) (some (.getfield 31)) (none)) (cond (Nat.beq k 54) (some (.iload_n 1)) (none)))))) (cond (Nat.blt k 62) (cond (Nat.blt k 57) (cond (Nat.blt k 56) (cond (Nat.beq k 55) (some (.iconst 1)) (none)) (cond (Nat.beq k 56) (some (.bastore)) (none))) (cond (Nat.blt k 58) (cond (Nat.beq k 57) (some (.aload_n 0)) (none)) (cond (Nat.blt k 61) (cond (Nat.beq k 58) (some (.getfield 19)) (none)) (cond (Nat.beq k 61) (some (.iload_n 1)) (none))))) (cond (Nat.blt k 65) (cond (Nat.blt k 63) (cond (Nat.beq k 62) (some (.iload_n 2)) (none)) (cond (Nat.blt k 64) (cond (Nat.beq k 63) (some (.iastore)) (none)) (cond (Nat.beq k 64) (some (.aload_n 0)) (none)))) (cond (Nat.blt k 68) (cond (Nat.beq k 65) (some (.getfield 22)) (none)) (cond (Nat.blt k 69) (cond (Nat.beq k 68) (some (.iload_n 1)) (none)) (cond (Nat.beq k 69) (some (.iload_n 2)) (none)))))))) (cond (Nat.blt k 99) (cond (Nat.blt k 84) (cond (Nat.blt k 77) (cond (Nat.blt k 72) (cond (Nat.blt k 71) (cond (Nat.beq k 70) (some (.iload_n 3)) (none)) (cond (Nat.beq k 71) (some (.iadd)) (none))) (cond (Nat.blt k 73) (cond (Nat.beq k 72) (some (.iastore)) (none)) (cond (Nat.blt k 74) (cond (Nat.beq k 73) (some (.aload_n 0)) (none)) (cond (Nat.beq k 74) (some (.getfield 16)) (none))))) (cond (Nat.blt k 79) (cond (Nat.blt k 78) (cond (Nat.beq k 77) (some (.iload_n 1)) (none)) (cond (Nat.beq k 78) (some (.iconst 0)) (none))) (cond (Nat.blt k 80) (cond (Nat.beq k 79) (some (.iastore)) (none)) (cond (Nat.blt k 81) (cond (Nat.beq k 80) (some (.aload_n 0)) (none)) (cond (Nat.beq k 81) (some (.getfield 28)) (none)))))) (cond (Nat.blt k 91) (cond (Nat.blt k 87) (cond (Nat.blt k 85) (cond (Nat.beq k 84) (some (.iload_n 1)) (none)) (cond (Nat.beq k 85) (some (.iload 5)) (none))) (cond (Nat.blt k 88) (cond (Nat.beq k 87) (some (.iastore)) (none)) (cond (Nat.blt k 89) (cond (Nat.beq k 88) (some (.iconst 0)) (none)) (cond (Nat.beq k 89) (some (.istore 6)) (none))))) (cond (Nat.blt k 94) (cond (Nat.blt k 93) (cond (Nat.beq k 91) (some (.iload 6)) (none)) (cond (Nat.beq k 93) (some (.iload_n 2)) (none))) (cond (Nat.blt k 95) (cond (Nat.beq k 94) (some (.iload_n 3)) (none)) (cond (Nat.blt k 96) (cond (Nat.beq k 95) (some (.iadd)) (none)) (cond (Nat.beq k 96) (some (.if_icmp .ge 30)) (none))))))) (cond (Nat.blt k 115) (cond (Nat.blt k 107) (cond (Nat.blt k 103) (cond (Nat.blt k 100) (cond (Nat.beq k 99) (some (.aload_n 0)) (none)) (cond (Nat.beq k 100) (some (.getfield 25)) (none))) (cond (Nat.blt k 104) (cond (Nat.beq k 103) (some (.iload_n 1)) (none)) (cond (Nat.blt k 106) (cond (Nat.beq k 104) (some (.bipush 6)) (none)) (cond (Nat.beq k 106) (some (.imul)) (none))))) (cond (Nat.blt k 110) (cond (Nat.blt k 109) (cond (Nat.beq k 107) (some (.iload 6)) (none)) (cond (Nat.beq k 109) (some (.iadd)) (none))) (cond (Nat.blt k 112) (cond (Nat.beq k 110) (some (.iload 4)) (none)) (cond (Nat.blt k 113) (cond (Nat.beq k 112) (some (.iconst 2)) (none)) (cond (Nat.beq k 113) (some (.iload 6)) (none)))))) (cond (Nat.blt k 120) (cond (Nat.blt k 117) (cond (Nat.blt k 116) (cond (Nat.beq k 115) (some (.imul)) (none)) (cond (Nat.beq k 116) (some (.ishr)) (none))) (cond (Nat.blt k 118) (cond (Nat.beq k 117) (some (.iconst 3)) (none)) (cond (Nat.blt k 119) (cond (Nat.beq k 118) (some (.iand)) (none)) (cond (Nat.beq k 119) (some (.iastore)) (none))))) (cond (Nat.blt k 127) (cond (Nat.blt k 123) (cond (Nat.beq k 120) (some (.iinc 6 1)) (none)) (cond (Nat.blt k 126) (cond (Nat.beq k 123) (some (.goto (-32))) (none)) (cond (Nat.beq k 126) (some (.aload_n 0)) (none)))) (cond (Nat.blt k 128) (cond (Nat.beq k 127) (some (.iconst 0)) (none)) (cond (Nat.blt k 131) (cond (Nat.beq k 128) (some (.putfield 94)) (none)) (cond (Nat.beq k 131) (some (.return_)) (none))))))))
def fmD_function : fm_Me := (⟨"FlatModuleModel", "function", "(IIIII)V"⟩, prog_9_method_6_code, 7, none, 6, fm_f6, fm_cut 132 fmD_function_i)
theorem fmD_function_dc : fm_dc prog_9_method_6_code (fm_cut 132 fmD_function_i) := fm_dc_of (by decide +kernel)
theorem fmD_function_o : fm_mok fmD_function := ⟨⟨fm_f6_o, fmD_function_dc⟩, fm_tb (List.mem_of_getElem? (i := 730) (by decide +kernel)) rfl, fm_tb (List.mem_of_getElem? (i := 7) (by decide +kernel)) rfl, rfl, by decide +kernel, by decide⟩
def fmD_emit_i (k : Nat) : Option Instr := cond (Nat.blt k 59) (cond (Nat.blt k 32) (cond (Nat.blt k 13) (cond (Nat.blt k 6) (cond (Nat.blt k 2) (cond (Nat.blt k 1) (cond (Nat.beq k 0) (some (.aload_n 0)) (none)) (cond (Nat.beq k 1) (some (.aload_n 0)) (none))) (cond (Nat.blt k 3) (cond (Nat.beq k 2) (some (.iload_n 1)) (none)) (cond (Nat.beq k 3) (some (.invokevirtual 98)) (none)))) (cond (Nat.blt k 10) (cond (Nat.blt k 9) (cond (Nat.beq k 6) (some (.ifCond .eq 17)) (none)) (cond (Nat.beq k 9) (some (.iload_n 2)) (none))) (cond (Nat.blt k 11) (cond (Nat.beq k 10) (some (.iconst 0)) (none)) (cond (Nat.beq k 11) (some (.bipush 30)) (none))))) (cond (Nat.blt k 23) (cond (Nat.blt k 19) (cond (Nat.blt k 16) (cond (Nat.beq k 13) (some (.invokestatic 86)) (none)) (cond (Nat.beq k 16) (some (.ifCond .eq 7)) (none))) (cond (Nat.blt k 20) (cond (Nat.beq k 19) (some (.iconst 1)) (none)) (cond (Nat.beq k 20) (some (.goto 4)) (none)))) (cond (Nat.blt k 27) (cond (Nat.blt k 24) (cond (Nat.beq k 23) (some (.iconst 0)) (none)) (cond (Nat.beq k 24) (some (.invokevirtual 90)) (none))) (cond (Nat.blt k 30) (cond (Nat.beq k 27) (some (.ifCond .eq 5)) (none)) (cond (Nat.blt k 31) (cond (Nat.beq k 30) (some (.iconst 0)) (none)) (cond (Nat.beq k 31) (some (.ireturn)) (none))))))) (cond (Nat.blt k 45) (cond (Nat.blt k 38) (cond (Nat.blt k 36) (cond (Nat.blt k 33) (cond (Nat.beq k 32) (some (.aload_n 0)) (none)) (cond (Nat.beq k 33) (some (.getfield 16)) (none))) (cond (Nat.blt k 37) (cond (Nat.beq k 36) (some (.iload_n 1)) (none)) (cond (Nat.beq k 37) (some (.iaload)) (none)))) (cond (Nat.blt k 43) (cond (Nat.blt k 40) (cond (Nat.beq k 38) (some (.bipush 40)) (none)) (cond (Nat.beq k 40) (some (.if_icmp .ne 10)) (none))) (cond (Nat.blt k 44) (cond (Nat.beq k 43) (some (.aload_n 0)) (none)) (cond (Nat.beq k 44) (some (.iconst 2)) (none))))) (cond (Nat.blt k 51) (cond (Nat.blt k 49) (cond (Nat.blt k 48) (cond (Nat.beq k 45) (some (.putfield 82)) (none)) (cond (Nat.beq k 48) (some (.iconst 0)) (none))) (cond (Nat.blt k 50) (cond (Nat.beq k 49) (some (.ireturn)) (none)) (cond (Nat.beq k 50) (some (.aload_n 0)) (none)))) (cond (Nat.blt k 55) (cond (Nat.blt k 54) (cond (Nat.beq k 51) (some (.getfield 7)) (none)) (cond (Nat.beq k 54) (some (.iload_n 1)) (none))) (cond (Nat.blt k 57) (cond (Nat.beq k 55) (some (.bipush 40)) (none)) (cond (Nat.blt k 58) (cond (Nat.beq k 57) (some (.imul)) (none)) (cond (Nat.beq k 58) (some (.aload_n 0)) (none)))))))) (cond (Nat.blt k 83) (cond (Nat.blt k 71) (cond (Nat.blt k 65) (cond (Nat.blt k 63) (cond (Nat.blt k 62) (cond (Nat.beq k 59) (some (.getfield 16)) (none)) (cond (Nat.beq k 62) (some (.iload_n 1)) (none))) (cond (Nat.blt k 64) (cond (Nat.beq k 63) (some (.iaload)) (none)) (cond (Nat.beq k 64) (some (.iadd)) (none)))) (cond (Nat.blt k 67) (cond (Nat.blt k 66) (cond (Nat.beq k 65) (some (.iload_n 2)) (none)) (cond (Nat.beq k 66) (some (.iastore)) (none))) (cond (Nat.blt k 68) (cond (Nat.beq k 67) (some (.aload_n 0)) (none)) (cond (Nat.beq k 68) (some (.getfield 13)) (none))))) (cond (Nat.blt k 76) (cond (Nat.blt k 74) (cond (Nat.blt k 72) (cond (Nat.beq k 71) (some (.iload_n 1)) (none)) (cond (Nat.beq k 72) (some (.bipush 40)) (none))) (cond (Nat.blt k 75) (cond (Nat.beq k 74) (some (.imul)) (none)) (cond (Nat.beq k 75) (some (.aload_n 0)) (none)))) (cond (Nat.blt k 80) (cond (Nat.blt k 79) (cond (Nat.beq k 76) (some (.getfield 16)) (none)) (cond (Nat.beq k 79) (some (.iload_n 1)) (none))) (cond (Nat.blt k 81) (cond (Nat.beq k 80) (some (.iaload)) (none)) (cond (Nat.blt k 82) (cond (Nat.beq k 81) (some (.iadd)) (none)) (cond (Nat.beq k 82) (some (.iload_n 3)) (none))))))) (cond (Nat.blt k 93) (cond (Nat.blt k 89) (cond (Nat.blt k 85) (cond (Nat.blt k 84) (cond (Nat.beq k 83) (some (.iastore)) (none)) (cond (Nat.beq k 84) (some (.aload_n 0)) (none))) (cond (Nat.blt k 88) (cond (Nat.beq k 85) (some (.getfield 16)) (none)) (cond (Nat.beq k 88) (some (.iload_n 1)) (none)))) (cond (Nat.blt k 91) (cond (Nat.blt k 90) (cond (Nat.beq k 89) (some (.dup2)) (none)) (cond (Nat.beq k 90) (some (.iaload)) (none))) (cond (Nat.blt k 92) (cond (Nat.beq k 91) (some (.iconst 1)) (none)) (cond (Nat.beq k 92) (some (.iadd)) (none))))) (cond (Nat.blt k 99) (cond (Nat.blt k 95) (cond (Nat.blt k 94) (cond (Nat.beq k 93) (some (.iastore)) (none)) (cond (Nat.beq k 94) (some (.aload_n 0)) (none))) (cond (Nat.blt k 96) (cond (Nat.beq k 95) (some (.iconst 0)) (none)) (cond (Nat.beq k 96) (some (.putfield 94)) (none)))) (cond (Nat.blt k 103) (cond (Nat.blt k 100) (cond (Nat.beq k 99) (some (.aload_n 0)) (none)) (cond (Nat.beq k 100) (some (.getfield 16)) (none))) (cond (Nat.blt k 104) (cond (Nat.beq k 103) (some (.iload_n 1)) (none)) (cond (Nat.blt k 105) (cond (Nat.beq k 104) (some (.iaload)) (none)) (cond (Nat.beq k 105) (some (.ireturn)) (none))))))))
def fmD_emit : fm_Me := (⟨"FlatModuleModel", "emit", "(III)I"⟩, prog_9_method_7_code, 4, some .int, 6, fm_f6, fm_cut 106 fmD_emit_i)
theorem fmD_emit_dc : fm_dc prog_9_method_7_code (fm_cut 106 fmD_emit_i) := fm_dc_of (by decide +kernel)
theorem fmD_emit_o : fm_mok fmD_emit := ⟨⟨fm_f6_o, fmD_emit_dc⟩, fm_tb (List.mem_of_getElem? (i := 741) (by decide +kernel)) rfl, fm_tb (List.mem_of_getElem? (i := 7) (by decide +kernel)) rfl, rfl, by decide +kernel, by decide⟩
def fmD_erase_i (k : Nat) : Option Instr := cond (Nat.blt k 14) (cond (Nat.blt k 6) (cond (Nat.blt k 2) (cond (Nat.blt k 1) (cond (Nat.beq k 0) (some (.aload_n 0)) (none)) (cond (Nat.beq k 1) (some (.aload_n 0)) (none))) (cond (Nat.blt k 3) (cond (Nat.beq k 2) (some (.iload_n 1)) (none)) (cond (Nat.beq k 3) (some (.invokevirtual 98)) (none)))) (cond (Nat.blt k 12) (cond (Nat.blt k 9) (cond (Nat.beq k 6) (some (.invokevirtual 90)) (none)) (cond (Nat.beq k 9) (some (.ifCond .eq 4)) (none))) (cond (Nat.blt k 13) (cond (Nat.beq k 12) (some (.return_)) (none)) (cond (Nat.beq k 13) (some (.aload_n 0)) (none))))) (cond (Nat.blt k 20) (cond (Nat.blt k 18) (cond (Nat.blt k 17) (cond (Nat.beq k 14) (some (.getfield 16)) (none)) (cond (Nat.beq k 17) (some (.iload_n 1)) (none))) (cond (Nat.blt k 19) (cond (Nat.beq k 18) (some (.iconst 0)) (none)) (cond (Nat.beq k 19) (some (.iastore)) (none)))) (cond (Nat.blt k 22) (cond (Nat.blt k 21) (cond (Nat.beq k 20) (some (.aload_n 0)) (none)) (cond (Nat.beq k 21) (some (.iconst 0)) (none))) (cond (Nat.blt k 25) (cond (Nat.beq k 22) (some (.putfield 94)) (none)) (cond (Nat.beq k 25) (some (.return_)) (none)))))
def fmD_erase : fm_Me := (⟨"FlatModuleModel", "erase", "(I)V"⟩, prog_9_method_8_code, 2, none, 6, fm_f6, fm_cut 26 fmD_erase_i)
theorem fmD_erase_dc : fm_dc prog_9_method_8_code (fm_cut 26 fmD_erase_i) := fm_dc_of (by decide +kernel)
theorem fmD_erase_o : fm_mok fmD_erase := ⟨⟨fm_f6_o, fmD_erase_dc⟩, fm_tb (List.mem_of_getElem? (i := 749) (by decide +kernel)) rfl, fm_tb (List.mem_of_getElem? (i := 7) (by decide +kernel)) rfl, rfl, by decide +kernel, by decide⟩
def fmD_wrong_i (k : Nat) : Option Instr := cond (Nat.blt k 7) (cond (Nat.blt k 1) (cond (Nat.beq k 0) (some (.aload_n 0)) (none)) (cond (Nat.blt k 4) (cond (Nat.beq k 1) (some (.getfield 102)) (none)) (cond (Nat.beq k 4) (some (.ifCond .ne 8)) (none)))) (cond (Nat.blt k 9) (cond (Nat.blt k 8) (cond (Nat.beq k 7) (some (.aload_n 0)) (none)) (cond (Nat.beq k 8) (some (.iload_n 1)) (none))) (cond (Nat.blt k 12) (cond (Nat.beq k 9) (some (.putfield 102)) (none)) (cond (Nat.beq k 12) (some (.return_)) (none))))
def fmD_wrong : fm_Me := (⟨"FlatModuleModel", "wrong", "(I)V"⟩, prog_9_method_9_code, 2, none, 6, fm_f6, fm_cut 13 fmD_wrong_i)
theorem fmD_wrong_dc : fm_dc prog_9_method_9_code (fm_cut 13 fmD_wrong_i) := fm_dc_of (by decide +kernel)
theorem fmD_wrong_o : fm_mok fmD_wrong := ⟨⟨fm_f6_o, fmD_wrong_dc⟩, fm_tb (List.mem_of_getElem? (i := 777) (by decide +kernel)) rfl, fm_tb (List.mem_of_getElem? (i := 7) (by decide +kernel)) rfl, rfl, by decide +kernel, by decide⟩
def fmD_put_i (k : Nat) : Option Instr := cond (Nat.blt k 24) (cond (Nat.blt k 12) (cond (Nat.blt k 7) (cond (Nat.blt k 1) (cond (Nat.beq k 0) (some (.aload_n 0)) (none)) (cond (Nat.blt k 4) (cond (Nat.beq k 1) (some (.getfield 102)) (none)) (cond (Nat.beq k 4) (some (.ifCond .le 4)) (none)))) (cond (Nat.blt k 8) (cond (Nat.beq k 7) (some (.return_)) (none)) (cond (Nat.blt k 9) (cond (Nat.beq k 8) (some (.aload_n 0)) (none)) (cond (Nat.beq k 9) (some (.getfield 105)) (none))))) (cond (Nat.blt k 18) (cond (Nat.blt k 14) (cond (Nat.beq k 12) (some (.bipush 20)) (none)) (cond (Nat.blt k 17) (cond (Nat.beq k 14) (some (.if_icmp .ne 10)) (none)) (cond (Nat.beq k 17) (some (.aload_n 0)) (none)))) (cond (Nat.blt k 20) (cond (Nat.beq k 18) (some (.bipush 7)) (none)) (cond (Nat.blt k 23) (cond (Nat.beq k 20) (some (.putfield 102)) (none)) (cond (Nat.beq k 23) (some (.return_)) (none)))))) (cond (Nat.blt k 34) (cond (Nat.blt k 29) (cond (Nat.blt k 25) (cond (Nat.beq k 24) (some (.aload_n 0)) (none)) (cond (Nat.blt k 28) (cond (Nat.beq k 25) (some (.getfield 43)) (none)) (cond (Nat.beq k 28) (some (.aload_n 0)) (none)))) (cond (Nat.blt k 32) (cond (Nat.beq k 29) (some (.getfield 105)) (none)) (cond (Nat.blt k 33) (cond (Nat.beq k 32) (some (.iload_n 1)) (none)) (cond (Nat.beq k 33) (some (.iastore)) (none))))) (cond (Nat.blt k 39) (cond (Nat.blt k 35) (cond (Nat.beq k 34) (some (.aload_n 0)) (none)) (cond (Nat.blt k 36) (cond (Nat.beq k 35) (some (.dup)) (none)) (cond (Nat.beq k 36) (some (.getfield 105)) (none)))) (cond (Nat.blt k 41) (cond (Nat.blt k 40) (cond (Nat.beq k 39) (some (.iconst 1)) (none)) (cond (Nat.beq k 40) (some (.iadd)) (none))) (cond (Nat.blt k 44) (cond (Nat.beq k 41) (some (.putfield 105)) (none)) (cond (Nat.beq k 44) (some (.return_)) (none))))))
def fmD_put : fm_Me := (⟨"FlatModuleModel", "put", "(I)V"⟩, prog_9_method_10_code, 2, none, 6, fm_f6, fm_cut 45 fmD_put_i)
theorem fmD_put_dc : fm_dc prog_9_method_10_code (fm_cut 45 fmD_put_i) := fm_dc_of (by decide +kernel)
theorem fmD_put_o : fm_mok fmD_put := ⟨⟨fm_f6_o, fmD_put_dc⟩, fm_tb (List.mem_of_getElem? (i := 769) (by decide +kernel)) rfl, fm_tb (List.mem_of_getElem? (i := 7) (by decide +kernel)) rfl, rfl, by decide +kernel, by decide⟩
def fmD_take_i (k : Nat) : Option Instr := cond (Nat.blt k 49) (cond (Nat.blt k 24) (cond (Nat.blt k 13) (cond (Nat.blt k 7) (cond (Nat.blt k 1) (cond (Nat.beq k 0) (some (.aload_n 0)) (none)) (cond (Nat.blt k 4) (cond (Nat.beq k 1) (some (.getfield 102)) (none)) (cond (Nat.beq k 4) (some (.ifCond .le 5)) (none)))) (cond (Nat.blt k 9) (cond (Nat.blt k 8) (cond (Nat.beq k 7) (some (.iconst 5)) (none)) (cond (Nat.beq k 8) (some (.ireturn)) (none))) (cond (Nat.blt k 10) (cond (Nat.beq k 9) (some (.aload_n 0)) (none)) (cond (Nat.beq k 10) (some (.getfield 105)) (none))))) (cond (Nat.blt k 18) (cond (Nat.blt k 14) (cond (Nat.beq k 13) (some (.aload_n 0)) (none)) (cond (Nat.blt k 17) (cond (Nat.beq k 14) (some (.getfield 46)) (none)) (cond (Nat.beq k 17) (some (.aload_n 0)) (none)))) (cond (Nat.blt k 22) (cond (Nat.blt k 21) (cond (Nat.beq k 18) (some (.getfield 108)) (none)) (cond (Nat.beq k 21) (some (.iconst 1)) (none))) (cond (Nat.blt k 23) (cond (Nat.beq k 22) (some (.isub)) (none)) (cond (Nat.beq k 23) (some (.iaload)) (none)))))) (cond (Nat.blt k 37) (cond (Nat.blt k 31) (cond (Nat.blt k 27) (cond (Nat.beq k 24) (some (.if_icmp .ne 24)) (none)) (cond (Nat.blt k 28) (cond (Nat.beq k 27) (some (.aload_n 0)) (none)) (cond (Nat.beq k 28) (some (.getfield 55)) (none)))) (cond (Nat.blt k 35) (cond (Nat.blt k 32) (cond (Nat.beq k 31) (some (.aload_n 0)) (none)) (cond (Nat.beq k 32) (some (.getfield 108)) (none))) (cond (Nat.blt k 36) (cond (Nat.beq k 35) (some (.iconst 1)) (none)) (cond (Nat.beq k 36) (some (.isub)) (none))))) (cond (Nat.blt k 43) (cond (Nat.blt k 41) (cond (Nat.blt k 38) (cond (Nat.beq k 37) (some (.baload)) (none)) (cond (Nat.beq k 38) (some (.ifCond .ne 8)) (none))) (cond (Nat.blt k 42) (cond (Nat.beq k 41) (some (.aload_n 0)) (none)) (cond (Nat.beq k 42) (some (.iconst 2)) (none)))) (cond (Nat.blt k 47) (cond (Nat.blt k 46) (cond (Nat.beq k 43) (some (.putfield 102)) (none)) (cond (Nat.beq k 46) (some (.iload_n 1)) (none))) (cond (Nat.blt k 48) (cond (Nat.beq k 47) (some (.ireturn)) (none)) (cond (Nat.beq k 48) (some (.aload_n 0)) (none))))))) (cond (Nat.blt k 74) (cond (Nat.blt k 62) (cond (Nat.blt k 54) (cond (Nat.blt k 50) (cond (Nat.beq k 49) (some (.dup)) (none)) (cond (Nat.blt k 53) (cond (Nat.beq k 50) (some (.getfield 105)) (none)) (cond (Nat.beq k 53) (some (.iconst 1)) (none)))) (cond (Nat.blt k 58) (cond (Nat.blt k 55) (cond (Nat.beq k 54) (some (.isub)) (none)) (cond (Nat.beq k 55) (some (.putfield 105)) (none))) (cond (Nat.blt k 59) (cond (Nat.beq k 58) (some (.aload_n 0)) (none)) (cond (Nat.beq k 59) (some (.getfield 43)) (none))))) (cond (Nat.blt k 68) (cond (Nat.blt k 66) (cond (Nat.blt k 63) (cond (Nat.beq k 62) (some (.aload_n 0)) (none)) (cond (Nat.beq k 63) (some (.getfield 105)) (none))) (cond (Nat.blt k 67) (cond (Nat.beq k 66) (some (.iaload)) (none)) (cond (Nat.beq k 67) (some (.istore_n 2)) (none)))) (cond (Nat.blt k 70) (cond (Nat.blt k 69) (cond (Nat.beq k 68) (some (.iload_n 1)) (none)) (cond (Nat.beq k 69) (some (.iconst 5)) (none))) (cond (Nat.blt k 73) (cond (Nat.beq k 70) (some (.if_icmp .eq 18)) (none)) (cond (Nat.beq k 73) (some (.iload_n 2)) (none)))))) (cond (Nat.blt k 85) (cond (Nat.blt k 79) (cond (Nat.blt k 75) (cond (Nat.beq k 74) (some (.iconst 5)) (none)) (cond (Nat.blt k 78) (cond (Nat.beq k 75) (some (.if_icmp .eq 13)) (none)) (cond (Nat.beq k 78) (some (.iload_n 2)) (none)))) (cond (Nat.blt k 83) (cond (Nat.blt k 80) (cond (Nat.beq k 79) (some (.iload_n 1)) (none)) (cond (Nat.beq k 80) (some (.if_icmp .eq 8)) (none))) (cond (Nat.blt k 84) (cond (Nat.beq k 83) (some (.aload_n 0)) (none)) (cond (Nat.beq k 84) (some (.iconst 3)) (none))))) (cond (Nat.blt k 93) (cond (Nat.blt k 89) (cond (Nat.blt k 88) (cond (Nat.beq k 85) (some (.putfield 102)) (none)) (cond (Nat.beq k 88) (some (.iload_n 2)) (none))) (cond (Nat.blt k 90) (cond (Nat.beq k 89) (some (.iconst 5)) (none)) (cond (Nat.beq k 90) (some (.if_icmp .ne 7)) (none)))) (cond (Nat.blt k 97) (cond (Nat.blt k 94) (cond (Nat.beq k 93) (some (.iload_n 1)) (none)) (cond (Nat.beq k 94) (some (.goto 4)) (none))) (cond (Nat.blt k 98) (cond (Nat.beq k 97) (some (.iload_n 2)) (none)) (cond (Nat.beq k 98) (some (.ireturn)) (none)))))))
def fmD_take : fm_Me := (⟨"FlatModuleModel", "take", "(I)I"⟩, prog_9_method_11_code, 3, some .int, 6, fm_f6, fm_cut 99 fmD_take_i)
theorem fmD_take_dc : fm_dc prog_9_method_11_code (fm_cut 99 fmD_take_i) := fm_dc_of (by decide +kernel)
theorem fmD_take_o : fm_mok fmD_take := ⟨⟨fm_f6_o, fmD_take_dc⟩, fm_tb (List.mem_of_getElem? (i := 781) (by decide +kernel)) rfl, fm_tb (List.mem_of_getElem? (i := 7) (by decide +kernel)) rfl, rfl, by decide +kernel, by decide⟩
def fmD_begin_i (k : Nat) : Option Instr := cond (Nat.blt k 42) (cond (Nat.blt k 23) (cond (Nat.blt k 9) (cond (Nat.blt k 4) (cond (Nat.blt k 1) (cond (Nat.beq k 0) (some (.aload_n 0)) (none)) (cond (Nat.beq k 1) (some (.getfield 102)) (none))) (cond (Nat.blt k 7) (cond (Nat.beq k 4) (some (.ifCond .le 4)) (none)) (cond (Nat.blt k 8) (cond (Nat.beq k 7) (some (.return_)) (none)) (cond (Nat.beq k 8) (some (.aload_n 0)) (none))))) (cond (Nat.blt k 17) (cond (Nat.blt k 12) (cond (Nat.beq k 9) (some (.getfield 108)) (none)) (cond (Nat.blt k 14) (cond (Nat.beq k 12) (some (.bipush 9)) (none)) (cond (Nat.beq k 14) (some (.if_icmp .ne 10)) (none)))) (cond (Nat.blt k 18) (cond (Nat.beq k 17) (some (.aload_n 0)) (none)) (cond (Nat.blt k 20) (cond (Nat.beq k 18) (some (.bipush 7)) (none)) (cond (Nat.beq k 20) (some (.putfield 102)) (none)))))) (cond (Nat.blt k 32) (cond (Nat.blt k 25) (cond (Nat.blt k 24) (cond (Nat.beq k 23) (some (.return_)) (none)) (cond (Nat.beq k 24) (some (.aload_n 0)) (none))) (cond (Nat.blt k 28) (cond (Nat.beq k 25) (some (.getfield 46)) (none)) (cond (Nat.blt k 29) (cond (Nat.beq k 28) (some (.aload_n 0)) (none)) (cond (Nat.beq k 29) (some (.getfield 108)) (none))))) (cond (Nat.blt k 37) (cond (Nat.blt k 33) (cond (Nat.beq k 32) (some (.aload_n 0)) (none)) (cond (Nat.blt k 36) (cond (Nat.beq k 33) (some (.getfield 105)) (none)) (cond (Nat.beq k 36) (some (.iastore)) (none)))) (cond (Nat.blt k 38) (cond (Nat.beq k 37) (some (.aload_n 0)) (none)) (cond (Nat.blt k 41) (cond (Nat.beq k 38) (some (.getfield 49)) (none)) (cond (Nat.beq k 41) (some (.aload_n 0)) (none))))))) (cond (Nat.blt k 61) (cond (Nat.blt k 51) (cond (Nat.blt k 46) (cond (Nat.blt k 45) (cond (Nat.beq k 42) (some (.getfield 108)) (none)) (cond (Nat.beq k 45) (some (.iload_n 2)) (none))) (cond (Nat.blt k 47) (cond (Nat.beq k 46) (some (.iastore)) (none)) (cond (Nat.blt k 48) (cond (Nat.beq k 47) (some (.aload_n 0)) (none)) (cond (Nat.beq k 48) (some (.getfield 52)) (none))))) (cond (Nat.blt k 56) (cond (Nat.blt k 52) (cond (Nat.beq k 51) (some (.aload_n 0)) (none)) (cond (Nat.blt k 55) (cond (Nat.beq k 52) (some (.getfield 108)) (none)) (cond (Nat.beq k 55) (some (.iload_n 1)) (none)))) (cond (Nat.blt k 57) (cond (Nat.beq k 56) (some (.iastore)) (none)) (cond (Nat.blt k 58) (cond (Nat.beq k 57) (some (.aload_n 0)) (none)) (cond (Nat.beq k 58) (some (.getfield 55)) (none)))))) (cond (Nat.blt k 68) (cond (Nat.blt k 65) (cond (Nat.blt k 62) (cond (Nat.beq k 61) (some (.aload_n 0)) (none)) (cond (Nat.beq k 62) (some (.getfield 108)) (none))) (cond (Nat.blt k 66) (cond (Nat.beq k 65) (some (.iconst 0)) (none)) (cond (Nat.blt k 67) (cond (Nat.beq k 66) (some (.bastore)) (none)) (cond (Nat.beq k 67) (some (.aload_n 0)) (none))))) (cond (Nat.blt k 73) (cond (Nat.blt k 69) (cond (Nat.beq k 68) (some (.dup)) (none)) (cond (Nat.blt k 72) (cond (Nat.beq k 69) (some (.getfield 108)) (none)) (cond (Nat.beq k 72) (some (.iconst 1)) (none)))) (cond (Nat.blt k 74) (cond (Nat.beq k 73) (some (.iadd)) (none)) (cond (Nat.blt k 77) (cond (Nat.beq k 74) (some (.putfield 108)) (none)) (cond (Nat.beq k 77) (some (.return_)) (none)))))))
def fmD_begin : fm_Me := (⟨"FlatModuleModel", "begin", "(II)V"⟩, prog_9_method_12_code, 3, none, 6, fm_f6, fm_cut 78 fmD_begin_i)
theorem fmD_begin_dc : fm_dc prog_9_method_12_code (fm_cut 78 fmD_begin_i) := fm_dc_of (by decide +kernel)
theorem fmD_begin_o : fm_mok fmD_begin := ⟨⟨fm_f6_o, fmD_begin_dc⟩, fm_tb (List.mem_of_getElem? (i := 761) (by decide +kernel)) rfl, fm_tb (List.mem_of_getElem? (i := 7) (by decide +kernel)) rfl, rfl, by decide +kernel, by decide⟩
def fmD_die_i (k : Nat) : Option Instr := cond (Nat.blt k 19) (cond (Nat.blt k 9) (cond (Nat.blt k 4) (cond (Nat.blt k 1) (cond (Nat.beq k 0) (some (.aload_n 0)) (none)) (cond (Nat.beq k 1) (some (.getfield 102)) (none))) (cond (Nat.blt k 7) (cond (Nat.beq k 4) (some (.ifCond .le 4)) (none)) (cond (Nat.blt k 8) (cond (Nat.beq k 7) (some (.return_)) (none)) (cond (Nat.beq k 8) (some (.aload_n 0)) (none))))) (cond (Nat.blt k 14) (cond (Nat.blt k 10) (cond (Nat.beq k 9) (some (.aload_n 0)) (none)) (cond (Nat.blt k 13) (cond (Nat.beq k 10) (some (.getfield 46)) (none)) (cond (Nat.beq k 13) (some (.aload_n 0)) (none)))) (cond (Nat.blt k 17) (cond (Nat.beq k 14) (some (.getfield 108)) (none)) (cond (Nat.blt k 18) (cond (Nat.beq k 17) (some (.iconst 1)) (none)) (cond (Nat.beq k 18) (some (.isub)) (none)))))) (cond (Nat.blt k 28) (cond (Nat.blt k 23) (cond (Nat.blt k 20) (cond (Nat.beq k 19) (some (.iaload)) (none)) (cond (Nat.beq k 20) (some (.putfield 105)) (none))) (cond (Nat.blt k 24) (cond (Nat.beq k 23) (some (.aload_n 0)) (none)) (cond (Nat.blt k 27) (cond (Nat.beq k 24) (some (.getfield 55)) (none)) (cond (Nat.beq k 27) (some (.aload_n 0)) (none))))) (cond (Nat.blt k 33) (cond (Nat.blt k 31) (cond (Nat.beq k 28) (some (.getfield 108)) (none)) (cond (Nat.blt k 32) (cond (Nat.beq k 31) (some (.iconst 1)) (none)) (cond (Nat.beq k 32) (some (.isub)) (none)))) (cond (Nat.blt k 34) (cond (Nat.beq k 33) (some (.iconst 1)) (none)) (cond (Nat.blt k 35) (cond (Nat.beq k 34) (some (.bastore)) (none)) (cond (Nat.beq k 35) (some (.return_)) (none))))))
def fmD_die : fm_Me := (⟨"FlatModuleModel", "die", "()V"⟩, prog_9_method_13_code, 1, none, 6, fm_f6, fm_cut 36 fmD_die_i)
theorem fmD_die_dc : fm_dc prog_9_method_13_code (fm_cut 36 fmD_die_i) := fm_dc_of (by decide +kernel)
theorem fmD_die_o : fm_mok fmD_die := ⟨⟨fm_f6_o, fmD_die_dc⟩, fm_tb (List.mem_of_getElem? (i := 809) (by decide +kernel)) rfl, fm_tb (List.mem_of_getElem? (i := 7) (by decide +kernel)) rfl, rfl, by decide +kernel, by decide⟩
def fmD_finish_i (k : Nat) : Option Instr := cond (Nat.blt k 30) (cond (Nat.blt k 15) (cond (Nat.blt k 8) (cond (Nat.blt k 4) (cond (Nat.blt k 1) (cond (Nat.beq k 0) (some (.aload_n 0)) (none)) (cond (Nat.beq k 1) (some (.getfield 49)) (none))) (cond (Nat.blt k 5) (cond (Nat.beq k 4) (some (.aload_n 0)) (none)) (cond (Nat.beq k 5) (some (.getfield 108)) (none)))) (cond (Nat.blt k 10) (cond (Nat.blt k 9) (cond (Nat.beq k 8) (some (.iconst 1)) (none)) (cond (Nat.beq k 9) (some (.isub)) (none))) (cond (Nat.blt k 11) (cond (Nat.beq k 10) (some (.iaload)) (none)) (cond (Nat.blt k 12) (cond (Nat.beq k 11) (some (.iconst 4)) (none)) (cond (Nat.beq k 12) (some (.if_icmp .eq 19)) (none)))))) (cond (Nat.blt k 21) (cond (Nat.blt k 17) (cond (Nat.blt k 16) (cond (Nat.beq k 15) (some (.aload_n 0)) (none)) (cond (Nat.beq k 16) (some (.aload_n 0)) (none))) (cond (Nat.blt k 20) (cond (Nat.beq k 17) (some (.getfield 49)) (none)) (cond (Nat.beq k 20) (some (.aload_n 0)) (none)))) (cond (Nat.blt k 25) (cond (Nat.blt k 24) (cond (Nat.beq k 21) (some (.getfield 108)) (none)) (cond (Nat.beq k 24) (some (.iconst 1)) (none))) (cond (Nat.blt k 26) (cond (Nat.beq k 25) (some (.isub)) (none)) (cond (Nat.blt k 27) (cond (Nat.beq k 26) (some (.iaload)) (none)) (cond (Nat.beq k 27) (some (.invokevirtual 111)) (none))))))) (cond (Nat.blt k 47) (cond (Nat.blt k 38) (cond (Nat.blt k 32) (cond (Nat.blt k 31) (cond (Nat.beq k 30) (some (.istore_n 1)) (none)) (cond (Nat.beq k 31) (some (.aload_n 0)) (none))) (cond (Nat.blt k 35) (cond (Nat.beq k 32) (some (.getfield 102)) (none)) (cond (Nat.beq k 35) (some (.ifCond .ne 26)) (none)))) (cond (Nat.blt k 42) (cond (Nat.blt k 39) (cond (Nat.beq k 38) (some (.aload_n 0)) (none)) (cond (Nat.beq k 39) (some (.getfield 105)) (none))) (cond (Nat.blt k 43) (cond (Nat.beq k 42) (some (.aload_n 0)) (none)) (cond (Nat.blt k 46) (cond (Nat.beq k 43) (some (.getfield 46)) (none)) (cond (Nat.beq k 46) (some (.aload_n 0)) (none)))))) (cond (Nat.blt k 53) (cond (Nat.blt k 51) (cond (Nat.blt k 50) (cond (Nat.beq k 47) (some (.getfield 108)) (none)) (cond (Nat.beq k 50) (some (.iconst 1)) (none))) (cond (Nat.blt k 52) (cond (Nat.beq k 51) (some (.isub)) (none)) (cond (Nat.beq k 52) (some (.iaload)) (none)))) (cond (Nat.blt k 57) (cond (Nat.blt k 56) (cond (Nat.beq k 53) (some (.if_icmp .le 8)) (none)) (cond (Nat.beq k 56) (some (.aload_n 0)) (none))) (cond (Nat.blt k 58) (cond (Nat.beq k 57) (some (.iconst 4)) (none)) (cond (Nat.blt k 61) (cond (Nat.beq k 58) (some (.putfield 102)) (none)) (cond (Nat.beq k 61) (some (.return_)) (none)))))))
def fmD_finish : fm_Me := (⟨"FlatModuleModel", "finish", "()V"⟩, prog_9_method_14_code, 2, none, 6, fm_f6, fm_cut 62 fmD_finish_i)
theorem fmD_finish_dc : fm_dc prog_9_method_14_code (fm_cut 62 fmD_finish_i) := fm_dc_of (by decide +kernel)
theorem fmD_finish_o : fm_mok fmD_finish := ⟨⟨fm_f6_o, fmD_finish_dc⟩, fm_tb (List.mem_of_getElem? (i := 801) (by decide +kernel)) rfl, fm_tb (List.mem_of_getElem? (i := 7) (by decide +kernel)) rfl, rfl, by decide +kernel, by decide⟩
def fmD_jump_i (k : Nat) : Option Instr := cond (Nat.blt k 44) (cond (Nat.blt k 21) (cond (Nat.blt k 8) (cond (Nat.blt k 3) (cond (Nat.blt k 1) (cond (Nat.beq k 0) (some (.iload_n 1)) (none)) (cond (Nat.blt k 2) (cond (Nat.beq k 1) (some (.iconst 0)) (none)) (cond (Nat.beq k 2) (some (.aload_n 0)) (none)))) (cond (Nat.blt k 6) (cond (Nat.beq k 3) (some (.getfield 108)) (none)) (cond (Nat.blt k 7) (cond (Nat.beq k 6) (some (.iconst 1)) (none)) (cond (Nat.beq k 7) (some (.isub)) (none))))) (cond (Nat.blt k 15) (cond (Nat.blt k 11) (cond (Nat.beq k 8) (some (.invokestatic 86)) (none)) (cond (Nat.blt k 14) (cond (Nat.beq k 11) (some (.ifCond .ne 9)) (none)) (cond (Nat.beq k 14) (some (.aload_n 0)) (none)))) (cond (Nat.blt k 19) (cond (Nat.blt k 16) (cond (Nat.beq k 15) (some (.iconst 1)) (none)) (cond (Nat.beq k 16) (some (.invokevirtual 115)) (none))) (cond (Nat.blt k 20) (cond (Nat.beq k 19) (some (.return_)) (none)) (cond (Nat.beq k 20) (some (.aload_n 0)) (none)))))) (cond (Nat.blt k 30) (cond (Nat.blt k 26) (cond (Nat.blt k 24) (cond (Nat.beq k 21) (some (.getfield 108)) (none)) (cond (Nat.blt k 25) (cond (Nat.beq k 24) (some (.iconst 1)) (none)) (cond (Nat.beq k 25) (some (.isub)) (none)))) (cond (Nat.blt k 28) (cond (Nat.blt k 27) (cond (Nat.beq k 26) (some (.iload_n 1)) (none)) (cond (Nat.beq k 27) (some (.isub)) (none))) (cond (Nat.blt k 29) (cond (Nat.beq k 28) (some (.istore_n 3)) (none)) (cond (Nat.beq k 29) (some (.aload_n 0)) (none))))) (cond (Nat.blt k 35) (cond (Nat.blt k 33) (cond (Nat.beq k 30) (some (.getfield 52)) (none)) (cond (Nat.blt k 34) (cond (Nat.beq k 33) (some (.iload_n 3)) (none)) (cond (Nat.beq k 34) (some (.iaload)) (none)))) (cond (Nat.blt k 40) (cond (Nat.blt k 37) (cond (Nat.beq k 35) (some (.bipush 22)) (none)) (cond (Nat.beq k 37) (some (.if_icmp .ne 7)) (none))) (cond (Nat.blt k 41) (cond (Nat.beq k 40) (some (.iconst 4)) (none)) (cond (Nat.beq k 41) (some (.goto 9)) (none))))))) (cond (Nat.blt k 69) (cond (Nat.blt k 56) (cond (Nat.blt k 49) (cond (Nat.blt k 45) (cond (Nat.beq k 44) (some (.aload_n 0)) (none)) (cond (Nat.blt k 48) (cond (Nat.beq k 45) (some (.getfield 49)) (none)) (cond (Nat.beq k 48) (some (.iload_n 3)) (none)))) (cond (Nat.blt k 52) (cond (Nat.blt k 50) (cond (Nat.beq k 49) (some (.iaload)) (none)) (cond (Nat.beq k 50) (some (.istore 4)) (none))) (cond (Nat.blt k 53) (cond (Nat.beq k 52) (some (.iload_n 2)) (none)) (cond (Nat.beq k 53) (some (.ifCond .ne 10)) (none))))) (cond (Nat.blt k 61) (cond (Nat.blt k 57) (cond (Nat.beq k 56) (some (.aload_n 0)) (none)) (cond (Nat.blt k 58) (cond (Nat.beq k 57) (some (.iconst 0)) (none)) (cond (Nat.beq k 58) (some (.invokevirtual 111)) (none)))) (cond (Nat.blt k 65) (cond (Nat.blt k 63) (cond (Nat.beq k 61) (some (.istore 5)) (none)) (cond (Nat.beq k 63) (some (.iload 4)) (none))) (cond (Nat.blt k 66) (cond (Nat.beq k 65) (some (.iconst 4)) (none)) (cond (Nat.beq k 66) (some (.if_icmp .eq 21)) (none)))))) (cond (Nat.blt k 82) (cond (Nat.blt k 75) (cond (Nat.blt k 70) (cond (Nat.beq k 69) (some (.aload_n 0)) (none)) (cond (Nat.blt k 72) (cond (Nat.beq k 70) (some (.iload 4)) (none)) (cond (Nat.beq k 72) (some (.invokevirtual 111)) (none)))) (cond (Nat.blt k 78) (cond (Nat.blt k 77) (cond (Nat.beq k 75) (some (.istore 5)) (none)) (cond (Nat.beq k 77) (some (.iload_n 2)) (none))) (cond (Nat.blt k 81) (cond (Nat.beq k 78) (some (.ifCond .ne 9)) (none)) (cond (Nat.beq k 81) (some (.aload_n 0)) (none))))) (cond (Nat.blt k 88) (cond (Nat.blt k 84) (cond (Nat.beq k 82) (some (.iload 4)) (none)) (cond (Nat.blt k 87) (cond (Nat.beq k 84) (some (.invokevirtual 119)) (none)) (cond (Nat.beq k 87) (some (.iload_n 2)) (none)))) (cond (Nat.blt k 92) (cond (Nat.blt k 91) (cond (Nat.beq k 88) (some (.ifCond .eq 7)) (none)) (cond (Nat.beq k 91) (some (.aload_n 0)) (none))) (cond (Nat.blt k 95) (cond (Nat.beq k 92) (some (.invokevirtual 122)) (none)) (cond (Nat.beq k 95) (some (.return_)) (none)))))))
def fmD_jump : fm_Me := (⟨"FlatModuleModel", "jump", "(IZ)V"⟩, prog_9_method_15_code, 6, none, 6, fm_f6, fm_cut 96 fmD_jump_i)
theorem fmD_jump_dc : fm_dc prog_9_method_15_code (fm_cut 96 fmD_jump_i) := fm_dc_of (by decide +kernel)
theorem fmD_jump_o : fm_mok fmD_jump := ⟨⟨fm_f6_o, fmD_jump_dc⟩, fm_tb (List.mem_of_getElem? (i := 805) (by decide +kernel)) rfl, fm_tb (List.mem_of_getElem? (i := 7) (by decide +kernel)) rfl, rfl, by decide +kernel, by decide⟩
def fmD_two_i (k : Nat) : Option Instr := cond (Nat.blt k 8) (cond (Nat.blt k 5) (cond (Nat.blt k 1) (cond (Nat.beq k 0) (some (.aload_n 0)) (none)) (cond (Nat.blt k 2) (cond (Nat.beq k 1) (some (.iload_n 1)) (none)) (cond (Nat.beq k 2) (some (.invokevirtual 111)) (none)))) (cond (Nat.blt k 6) (cond (Nat.beq k 5) (some (.istore_n 3)) (none)) (cond (Nat.blt k 7) (cond (Nat.beq k 6) (some (.aload_n 0)) (none)) (cond (Nat.beq k 7) (some (.iload_n 1)) (none))))) (cond (Nat.blt k 14) (cond (Nat.blt k 11) (cond (Nat.beq k 8) (some (.invokevirtual 111)) (none)) (cond (Nat.blt k 13) (cond (Nat.beq k 11) (some (.istore 4)) (none)) (cond (Nat.beq k 13) (some (.aload_n 0)) (none)))) (cond (Nat.blt k 15) (cond (Nat.beq k 14) (some (.iload_n 2)) (none)) (cond (Nat.blt k 18) (cond (Nat.beq k 15) (some (.invokevirtual 119)) (none)) (cond (Nat.beq k 18) (some (.return_)) (none)))))
def fmD_two : fm_Me := (⟨"FlatModuleModel", "two", "(II)V"⟩, prog_9_method_16_code, 5, none, 6, fm_f6, fm_cut 19 fmD_two_i)
theorem fmD_two_dc : fm_dc prog_9_method_16_code (fm_cut 19 fmD_two_i) := fm_dc_of (by decide +kernel)
theorem fmD_two_o : fm_mok fmD_two := ⟨⟨fm_f6_o, fmD_two_dc⟩, fm_tb (List.mem_of_getElem? (i := 793) (by decide +kernel)) rfl, fm_tb (List.mem_of_getElem? (i := 7) (by decide +kernel)) rfl, rfl, by decide +kernel, by decide⟩
def fmD_checkLocal_i (k : Nat) : Option Instr := cond (Nat.blt k 41) (cond (Nat.blt k 21) (cond (Nat.blt k 8) (cond (Nat.blt k 3) (cond (Nat.blt k 1) (cond (Nat.beq k 0) (some (.iload_n 3)) (none)) (cond (Nat.blt k 2) (cond (Nat.beq k 1) (some (.iconst 0)) (none)) (cond (Nat.beq k 2) (some (.aload_n 0)) (none)))) (cond (Nat.blt k 6) (cond (Nat.beq k 3) (some (.getfield 22)) (none)) (cond (Nat.blt k 7) (cond (Nat.beq k 6) (some (.iload_n 1)) (none)) (cond (Nat.beq k 7) (some (.iaload)) (none))))) (cond (Nat.blt k 13) (cond (Nat.blt k 9) (cond (Nat.beq k 8) (some (.iconst 1)) (none)) (cond (Nat.blt k 10) (cond (Nat.beq k 9) (some (.isub)) (none)) (cond (Nat.beq k 10) (some (.invokestatic 86)) (none)))) (cond (Nat.blt k 17) (cond (Nat.blt k 16) (cond (Nat.beq k 13) (some (.ifCond .ne 11)) (none)) (cond (Nat.beq k 16) (some (.aload_n 0)) (none))) (cond (Nat.blt k 18) (cond (Nat.beq k 17) (some (.iconst 1)) (none)) (cond (Nat.beq k 18) (some (.invokevirtual 115)) (none)))))) (cond (Nat.blt k 31) (cond (Nat.blt k 26) (cond (Nat.blt k 24) (cond (Nat.beq k 21) (some (.goto 64)) (none)) (cond (Nat.blt k 25) (cond (Nat.beq k 24) (some (.iload_n 2)) (none)) (cond (Nat.beq k 25) (some (.iconst 4)) (none)))) (cond (Nat.blt k 29) (cond (Nat.beq k 26) (some (.if_icmp .ne 21)) (none)) (cond (Nat.blt k 30) (cond (Nat.beq k 29) (some (.aload_n 0)) (none)) (cond (Nat.beq k 30) (some (.aload_n 0)) (none))))) (cond (Nat.blt k 37) (cond (Nat.blt k 34) (cond (Nat.beq k 31) (some (.getfield 25)) (none)) (cond (Nat.blt k 35) (cond (Nat.beq k 34) (some (.iload_n 1)) (none)) (cond (Nat.beq k 35) (some (.bipush 6)) (none)))) (cond (Nat.blt k 39) (cond (Nat.blt k 38) (cond (Nat.beq k 37) (some (.imul)) (none)) (cond (Nat.beq k 38) (some (.iload_n 3)) (none))) (cond (Nat.blt k 40) (cond (Nat.beq k 39) (some (.iadd)) (none)) (cond (Nat.beq k 40) (some (.iaload)) (none))))))) (cond (Nat.blt k 64) (cond (Nat.blt k 53) (cond (Nat.blt k 48) (cond (Nat.blt k 44) (cond (Nat.beq k 41) (some (.invokevirtual 119)) (none)) (cond (Nat.blt k 47) (cond (Nat.beq k 44) (some (.goto 41)) (none)) (cond (Nat.beq k 47) (some (.aload_n 0)) (none)))) (cond (Nat.blt k 49) (cond (Nat.beq k 48) (some (.aload_n 0)) (none)) (cond (Nat.blt k 52) (cond (Nat.beq k 49) (some (.getfield 25)) (none)) (cond (Nat.beq k 52) (some (.iload_n 1)) (none))))) (cond (Nat.blt k 57) (cond (Nat.blt k 55) (cond (Nat.beq k 53) (some (.bipush 6)) (none)) (cond (Nat.blt k 56) (cond (Nat.beq k 55) (some (.imul)) (none)) (cond (Nat.beq k 56) (some (.iload_n 3)) (none)))) (cond (Nat.blt k 59) (cond (Nat.blt k 58) (cond (Nat.beq k 57) (some (.iadd)) (none)) (cond (Nat.beq k 58) (some (.iaload)) (none))) (cond (Nat.blt k 62) (cond (Nat.beq k 59) (some (.invokevirtual 111)) (none)) (cond (Nat.beq k 62) (some (.istore 4)) (none)))))) (cond (Nat.blt k 76) (cond (Nat.blt k 70) (cond (Nat.blt k 65) (cond (Nat.beq k 64) (some (.iload_n 2)) (none)) (cond (Nat.blt k 67) (cond (Nat.beq k 65) (some (.bipush 6)) (none)) (cond (Nat.beq k 67) (some (.if_icmp .ne 18)) (none)))) (cond (Nat.blt k 72) (cond (Nat.blt k 71) (cond (Nat.beq k 70) (some (.aload_n 0)) (none)) (cond (Nat.beq k 71) (some (.aload_n 0)) (none))) (cond (Nat.blt k 75) (cond (Nat.beq k 72) (some (.getfield 25)) (none)) (cond (Nat.beq k 75) (some (.iload_n 1)) (none))))) (cond (Nat.blt k 80) (cond (Nat.blt k 78) (cond (Nat.beq k 76) (some (.bipush 6)) (none)) (cond (Nat.blt k 79) (cond (Nat.beq k 78) (some (.imul)) (none)) (cond (Nat.beq k 79) (some (.iload_n 3)) (none)))) (cond (Nat.blt k 82) (cond (Nat.blt k 81) (cond (Nat.beq k 80) (some (.iadd)) (none)) (cond (Nat.beq k 81) (some (.iaload)) (none))) (cond (Nat.blt k 85) (cond (Nat.beq k 82) (some (.invokevirtual 119)) (none)) (cond (Nat.beq k 85) (some (.return_)) (none)))))))
def fmD_checkLocal : fm_Me := (⟨"FlatModuleModel", "checkLocal", "(III)V"⟩, prog_9_method_17_code, 5, none, 6, fm_f6, fm_cut 86 fmD_checkLocal_i)
theorem fmD_checkLocal_dc : fm_dc prog_9_method_17_code (fm_cut 86 fmD_checkLocal_i) := fm_dc_of (by decide +kernel)
theorem fmD_checkLocal_o : fm_mok fmD_checkLocal := ⟨⟨fm_f6_o, fmD_checkLocal_dc⟩, fm_tb (List.mem_of_getElem? (i := 773) (by decide +kernel)) rfl, fm_tb (List.mem_of_getElem? (i := 7) (by decide +kernel)) rfl, rfl, by decide +kernel, by decide⟩
def fmD_checkGlobal_i (k : Nat) : Option Instr := cond (Nat.blt k 18) (cond (Nat.blt k 9) (cond (Nat.blt k 2) (cond (Nat.blt k 1) (cond (Nat.beq k 0) (some (.iload_n 2)) (none)) (cond (Nat.beq k 1) (some (.iconst 0)) (none))) (cond (Nat.blt k 3) (cond (Nat.beq k 2) (some (.iconst 3)) (none)) (cond (Nat.blt k 6) (cond (Nat.beq k 3) (some (.invokestatic 86)) (none)) (cond (Nat.beq k 6) (some (.ifCond .ne 11)) (none))))) (cond (Nat.blt k 11) (cond (Nat.blt k 10) (cond (Nat.beq k 9) (some (.aload_n 0)) (none)) (cond (Nat.beq k 10) (some (.iconst 1)) (none))) (cond (Nat.blt k 14) (cond (Nat.beq k 11) (some (.invokevirtual 115)) (none)) (cond (Nat.blt k 17) (cond (Nat.beq k 14) (some (.goto 23)) (none)) (cond (Nat.beq k 17) (some (.iload_n 1)) (none)))))) (cond (Nat.blt k 28) (cond (Nat.blt k 23) (cond (Nat.blt k 20) (cond (Nat.beq k 18) (some (.bipush 7)) (none)) (cond (Nat.beq k 20) (some (.if_icmp .ne 11)) (none))) (cond (Nat.blt k 24) (cond (Nat.beq k 23) (some (.aload_n 0)) (none)) (cond (Nat.blt k 25) (cond (Nat.beq k 24) (some (.iload_n 2)) (none)) (cond (Nat.beq k 25) (some (.invokevirtual 119)) (none))))) (cond (Nat.blt k 33) (cond (Nat.blt k 31) (cond (Nat.beq k 28) (some (.goto 9)) (none)) (cond (Nat.blt k 32) (cond (Nat.beq k 31) (some (.aload_n 0)) (none)) (cond (Nat.beq k 32) (some (.iload_n 2)) (none)))) (cond (Nat.blt k 36) (cond (Nat.beq k 33) (some (.invokevirtual 111)) (none)) (cond (Nat.blt k 37) (cond (Nat.beq k 36) (some (.istore_n 3)) (none)) (cond (Nat.beq k 37) (some (.return_)) (none))))))
def fmD_checkGlobal : fm_Me := (⟨"FlatModuleModel", "checkGlobal", "(II)V"⟩, prog_9_method_18_code, 4, none, 6, fm_f6, fm_cut 38 fmD_checkGlobal_i)
theorem fmD_checkGlobal_dc : fm_dc prog_9_method_18_code (fm_cut 38 fmD_checkGlobal_i) := fm_dc_of (by decide +kernel)
theorem fmD_checkGlobal_o : fm_mok fmD_checkGlobal := ⟨⟨fm_f6_o, fmD_checkGlobal_dc⟩, fm_tb (List.mem_of_getElem? (i := 785) (by decide +kernel)) rfl, fm_tb (List.mem_of_getElem? (i := 7) (by decide +kernel)) rfl, rfl, by decide +kernel, by decide⟩
def fmD_checkCall_i (k : Nat) : Option Instr := cond (Nat.blt k 33) (cond (Nat.blt k 18) (cond (Nat.blt k 9) (cond (Nat.blt k 2) (cond (Nat.blt k 1) (cond (Nat.beq k 0) (some (.aload_n 0)) (none)) (cond (Nat.beq k 1) (some (.iload_n 1)) (none))) (cond (Nat.blt k 5) (cond (Nat.beq k 2) (some (.invokevirtual 98)) (none)) (cond (Nat.blt k 8) (cond (Nat.beq k 5) (some (.ifCond .ne 9)) (none)) (cond (Nat.beq k 8) (some (.aload_n 0)) (none))))) (cond (Nat.blt k 13) (cond (Nat.blt k 10) (cond (Nat.beq k 9) (some (.iconst 1)) (none)) (cond (Nat.beq k 10) (some (.invokevirtual 115)) (none))) (cond (Nat.blt k 14) (cond (Nat.beq k 13) (some (.return_)) (none)) (cond (Nat.blt k 15) (cond (Nat.beq k 14) (some (.aload_n 0)) (none)) (cond (Nat.beq k 15) (some (.getfield 19)) (none)))))) (cond (Nat.blt k 23) (cond (Nat.blt k 20) (cond (Nat.blt k 19) (cond (Nat.beq k 18) (some (.iload_n 1)) (none)) (cond (Nat.beq k 19) (some (.iaload)) (none))) (cond (Nat.blt k 21) (cond (Nat.beq k 20) (some (.iconst 1)) (none)) (cond (Nat.blt k 22) (cond (Nat.beq k 21) (some (.isub)) (none)) (cond (Nat.beq k 22) (some (.istore_n 2)) (none))))) (cond (Nat.blt k 28) (cond (Nat.blt k 24) (cond (Nat.beq k 23) (some (.iload_n 2)) (none)) (cond (Nat.blt k 27) (cond (Nat.beq k 24) (some (.ifCond .lt 25)) (none)) (cond (Nat.beq k 27) (some (.aload_n 0)) (none)))) (cond (Nat.blt k 29) (cond (Nat.beq k 28) (some (.aload_n 0)) (none)) (cond (Nat.blt k 32) (cond (Nat.beq k 29) (some (.getfield 25)) (none)) (cond (Nat.beq k 32) (some (.iload_n 1)) (none))))))) (cond (Nat.blt k 53) (cond (Nat.blt k 39) (cond (Nat.blt k 36) (cond (Nat.blt k 35) (cond (Nat.beq k 33) (some (.bipush 6)) (none)) (cond (Nat.beq k 35) (some (.imul)) (none))) (cond (Nat.blt k 37) (cond (Nat.beq k 36) (some (.iload_n 2)) (none)) (cond (Nat.blt k 38) (cond (Nat.beq k 37) (some (.iadd)) (none)) (cond (Nat.beq k 38) (some (.iaload)) (none))))) (cond (Nat.blt k 46) (cond (Nat.blt k 42) (cond (Nat.beq k 39) (some (.invokevirtual 111)) (none)) (cond (Nat.blt k 43) (cond (Nat.beq k 42) (some (.istore_n 3)) (none)) (cond (Nat.beq k 43) (some (.iinc 2 (-1))) (none)))) (cond (Nat.blt k 49) (cond (Nat.beq k 46) (some (.goto (-23))) (none)) (cond (Nat.blt k 50) (cond (Nat.beq k 49) (some (.aload_n 0)) (none)) (cond (Nat.beq k 50) (some (.getfield 28)) (none)))))) (cond (Nat.blt k 60) (cond (Nat.blt k 55) (cond (Nat.blt k 54) (cond (Nat.beq k 53) (some (.iload_n 1)) (none)) (cond (Nat.beq k 54) (some (.iaload)) (none))) (cond (Nat.blt k 56) (cond (Nat.beq k 55) (some (.iconst 4)) (none)) (cond (Nat.blt k 59) (cond (Nat.beq k 56) (some (.if_icmp .eq 13)) (none)) (cond (Nat.beq k 59) (some (.aload_n 0)) (none))))) (cond (Nat.blt k 65) (cond (Nat.blt k 61) (cond (Nat.beq k 60) (some (.aload_n 0)) (none)) (cond (Nat.blt k 64) (cond (Nat.beq k 61) (some (.getfield 28)) (none)) (cond (Nat.beq k 64) (some (.iload_n 1)) (none)))) (cond (Nat.blt k 66) (cond (Nat.beq k 65) (some (.iaload)) (none)) (cond (Nat.blt k 69) (cond (Nat.beq k 66) (some (.invokevirtual 119)) (none)) (cond (Nat.beq k 69) (some (.return_)) (none)))))))
def fmD_checkCall : fm_Me := (⟨"FlatModuleModel", "checkCall", "(I)V"⟩, prog_9_method_19_code, 4, none, 6, fm_f6, fm_cut 70 fmD_checkCall_i)
theorem fmD_checkCall_dc : fm_dc prog_9_method_19_code (fm_cut 70 fmD_checkCall_i) := fm_dc_of (by decide +kernel)
theorem fmD_checkCall_o : fm_mok fmD_checkCall := ⟨⟨fm_f6_o, fmD_checkCall_dc⟩, fm_tb (List.mem_of_getElem? (i := 813) (by decide +kernel)) rfl, fm_tb (List.mem_of_getElem? (i := 7) (by decide +kernel)) rfl, rfl, by decide +kernel, by decide⟩
def fmD_choose_i (k : Nat) : Option Instr := cond (Nat.blt k 14) (cond (Nat.blt k 7) (cond (Nat.blt k 2) (cond (Nat.blt k 1) (cond (Nat.beq k 0) (some (.aload_n 0)) (none)) (cond (Nat.beq k 1) (some (.iconst 0)) (none))) (cond (Nat.blt k 5) (cond (Nat.beq k 2) (some (.invokevirtual 111)) (none)) (cond (Nat.blt k 6) (cond (Nat.beq k 5) (some (.istore_n 1)) (none)) (cond (Nat.beq k 6) (some (.aload_n 0)) (none))))) (cond (Nat.blt k 11) (cond (Nat.blt k 8) (cond (Nat.beq k 7) (some (.iconst 5)) (none)) (cond (Nat.beq k 8) (some (.invokevirtual 111)) (none))) (cond (Nat.blt k 12) (cond (Nat.beq k 11) (some (.istore_n 2)) (none)) (cond (Nat.blt k 13) (cond (Nat.beq k 12) (some (.aload_n 0)) (none)) (cond (Nat.beq k 13) (some (.iload_n 2)) (none)))))) (cond (Nat.blt k 21) (cond (Nat.blt k 18) (cond (Nat.blt k 17) (cond (Nat.beq k 14) (some (.invokevirtual 111)) (none)) (cond (Nat.beq k 17) (some (.istore_n 3)) (none))) (cond (Nat.blt k 19) (cond (Nat.beq k 18) (some (.aload_n 0)) (none)) (cond (Nat.blt k 20) (cond (Nat.beq k 19) (some (.iload_n 2)) (none)) (cond (Nat.beq k 20) (some (.iconst 5)) (none))))) (cond (Nat.blt k 28) (cond (Nat.blt k 24) (cond (Nat.beq k 21) (some (.if_icmp .ne 7)) (none)) (cond (Nat.blt k 25) (cond (Nat.beq k 24) (some (.iload_n 3)) (none)) (cond (Nat.beq k 25) (some (.goto 4)) (none)))) (cond (Nat.blt k 29) (cond (Nat.beq k 28) (some (.iload_n 2)) (none)) (cond (Nat.blt k 32) (cond (Nat.beq k 29) (some (.invokevirtual 119)) (none)) (cond (Nat.beq k 32) (some (.return_)) (none))))))
def fmD_choose : fm_Me := (⟨"FlatModuleModel", "choose", "()V"⟩, prog_9_method_20_code, 4, none, 6, fm_f6, fm_cut 33 fmD_choose_i)
theorem fmD_choose_dc : fm_dc prog_9_method_20_code (fm_cut 33 fmD_choose_i) := fm_dc_of (by decide +kernel)
theorem fmD_choose_o : fm_mok fmD_choose := ⟨⟨fm_f6_o, fmD_choose_dc⟩, fm_tb (List.mem_of_getElem? (i := 789) (by decide +kernel)) rfl, fm_tb (List.mem_of_getElem? (i := 7) (by decide +kernel)) rfl, rfl, by decide +kernel, by decide⟩
def fmD_checkFrame_i (k : Nat) : Option Instr := cond (Nat.blt k 93) (cond (Nat.blt k 44) (cond (Nat.blt k 23) (cond (Nat.blt k 9) (cond (Nat.blt k 6) (cond (Nat.blt k 1) (cond (Nat.beq k 0) (some (.iload_n 1)) (none)) (cond (Nat.blt k 3) (cond (Nat.beq k 1) (some (.bipush 24)) (none)) (cond (Nat.beq k 3) (some (.if_icmp .ge 41)) (none)))) (cond (Nat.blt k 7) (cond (Nat.beq k 6) (some (.iload_n 2)) (none)) (cond (Nat.blt k 8) (cond (Nat.beq k 7) (some (.iconst 0)) (none)) (cond (Nat.beq k 8) (some (.iconst 4)) (none))))) (cond (Nat.blt k 16) (cond (Nat.blt k 12) (cond (Nat.beq k 9) (some (.invokestatic 86)) (none)) (cond (Nat.blt k 15) (cond (Nat.beq k 12) (some (.ifCond .ne 11)) (none)) (cond (Nat.beq k 15) (some (.aload_n 0)) (none)))) (cond (Nat.blt k 17) (cond (Nat.beq k 16) (some (.iconst 1)) (none)) (cond (Nat.blt k 20) (cond (Nat.beq k 17) (some (.invokevirtual 115)) (none)) (cond (Nat.beq k 20) (some (.goto 156)) (none)))))) (cond (Nat.blt k 34) (cond (Nat.blt k 29) (cond (Nat.blt k 24) (cond (Nat.beq k 23) (some (.iload_n 1)) (none)) (cond (Nat.blt k 26) (cond (Nat.beq k 24) (some (.bipush 23)) (none)) (cond (Nat.beq k 26) (some (.if_icmp .ne 9)) (none)))) (cond (Nat.blt k 30) (cond (Nat.beq k 29) (some (.aload_n 0)) (none)) (cond (Nat.blt k 31) (cond (Nat.beq k 30) (some (.iconst 0)) (none)) (cond (Nat.beq k 31) (some (.invokevirtual 111)) (none))))) (cond (Nat.blt k 37) (cond (Nat.blt k 35) (cond (Nat.beq k 34) (some (.istore_n 3)) (none)) (cond (Nat.blt k 36) (cond (Nat.beq k 35) (some (.aload_n 0)) (none)) (cond (Nat.beq k 36) (some (.iload_n 1)) (none)))) (cond (Nat.blt k 38) (cond (Nat.beq k 37) (some (.iload_n 2)) (none)) (cond (Nat.blt k 41) (cond (Nat.beq k 38) (some (.invokevirtual 125)) (none)) (cond (Nat.beq k 41) (some (.goto 135)) (none))))))) (cond (Nat.blt k 66) (cond (Nat.blt k 55) (cond (Nat.blt k 50) (cond (Nat.blt k 45) (cond (Nat.beq k 44) (some (.iload_n 1)) (none)) (cond (Nat.blt k 47) (cond (Nat.beq k 45) (some (.bipush 24)) (none)) (cond (Nat.beq k 47) (some (.if_icmp .ne 19)) (none)))) (cond (Nat.blt k 51) (cond (Nat.beq k 50) (some (.aload_n 0)) (none)) (cond (Nat.blt k 54) (cond (Nat.beq k 51) (some (.getfield 52)) (none)) (cond (Nat.beq k 54) (some (.aload_n 0)) (none))))) (cond (Nat.blt k 60) (cond (Nat.blt k 58) (cond (Nat.beq k 55) (some (.getfield 108)) (none)) (cond (Nat.blt k 59) (cond (Nat.beq k 58) (some (.iconst 1)) (none)) (cond (Nat.beq k 59) (some (.isub)) (none)))) (cond (Nat.blt k 61) (cond (Nat.beq k 60) (some (.iaload)) (none)) (cond (Nat.blt k 63) (cond (Nat.beq k 61) (some (.bipush 23)) (none)) (cond (Nat.beq k 63) (some (.if_icmp .ne 11)) (none)))))) (cond (Nat.blt k 76) (cond (Nat.blt k 71) (cond (Nat.blt k 67) (cond (Nat.beq k 66) (some (.aload_n 0)) (none)) (cond (Nat.blt k 70) (cond (Nat.beq k 67) (some (.getfield 108)) (none)) (cond (Nat.beq k 70) (some (.iconst 1)) (none)))) (cond (Nat.blt k 74) (cond (Nat.beq k 71) (some (.if_icmp .ne 11)) (none)) (cond (Nat.blt k 75) (cond (Nat.beq k 74) (some (.aload_n 0)) (none)) (cond (Nat.beq k 75) (some (.iconst 5)) (none))))) (cond (Nat.blt k 83) (cond (Nat.blt k 79) (cond (Nat.beq k 76) (some (.invokevirtual 115)) (none)) (cond (Nat.blt k 82) (cond (Nat.beq k 79) (some (.goto 97)) (none)) (cond (Nat.beq k 82) (some (.aload_n 0)) (none)))) (cond (Nat.blt k 87) (cond (Nat.blt k 86) (cond (Nat.beq k 83) (some (.invokevirtual 129)) (none)) (cond (Nat.beq k 86) (some (.aload_n 0)) (none))) (cond (Nat.blt k 90) (cond (Nat.beq k 87) (some (.getfield 102)) (none)) (cond (Nat.beq k 90) (some (.ifCond .le 4)) (none)))))))) (cond (Nat.blt k 133) (cond (Nat.blt k 112) (cond (Nat.blt k 103) (cond (Nat.blt k 98) (cond (Nat.blt k 94) (cond (Nat.beq k 93) (some (.return_)) (none)) (cond (Nat.blt k 95) (cond (Nat.beq k 94) (some (.aload_n 0)) (none)) (cond (Nat.beq k 95) (some (.getfield 49)) (none)))) (cond (Nat.blt k 99) (cond (Nat.beq k 98) (some (.aload_n 0)) (none)) (cond (Nat.blt k 102) (cond (Nat.beq k 99) (some (.getfield 108)) (none)) (cond (Nat.beq k 102) (some (.iconst 1)) (none))))) (cond (Nat.blt k 106) (cond (Nat.blt k 104) (cond (Nat.beq k 103) (some (.isub)) (none)) (cond (Nat.blt k 105) (cond (Nat.beq k 104) (some (.iaload)) (none)) (cond (Nat.beq k 105) (some (.istore_n 3)) (none)))) (cond (Nat.blt k 107) (cond (Nat.beq k 106) (some (.iload_n 1)) (none)) (cond (Nat.blt k 109) (cond (Nat.beq k 107) (some (.bipush 25)) (none)) (cond (Nat.beq k 109) (some (.if_icmp .ne 31)) (none)))))) (cond (Nat.blt k 122) (cond (Nat.blt k 117) (cond (Nat.blt k 113) (cond (Nat.beq k 112) (some (.aload_n 0)) (none)) (cond (Nat.blt k 116) (cond (Nat.beq k 113) (some (.getfield 52)) (none)) (cond (Nat.beq k 116) (some (.aload_n 0)) (none)))) (cond (Nat.blt k 120) (cond (Nat.beq k 117) (some (.getfield 108)) (none)) (cond (Nat.blt k 121) (cond (Nat.beq k 120) (some (.iconst 1)) (none)) (cond (Nat.beq k 121) (some (.isub)) (none))))) (cond (Nat.blt k 128) (cond (Nat.blt k 123) (cond (Nat.beq k 122) (some (.iaload)) (none)) (cond (Nat.blt k 125) (cond (Nat.beq k 123) (some (.bipush 23)) (none)) (cond (Nat.beq k 125) (some (.if_icmp .ne 15)) (none)))) (cond (Nat.blt k 129) (cond (Nat.beq k 128) (some (.iload_n 3)) (none)) (cond (Nat.blt k 130) (cond (Nat.beq k 129) (some (.iconst 4)) (none)) (cond (Nat.beq k 130) (some (.if_icmp .eq 10)) (none))))))) (cond (Nat.blt k 153) (cond (Nat.blt k 142) (cond (Nat.blt k 139) (cond (Nat.blt k 134) (cond (Nat.beq k 133) (some (.aload_n 0)) (none)) (cond (Nat.blt k 136) (cond (Nat.beq k 134) (some (.bipush 6)) (none)) (cond (Nat.beq k 136) (some (.invokevirtual 115)) (none)))) (cond (Nat.blt k 140) (cond (Nat.beq k 139) (some (.return_)) (none)) (cond (Nat.blt k 141) (cond (Nat.beq k 140) (some (.aload_n 0)) (none)) (cond (Nat.beq k 141) (some (.dup)) (none))))) (cond (Nat.blt k 147) (cond (Nat.blt k 145) (cond (Nat.beq k 142) (some (.getfield 108)) (none)) (cond (Nat.blt k 146) (cond (Nat.beq k 145) (some (.iconst 1)) (none)) (cond (Nat.beq k 146) (some (.isub)) (none)))) (cond (Nat.blt k 150) (cond (Nat.beq k 147) (some (.putfield 108)) (none)) (cond (Nat.blt k 151) (cond (Nat.beq k 150) (some (.iload_n 1)) (none)) (cond (Nat.beq k 151) (some (.bipush 24)) (none)))))) (cond (Nat.blt k 166) (cond (Nat.blt k 159) (cond (Nat.blt k 156) (cond (Nat.beq k 153) (some (.if_icmp .ne 13)) (none)) (cond (Nat.blt k 157) (cond (Nat.beq k 156) (some (.aload_n 0)) (none)) (cond (Nat.beq k 157) (some (.bipush 24)) (none)))) (cond (Nat.blt k 160) (cond (Nat.beq k 159) (some (.iload_n 3)) (none)) (cond (Nat.blt k 163) (cond (Nat.beq k 160) (some (.invokevirtual 125)) (none)) (cond (Nat.beq k 163) (some (.goto 13)) (none))))) (cond (Nat.blt k 171) (cond (Nat.blt k 167) (cond (Nat.beq k 166) (some (.iload_n 3)) (none)) (cond (Nat.blt k 168) (cond (Nat.beq k 167) (some (.iconst 4)) (none)) (cond (Nat.beq k 168) (some (.if_icmp .eq 8)) (none)))) (cond (Nat.blt k 173) (cond (Nat.blt k 172) (cond (Nat.beq k 171) (some (.aload_n 0)) (none)) (cond (Nat.beq k 172) (some (.iload_n 3)) (none))) (cond (Nat.blt k 176) (cond (Nat.beq k 173) (some (.invokevirtual 119)) (none)) (cond (Nat.beq k 176) (some (.return_)) (none))))))))
def fmD_checkFrame : fm_Me := (⟨"FlatModuleModel", "checkFrame", "(II)V"⟩, prog_9_method_21_code, 4, none, 6, fm_f6, fm_cut 177 fmD_checkFrame_i)
theorem fmD_checkFrame_dc : fm_dc prog_9_method_21_code (fm_cut 177 fmD_checkFrame_i) := fm_dc_of (by decide +kernel)
theorem fmD_checkFrame_o : fm_mok fmD_checkFrame := ⟨⟨fm_f6_o, fmD_checkFrame_dc⟩, fm_tb (List.mem_of_getElem? (i := 797) (by decide +kernel)) rfl, fm_tb (List.mem_of_getElem? (i := 7) (by decide +kernel)) rfl, rfl, by decide +kernel, by decide⟩
def fmD_checkOne_i (k : Nat) : Option Instr := cond (Nat.blt k 136) (cond (Nat.blt k 66) (cond (Nat.blt k 30) (cond (Nat.blt k 14) (cond (Nat.blt k 6) (cond (Nat.blt k 2) (cond (Nat.blt k 1) (cond (Nat.beq k 0) (some (.iload_n 2)) (none)) (cond (Nat.beq k 1) (some (.iconst 4)) (none))) (cond (Nat.blt k 5) (cond (Nat.beq k 2) (some (.if_icmp .ge 11)) (none)) (cond (Nat.beq k 5) (some (.aload_n 0)) (none)))) (cond (Nat.blt k 10) (cond (Nat.blt k 7) (cond (Nat.beq k 6) (some (.iload_n 2)) (none)) (cond (Nat.beq k 7) (some (.invokevirtual 119)) (none))) (cond (Nat.blt k 13) (cond (Nat.beq k 10) (some (.goto 256)) (none)) (cond (Nat.beq k 13) (some (.iload_n 2)) (none))))) (cond (Nat.blt k 21) (cond (Nat.blt k 19) (cond (Nat.blt k 16) (cond (Nat.beq k 14) (some (.bipush 7)) (none)) (cond (Nat.beq k 16) (some (.if_icmp .ge 13)) (none))) (cond (Nat.blt k 20) (cond (Nat.beq k 19) (some (.aload_n 0)) (none)) (cond (Nat.beq k 20) (some (.iload_n 1)) (none)))) (cond (Nat.blt k 23) (cond (Nat.blt k 22) (cond (Nat.beq k 21) (some (.iload_n 2)) (none)) (cond (Nat.beq k 22) (some (.iload_n 3)) (none))) (cond (Nat.blt k 26) (cond (Nat.beq k 23) (some (.invokevirtual 132)) (none)) (cond (Nat.blt k 29) (cond (Nat.beq k 26) (some (.goto 240)) (none)) (cond (Nat.beq k 29) (some (.iload_n 2)) (none))))))) (cond (Nat.blt k 47) (cond (Nat.blt k 37) (cond (Nat.blt k 35) (cond (Nat.blt k 32) (cond (Nat.beq k 30) (some (.bipush 9)) (none)) (cond (Nat.beq k 32) (some (.if_icmp .ge 12)) (none))) (cond (Nat.blt k 36) (cond (Nat.beq k 35) (some (.aload_n 0)) (none)) (cond (Nat.beq k 36) (some (.iload_n 2)) (none)))) (cond (Nat.blt k 41) (cond (Nat.blt k 38) (cond (Nat.beq k 37) (some (.iload_n 3)) (none)) (cond (Nat.beq k 38) (some (.invokevirtual 136)) (none))) (cond (Nat.blt k 44) (cond (Nat.beq k 41) (some (.goto 225)) (none)) (cond (Nat.blt k 45) (cond (Nat.beq k 44) (some (.iload_n 2)) (none)) (cond (Nat.beq k 45) (some (.bipush 9)) (none)))))) (cond (Nat.blt k 55) (cond (Nat.blt k 51) (cond (Nat.blt k 50) (cond (Nat.beq k 47) (some (.if_icmp .ne 13)) (none)) (cond (Nat.beq k 50) (some (.aload_n 0)) (none))) (cond (Nat.blt k 52) (cond (Nat.beq k 51) (some (.iconst 5)) (none)) (cond (Nat.beq k 52) (some (.invokevirtual 111)) (none)))) (cond (Nat.blt k 60) (cond (Nat.blt k 57) (cond (Nat.beq k 55) (some (.istore 4)) (none)) (cond (Nat.beq k 57) (some (.goto 209)) (none))) (cond (Nat.blt k 61) (cond (Nat.beq k 60) (some (.iload_n 2)) (none)) (cond (Nat.blt k 63) (cond (Nat.beq k 61) (some (.bipush 10)) (none)) (cond (Nat.beq k 63) (some (.if_icmp .ne 10)) (none)))))))) (cond (Nat.blt k 100) (cond (Nat.blt k 81) (cond (Nat.blt k 74) (cond (Nat.blt k 70) (cond (Nat.blt k 67) (cond (Nat.beq k 66) (some (.aload_n 0)) (none)) (cond (Nat.beq k 67) (some (.invokevirtual 139)) (none))) (cond (Nat.blt k 73) (cond (Nat.beq k 70) (some (.goto 196)) (none)) (cond (Nat.beq k 73) (some (.iload_n 2)) (none)))) (cond (Nat.blt k 79) (cond (Nat.blt k 76) (cond (Nat.beq k 74) (some (.bipush 20)) (none)) (cond (Nat.beq k 76) (some (.if_icmp .ge 54)) (none))) (cond (Nat.blt k 80) (cond (Nat.beq k 79) (some (.iload_n 3)) (none)) (cond (Nat.beq k 80) (some (.iconst 0)) (none))))) (cond (Nat.blt k 89) (cond (Nat.blt k 84) (cond (Nat.blt k 82) (cond (Nat.beq k 81) (some (.iload_n 2)) (none)) (cond (Nat.beq k 82) (some (.bipush 15)) (none))) (cond (Nat.blt k 86) (cond (Nat.beq k 84) (some (.bipush 17)) (none)) (cond (Nat.beq k 86) (some (.invokestatic 86)) (none)))) (cond (Nat.blt k 93) (cond (Nat.blt k 92) (cond (Nat.beq k 89) (some (.ifCond .eq 7)) (none)) (cond (Nat.beq k 92) (some (.iconst 1)) (none))) (cond (Nat.blt k 96) (cond (Nat.beq k 93) (some (.goto 4)) (none)) (cond (Nat.blt k 97) (cond (Nat.beq k 96) (some (.iconst 3)) (none)) (cond (Nat.beq k 97) (some (.invokestatic 86)) (none))))))) (cond (Nat.blt k 116) (cond (Nat.blt k 108) (cond (Nat.blt k 104) (cond (Nat.blt k 103) (cond (Nat.beq k 100) (some (.ifCond .ne 11)) (none)) (cond (Nat.beq k 103) (some (.aload_n 0)) (none))) (cond (Nat.blt k 105) (cond (Nat.beq k 104) (some (.iconst 1)) (none)) (cond (Nat.beq k 105) (some (.invokevirtual 115)) (none)))) (cond (Nat.blt k 112) (cond (Nat.blt k 111) (cond (Nat.beq k 108) (some (.goto 158)) (none)) (cond (Nat.beq k 111) (some (.aload_n 0)) (none))) (cond (Nat.blt k 113) (cond (Nat.beq k 112) (some (.iload_n 3)) (none)) (cond (Nat.blt k 114) (cond (Nat.beq k 113) (some (.iload_n 2)) (none)) (cond (Nat.beq k 114) (some (.bipush 17)) (none)))))) (cond (Nat.blt k 124) (cond (Nat.blt k 120) (cond (Nat.blt k 119) (cond (Nat.beq k 116) (some (.if_icmp .le 7)) (none)) (cond (Nat.beq k 119) (some (.iconst 0)) (none))) (cond (Nat.blt k 123) (cond (Nat.beq k 120) (some (.goto 4)) (none)) (cond (Nat.beq k 123) (some (.iload_n 3)) (none)))) (cond (Nat.blt k 130) (cond (Nat.blt k 127) (cond (Nat.beq k 124) (some (.invokevirtual 142)) (none)) (cond (Nat.beq k 127) (some (.goto 139)) (none))) (cond (Nat.blt k 131) (cond (Nat.beq k 130) (some (.iload_n 2)) (none)) (cond (Nat.blt k 133) (cond (Nat.beq k 131) (some (.bipush 20)) (none)) (cond (Nat.beq k 133) (some (.if_icmp .ne 40)) (none))))))))) (cond (Nat.blt k 197) (cond (Nat.blt k 165) (cond (Nat.blt k 151) (cond (Nat.blt k 143) (cond (Nat.blt k 138) (cond (Nat.blt k 137) (cond (Nat.beq k 136) (some (.iload_n 3)) (none)) (cond (Nat.beq k 137) (some (.iconst 0)) (none))) (cond (Nat.blt k 140) (cond (Nat.beq k 138) (some (.bipush 15)) (none)) (cond (Nat.beq k 140) (some (.invokestatic 86)) (none)))) (cond (Nat.blt k 147) (cond (Nat.blt k 146) (cond (Nat.beq k 143) (some (.ifCond .ne 11)) (none)) (cond (Nat.beq k 146) (some (.aload_n 0)) (none))) (cond (Nat.blt k 148) (cond (Nat.beq k 147) (some (.iconst 1)) (none)) (cond (Nat.beq k 148) (some (.invokevirtual 115)) (none))))) (cond (Nat.blt k 157) (cond (Nat.blt k 155) (cond (Nat.blt k 154) (cond (Nat.beq k 151) (some (.goto 115)) (none)) (cond (Nat.beq k 154) (some (.aload_n 0)) (none))) (cond (Nat.blt k 156) (cond (Nat.beq k 155) (some (.iload_n 3)) (none)) (cond (Nat.beq k 156) (some (.iconst 4)) (none)))) (cond (Nat.blt k 161) (cond (Nat.blt k 158) (cond (Nat.beq k 157) (some (.idiv)) (none)) (cond (Nat.beq k 158) (some (.invokevirtual 111)) (none))) (cond (Nat.blt k 163) (cond (Nat.beq k 161) (some (.istore 4)) (none)) (cond (Nat.blt k 164) (cond (Nat.beq k 163) (some (.aload_n 0)) (none)) (cond (Nat.beq k 164) (some (.iload_n 3)) (none))))))) (cond (Nat.blt k 181) (cond (Nat.blt k 173) (cond (Nat.blt k 167) (cond (Nat.blt k 166) (cond (Nat.beq k 165) (some (.iconst 4)) (none)) (cond (Nat.beq k 166) (some (.irem)) (none))) (cond (Nat.blt k 170) (cond (Nat.beq k 167) (some (.invokevirtual 119)) (none)) (cond (Nat.beq k 170) (some (.goto 96)) (none)))) (cond (Nat.blt k 176) (cond (Nat.blt k 174) (cond (Nat.beq k 173) (some (.iload_n 2)) (none)) (cond (Nat.beq k 174) (some (.bipush 26)) (none))) (cond (Nat.blt k 179) (cond (Nat.beq k 176) (some (.if_icmp .ge 12)) (none)) (cond (Nat.blt k 180) (cond (Nat.beq k 179) (some (.aload_n 0)) (none)) (cond (Nat.beq k 180) (some (.iload_n 2)) (none)))))) (cond (Nat.blt k 189) (cond (Nat.blt k 185) (cond (Nat.blt k 182) (cond (Nat.beq k 181) (some (.iload_n 3)) (none)) (cond (Nat.beq k 182) (some (.invokevirtual 145)) (none))) (cond (Nat.blt k 188) (cond (Nat.beq k 185) (some (.goto 81)) (none)) (cond (Nat.beq k 188) (some (.iload_n 2)) (none)))) (cond (Nat.blt k 194) (cond (Nat.blt k 191) (cond (Nat.beq k 189) (some (.bipush 28)) (none)) (cond (Nat.beq k 191) (some (.if_icmp .ge 22)) (none))) (cond (Nat.blt k 195) (cond (Nat.beq k 194) (some (.aload_n 0)) (none)) (cond (Nat.blt k 196) (cond (Nat.beq k 195) (some (.iload_n 3)) (none)) (cond (Nat.beq k 196) (some (.iload_n 2)) (none)))))))) (cond (Nat.blt k 231) (cond (Nat.blt k 216) (cond (Nat.blt k 206) (cond (Nat.blt k 202) (cond (Nat.blt k 199) (cond (Nat.beq k 197) (some (.bipush 26)) (none)) (cond (Nat.beq k 199) (some (.if_icmp .ne 7)) (none))) (cond (Nat.blt k 203) (cond (Nat.beq k 202) (some (.iconst 1)) (none)) (cond (Nat.beq k 203) (some (.goto 4)) (none)))) (cond (Nat.blt k 210) (cond (Nat.blt k 207) (cond (Nat.beq k 206) (some (.iconst 0)) (none)) (cond (Nat.beq k 207) (some (.invokevirtual 148)) (none))) (cond (Nat.blt k 213) (cond (Nat.beq k 210) (some (.goto 56)) (none)) (cond (Nat.blt k 214) (cond (Nat.beq k 213) (some (.iload_n 2)) (none)) (cond (Nat.beq k 214) (some (.bipush 28)) (none)))))) (cond (Nat.blt k 224) (cond (Nat.blt k 220) (cond (Nat.blt k 219) (cond (Nat.beq k 216) (some (.if_icmp .ne 32)) (none)) (cond (Nat.beq k 219) (some (.aload_n 0)) (none))) (cond (Nat.blt k 223) (cond (Nat.beq k 220) (some (.getfield 28)) (none)) (cond (Nat.beq k 223) (some (.iload_n 1)) (none)))) (cond (Nat.blt k 226) (cond (Nat.blt k 225) (cond (Nat.beq k 224) (some (.iaload)) (none)) (cond (Nat.beq k 225) (some (.iconst 4)) (none))) (cond (Nat.blt k 229) (cond (Nat.beq k 226) (some (.if_icmp .eq 15)) (none)) (cond (Nat.blt k 230) (cond (Nat.beq k 229) (some (.aload_n 0)) (none)) (cond (Nat.beq k 230) (some (.aload_n 0)) (none))))))) (cond (Nat.blt k 249) (cond (Nat.blt k 239) (cond (Nat.blt k 235) (cond (Nat.blt k 234) (cond (Nat.beq k 231) (some (.getfield 28)) (none)) (cond (Nat.beq k 234) (some (.iload_n 1)) (none))) (cond (Nat.blt k 236) (cond (Nat.beq k 235) (some (.iaload)) (none)) (cond (Nat.beq k 236) (some (.invokevirtual 111)) (none)))) (cond (Nat.blt k 242) (cond (Nat.blt k 241) (cond (Nat.beq k 239) (some (.istore 4)) (none)) (cond (Nat.beq k 241) (some (.aload_n 0)) (none))) (cond (Nat.blt k 245) (cond (Nat.beq k 242) (some (.invokevirtual 122)) (none)) (cond (Nat.blt k 248) (cond (Nat.beq k 245) (some (.goto 21)) (none)) (cond (Nat.beq k 248) (some (.iload_n 2)) (none)))))) (cond (Nat.blt k 256) (cond (Nat.blt k 254) (cond (Nat.blt k 251) (cond (Nat.beq k 249) (some (.bipush 29)) (none)) (cond (Nat.beq k 251) (some (.if_icmp .ne 11)) (none))) (cond (Nat.blt k 255) (cond (Nat.beq k 254) (some (.aload_n 0)) (none)) (cond (Nat.beq k 255) (some (.iload_n 3)) (none)))) (cond (Nat.blt k 262) (cond (Nat.blt k 259) (cond (Nat.beq k 256) (some (.invokevirtual 152)) (none)) (cond (Nat.beq k 259) (some (.goto 7)) (none))) (cond (Nat.blt k 263) (cond (Nat.beq k 262) (some (.aload_n 0)) (none)) (cond (Nat.blt k 266) (cond (Nat.beq k 263) (some (.invokevirtual 122)) (none)) (cond (Nat.beq k 266) (some (.return_)) (none)))))))))
def fmD_checkOne : fm_Me := (⟨"FlatModuleModel", "checkOne", "(III)V"⟩, prog_9_method_22_code, 5, none, 6, fm_f6, fm_cut 267 fmD_checkOne_i)
theorem fmD_checkOne_dc : fm_dc prog_9_method_22_code (fm_cut 267 fmD_checkOne_i) := fm_dc_of (by decide +kernel)
theorem fmD_checkOne_o : fm_mok fmD_checkOne := ⟨⟨fm_f6_o, fmD_checkOne_dc⟩, fm_tb (List.mem_of_getElem? (i := 765) (by decide +kernel)) rfl, fm_tb (List.mem_of_getElem? (i := 7) (by decide +kernel)) rfl, rfl, by decide +kernel, by decide⟩
def fmD_checkFunction_i (k : Nat) : Option Instr := cond (Nat.blt k 49) (cond (Nat.blt k 26) (cond (Nat.blt k 12) (cond (Nat.blt k 6) (cond (Nat.blt k 2) (cond (Nat.blt k 1) (cond (Nat.beq k 0) (some (.aload_n 0)) (none)) (cond (Nat.beq k 1) (some (.iconst 0)) (none))) (cond (Nat.blt k 5) (cond (Nat.beq k 2) (some (.putfield 105)) (none)) (cond (Nat.beq k 5) (some (.aload_n 0)) (none)))) (cond (Nat.blt k 10) (cond (Nat.blt k 7) (cond (Nat.beq k 6) (some (.iconst 0)) (none)) (cond (Nat.beq k 7) (some (.putfield 108)) (none))) (cond (Nat.blt k 11) (cond (Nat.beq k 10) (some (.aload_n 0)) (none)) (cond (Nat.beq k 11) (some (.iconst 0)) (none))))) (cond (Nat.blt k 18) (cond (Nat.blt k 16) (cond (Nat.blt k 15) (cond (Nat.beq k 12) (some (.putfield 102)) (none)) (cond (Nat.beq k 15) (some (.aload_n 0)) (none))) (cond (Nat.blt k 17) (cond (Nat.beq k 16) (some (.iconst 0)) (none)) (cond (Nat.beq k 17) (some (.aload_n 0)) (none)))) (cond (Nat.blt k 22) (cond (Nat.blt k 21) (cond (Nat.beq k 18) (some (.getfield 28)) (none)) (cond (Nat.beq k 21) (some (.iload_n 1)) (none))) (cond (Nat.blt k 23) (cond (Nat.beq k 22) (some (.iaload)) (none)) (cond (Nat.beq k 23) (some (.invokevirtual 125)) (none)))))) (cond (Nat.blt k 38) (cond (Nat.blt k 30) (cond (Nat.blt k 28) (cond (Nat.blt k 27) (cond (Nat.beq k 26) (some (.iconst 0)) (none)) (cond (Nat.beq k 27) (some (.istore_n 2)) (none))) (cond (Nat.blt k 29) (cond (Nat.beq k 28) (some (.iload_n 2)) (none)) (cond (Nat.beq k 29) (some (.aload_n 0)) (none)))) (cond (Nat.blt k 34) (cond (Nat.blt k 33) (cond (Nat.beq k 30) (some (.getfield 16)) (none)) (cond (Nat.beq k 33) (some (.iload_n 1)) (none))) (cond (Nat.blt k 35) (cond (Nat.beq k 34) (some (.iaload)) (none)) (cond (Nat.beq k 35) (some (.if_icmp .ge 45)) (none))))) (cond (Nat.blt k 44) (cond (Nat.blt k 40) (cond (Nat.blt k 39) (cond (Nat.beq k 38) (some (.aload_n 0)) (none)) (cond (Nat.beq k 39) (some (.iload_n 1)) (none))) (cond (Nat.blt k 41) (cond (Nat.beq k 40) (some (.aload_n 0)) (none)) (cond (Nat.beq k 41) (some (.getfield 7)) (none)))) (cond (Nat.blt k 47) (cond (Nat.blt k 45) (cond (Nat.beq k 44) (some (.iload_n 1)) (none)) (cond (Nat.beq k 45) (some (.bipush 40)) (none))) (cond (Nat.blt k 48) (cond (Nat.beq k 47) (some (.imul)) (none)) (cond (Nat.beq k 48) (some (.iload_n 2)) (none))))))) (cond (Nat.blt k 74) (cond (Nat.blt k 60) (cond (Nat.blt k 55) (cond (Nat.blt k 51) (cond (Nat.blt k 50) (cond (Nat.beq k 49) (some (.iadd)) (none)) (cond (Nat.beq k 50) (some (.iaload)) (none))) (cond (Nat.blt k 52) (cond (Nat.beq k 51) (some (.aload_n 0)) (none)) (cond (Nat.beq k 52) (some (.getfield 13)) (none)))) (cond (Nat.blt k 58) (cond (Nat.blt k 56) (cond (Nat.beq k 55) (some (.iload_n 1)) (none)) (cond (Nat.beq k 56) (some (.bipush 40)) (none))) (cond (Nat.blt k 59) (cond (Nat.beq k 58) (some (.imul)) (none)) (cond (Nat.beq k 59) (some (.iload_n 2)) (none))))) (cond (Nat.blt k 66) (cond (Nat.blt k 62) (cond (Nat.blt k 61) (cond (Nat.beq k 60) (some (.iadd)) (none)) (cond (Nat.beq k 61) (some (.iaload)) (none))) (cond (Nat.blt k 65) (cond (Nat.beq k 62) (some (.invokevirtual 155)) (none)) (cond (Nat.beq k 65) (some (.aload_n 0)) (none)))) (cond (Nat.blt k 72) (cond (Nat.blt k 69) (cond (Nat.beq k 66) (some (.getfield 102)) (none)) (cond (Nat.beq k 69) (some (.ifCond .le 5)) (none))) (cond (Nat.blt k 73) (cond (Nat.beq k 72) (some (.iload_n 2)) (none)) (cond (Nat.beq k 73) (some (.ireturn)) (none)))))) (cond (Nat.blt k 90) (cond (Nat.blt k 84) (cond (Nat.blt k 80) (cond (Nat.blt k 77) (cond (Nat.beq k 74) (some (.iinc 2 1)) (none)) (cond (Nat.beq k 77) (some (.goto (-49))) (none))) (cond (Nat.blt k 81) (cond (Nat.beq k 80) (some (.aload_n 0)) (none)) (cond (Nat.beq k 81) (some (.getfield 108)) (none)))) (cond (Nat.blt k 88) (cond (Nat.blt k 85) (cond (Nat.beq k 84) (some (.iconst 1)) (none)) (cond (Nat.beq k 85) (some (.if_icmp .le 11)) (none))) (cond (Nat.blt k 89) (cond (Nat.beq k 88) (some (.aload_n 0)) (none)) (cond (Nat.beq k 89) (some (.iconst 5)) (none))))) (cond (Nat.blt k 100) (cond (Nat.blt k 96) (cond (Nat.blt k 93) (cond (Nat.beq k 90) (some (.putfield 102)) (none)) (cond (Nat.beq k 93) (some (.goto 7)) (none))) (cond (Nat.blt k 97) (cond (Nat.beq k 96) (some (.aload_n 0)) (none)) (cond (Nat.beq k 97) (some (.invokevirtual 129)) (none)))) (cond (Nat.blt k 104) (cond (Nat.blt k 101) (cond (Nat.beq k 100) (some (.aload_n 0)) (none)) (cond (Nat.beq k 101) (some (.getfield 16)) (none))) (cond (Nat.blt k 105) (cond (Nat.beq k 104) (some (.iload_n 1)) (none)) (cond (Nat.blt k 106) (cond (Nat.beq k 105) (some (.iaload)) (none)) (cond (Nat.beq k 106) (some (.ireturn)) (none))))))))
def fmD_checkFunction : fm_Me := (⟨"FlatModuleModel", "checkFunction", "(I)I"⟩, prog_9_method_23_code, 3, some .int, 6, fm_f6, fm_cut 107 fmD_checkFunction_i)
theorem fmD_checkFunction_dc : fm_dc prog_9_method_23_code (fm_cut 107 fmD_checkFunction_i) := fm_dc_of (by decide +kernel)
theorem fmD_checkFunction_o : fm_mok fmD_checkFunction := ⟨⟨fm_f6_o, fmD_checkFunction_dc⟩, fm_tb (List.mem_of_getElem? (i := 757) (by decide +kernel)) rfl, fm_tb (List.mem_of_getElem? (i := 7) (by decide +kernel)) rfl, rfl, by decide +kernel, by decide⟩
end
section
/-! METHODS AS DATA, by program (wip/tools/gen_methods.py) -/

def fmD_check_i (k : Nat) : Option Instr := cond (Nat.blt k 37) (cond (Nat.blt k 16) (cond (Nat.blt k 7) (cond (Nat.blt k 2) (cond (Nat.blt k 1) (cond (Nat.beq k 0) (some (.aload_n 0)) (none)) (cond (Nat.beq k 1) (some (.iconst 0)) (none))) (cond (Nat.blt k 5) (cond (Nat.beq k 2) (some (.putfield 82)) (none)) (cond (Nat.blt k 6) (cond (Nat.beq k 5) (some (.iconst 0)) (none)) (cond (Nat.beq k 6) (some (.istore_n 1)) (none))))) (cond (Nat.blt k 9) (cond (Nat.blt k 8) (cond (Nat.beq k 7) (some (.iload_n 1)) (none)) (cond (Nat.beq k 8) (some (.iconst 4)) (none))) (cond (Nat.blt k 12) (cond (Nat.beq k 9) (some (.if_icmp .ge 58)) (none)) (cond (Nat.blt k 13) (cond (Nat.beq k 12) (some (.aload_n 0)) (none)) (cond (Nat.beq k 13) (some (.getfield 31)) (none)))))) (cond (Nat.blt k 25) (cond (Nat.blt k 18) (cond (Nat.blt k 17) (cond (Nat.beq k 16) (some (.iload_n 1)) (none)) (cond (Nat.beq k 17) (some (.baload)) (none))) (cond (Nat.blt k 21) (cond (Nat.beq k 18) (some (.ifCond .ne 6)) (none)) (cond (Nat.blt k 24) (cond (Nat.beq k 21) (some (.goto 40)) (none)) (cond (Nat.beq k 24) (some (.aload_n 0)) (none))))) (cond (Nat.blt k 30) (cond (Nat.blt k 26) (cond (Nat.beq k 25) (some (.iload_n 1)) (none)) (cond (Nat.blt k 29) (cond (Nat.beq k 26) (some (.invokevirtual 158)) (none)) (cond (Nat.beq k 29) (some (.istore_n 2)) (none)))) (cond (Nat.blt k 31) (cond (Nat.beq k 30) (some (.aload_n 0)) (none)) (cond (Nat.blt k 34) (cond (Nat.beq k 31) (some (.getfield 102)) (none)) (cond (Nat.beq k 34) (some (.ifCond .ne 6)) (none))))))) (cond (Nat.blt k 55) (cond (Nat.blt k 46) (cond (Nat.blt k 41) (cond (Nat.blt k 40) (cond (Nat.beq k 37) (some (.goto 24)) (none)) (cond (Nat.beq k 40) (some (.aload_n 0)) (none))) (cond (Nat.blt k 42) (cond (Nat.beq k 41) (some (.iconst 0)) (none)) (cond (Nat.blt k 45) (cond (Nat.beq k 42) (some (.putfield 94)) (none)) (cond (Nat.beq k 45) (some (.iload_n 1)) (none))))) (cond (Nat.blt k 51) (cond (Nat.blt k 49) (cond (Nat.beq k 46) (some (.sipush 10000)) (none)) (cond (Nat.blt k 50) (cond (Nat.beq k 49) (some (.imul)) (none)) (cond (Nat.beq k 50) (some (.iload_n 2)) (none)))) (cond (Nat.blt k 53) (cond (Nat.beq k 51) (some (.bipush 100)) (none)) (cond (Nat.blt k 54) (cond (Nat.beq k 53) (some (.imul)) (none)) (cond (Nat.beq k 54) (some (.iadd)) (none)))))) (cond (Nat.blt k 64) (cond (Nat.blt k 59) (cond (Nat.blt k 56) (cond (Nat.beq k 55) (some (.aload_n 0)) (none)) (cond (Nat.beq k 56) (some (.getfield 102)) (none))) (cond (Nat.blt k 60) (cond (Nat.beq k 59) (some (.iadd)) (none)) (cond (Nat.blt k 61) (cond (Nat.beq k 60) (some (.ireturn)) (none)) (cond (Nat.beq k 61) (some (.iinc 1 1)) (none))))) (cond (Nat.blt k 69) (cond (Nat.blt k 67) (cond (Nat.beq k 64) (some (.goto (-57))) (none)) (cond (Nat.blt k 68) (cond (Nat.beq k 67) (some (.aload_n 0)) (none)) (cond (Nat.beq k 68) (some (.iconst 1)) (none)))) (cond (Nat.blt k 72) (cond (Nat.beq k 69) (some (.putfield 94)) (none)) (cond (Nat.blt k 73) (cond (Nat.beq k 72) (some (.iconst 0)) (none)) (cond (Nat.beq k 73) (some (.ireturn)) (none)))))))
def fmD_check : fm_Me := (⟨"FlatModuleModel", "check", "()I"⟩, prog_9_method_24_code, 3, some .int, 6, fm_f6, fm_cut 74 fmD_check_i)
theorem fmD_check_dc : fm_dc prog_9_method_24_code (fm_cut 74 fmD_check_i) := fm_dc_of (by decide +kernel)
theorem fmD_check_o : fm_mok fmD_check := ⟨⟨fm_f6_o, fmD_check_dc⟩, fm_tb (List.mem_of_getElem? (i := 753) (by decide +kernel)) rfl, fm_tb (List.mem_of_getElem? (i := 7) (by decide +kernel)) rfl, rfl, by decide +kernel, by decide⟩
def fmD_push_i (k : Nat) : Option Instr := cond (Nat.blt k 28) (cond (Nat.blt k 14) (cond (Nat.blt k 8) (cond (Nat.blt k 4) (cond (Nat.blt k 1) (cond (Nat.beq k 0) (some (.aload_n 0)) (none)) (cond (Nat.beq k 1) (some (.getfield 58)) (none))) (cond (Nat.blt k 5) (cond (Nat.beq k 4) (some (.aload_n 0)) (none)) (cond (Nat.beq k 5) (some (.getfield 161)) (none)))) (cond (Nat.blt k 12) (cond (Nat.blt k 9) (cond (Nat.beq k 8) (some (.iload_n 1)) (none)) (cond (Nat.beq k 9) (some (.ifCond .ne 9)) (none))) (cond (Nat.blt k 13) (cond (Nat.beq k 12) (some (.lload_n 2)) (none)) (cond (Nat.beq k 13) (some (.l2i)) (none))))) (cond (Nat.blt k 20) (cond (Nat.blt k 18) (cond (Nat.blt k 15) (cond (Nat.beq k 14) (some (.i2l)) (none)) (cond (Nat.beq k 15) (some (.goto 4)) (none))) (cond (Nat.blt k 19) (cond (Nat.beq k 18) (some (.lload_n 2)) (none)) (cond (Nat.beq k 19) (some (.lastore)) (none)))) (cond (Nat.blt k 24) (cond (Nat.blt k 21) (cond (Nat.beq k 20) (some (.aload_n 0)) (none)) (cond (Nat.beq k 21) (some (.getfield 61)) (none))) (cond (Nat.blt k 25) (cond (Nat.beq k 24) (some (.aload_n 0)) (none)) (cond (Nat.beq k 25) (some (.getfield 161)) (none)))))) (cond (Nat.blt k 42) (cond (Nat.blt k 35) (cond (Nat.blt k 30) (cond (Nat.blt k 29) (cond (Nat.beq k 28) (some (.iload_n 1)) (none)) (cond (Nat.beq k 29) (some (.iconst 2)) (none))) (cond (Nat.blt k 33) (cond (Nat.beq k 30) (some (.if_icmp .ne 10)) (none)) (cond (Nat.beq k 33) (some (.dload 4)) (none)))) (cond (Nat.blt k 37) (cond (Nat.blt k 36) (cond (Nat.beq k 35) (some (.d2f)) (none)) (cond (Nat.beq k 36) (some (.f2d)) (none))) (cond (Nat.blt k 40) (cond (Nat.beq k 37) (some (.goto 5)) (none)) (cond (Nat.beq k 40) (some (.dload 4)) (none))))) (cond (Nat.blt k 48) (cond (Nat.blt k 44) (cond (Nat.blt k 43) (cond (Nat.beq k 42) (some (.dastore)) (none)) (cond (Nat.beq k 43) (some (.aload_n 0)) (none))) (cond (Nat.blt k 45) (cond (Nat.beq k 44) (some (.dup)) (none)) (cond (Nat.beq k 45) (some (.getfield 161)) (none)))) (cond (Nat.blt k 50) (cond (Nat.blt k 49) (cond (Nat.beq k 48) (some (.iconst 1)) (none)) (cond (Nat.beq k 49) (some (.iadd)) (none))) (cond (Nat.blt k 53) (cond (Nat.beq k 50) (some (.putfield 161)) (none)) (cond (Nat.beq k 53) (some (.return_)) (none))))))
def fmD_push : fm_Me := (⟨"FlatModuleModel", "push", "(IJD)V"⟩, prog_9_method_25_code, 6, none, 6, fm_f6, fm_cut 54 fmD_push_i)
theorem fmD_push_dc : fm_dc prog_9_method_25_code (fm_cut 54 fmD_push_i) := fm_dc_of (by decide +kernel)
theorem fmD_push_o : fm_mok fmD_push := ⟨⟨fm_f6_o, fmD_push_dc⟩, fm_tb (List.mem_of_getElem? (i := 825) (by decide +kernel)) rfl, fm_tb (List.mem_of_getElem? (i := 7) (by decide +kernel)) rfl, rfl, by decide +kernel, by decide⟩
def fmD_large_i (k : Nat) : Option Instr := cond (Nat.blt k 12) (cond (Nat.blt k 5) (cond (Nat.blt k 1) (cond (Nat.beq k 0) (some (.dload_n 0)) (none)) (cond (Nat.blt k 4) (cond (Nat.beq k 1) (some (.ldc2_w 164)) (none)) (cond (Nat.beq k 4) (some (.dcmp .l)) (none)))) (cond (Nat.blt k 8) (cond (Nat.beq k 5) (some (.ifCond .gt 11)) (none)) (cond (Nat.blt k 9) (cond (Nat.beq k 8) (some (.dload_n 0)) (none)) (cond (Nat.beq k 9) (some (.ldc2_w 166)) (none))))) (cond (Nat.blt k 17) (cond (Nat.blt k 13) (cond (Nat.beq k 12) (some (.dcmp .g)) (none)) (cond (Nat.blt k 16) (cond (Nat.beq k 13) (some (.ifCond .ge 7)) (none)) (cond (Nat.beq k 16) (some (.iconst 1)) (none)))) (cond (Nat.blt k 20) (cond (Nat.beq k 17) (some (.goto 4)) (none)) (cond (Nat.blt k 21) (cond (Nat.beq k 20) (some (.iconst 0)) (none)) (cond (Nat.beq k 21) (some (.ireturn)) (none)))))
def fmD_large : fm_Me := (⟨"FlatModuleModel", "large", "(D)Z"⟩, prog_9_method_26_code, 2, some .boolean, 6, fm_f6, fm_cut 22 fmD_large_i)
theorem fmD_large_dc : fm_dc prog_9_method_26_code (fm_cut 22 fmD_large_i) := fm_dc_of (by decide +kernel)
theorem fmD_large_o : fm_mok fmD_large := ⟨⟨fm_f6_o, fmD_large_dc⟩, fm_tb (List.mem_of_getElem? (i := 858) (by decide +kernel)) rfl, fm_tb (List.mem_of_getElem? (i := 7) (by decide +kernel)) rfl, rfl, by decide +kernel, by decide⟩
def fmD_arithmetic_i (k : Nat) : Option Instr := cond (Nat.blt k 170) (cond (Nat.blt k 62) (cond (Nat.blt k 30) (cond (Nat.blt k 15) (cond (Nat.blt k 6) (cond (Nat.blt k 2) (cond (Nat.blt k 1) (cond (Nat.beq k 0) (some (.aload_n 0)) (none)) (cond (Nat.beq k 1) (some (.dup)) (none))) (cond (Nat.blt k 5) (cond (Nat.beq k 2) (some (.getfield 161)) (none)) (cond (Nat.beq k 5) (some (.iconst 2)) (none)))) (cond (Nat.blt k 10) (cond (Nat.blt k 7) (cond (Nat.beq k 6) (some (.isub)) (none)) (cond (Nat.beq k 7) (some (.putfield 161)) (none))) (cond (Nat.blt k 11) (cond (Nat.beq k 10) (some (.aload_n 0)) (none)) (cond (Nat.blt k 14) (cond (Nat.beq k 11) (some (.getfield 58)) (none)) (cond (Nat.beq k 14) (some (.aload_n 0)) (none)))))) (cond (Nat.blt k 21) (cond (Nat.blt k 19) (cond (Nat.blt k 18) (cond (Nat.beq k 15) (some (.getfield 161)) (none)) (cond (Nat.beq k 18) (some (.laload)) (none))) (cond (Nat.blt k 20) (cond (Nat.beq k 19) (some (.lstore_n 3)) (none)) (cond (Nat.beq k 20) (some (.aload_n 0)) (none)))) (cond (Nat.blt k 25) (cond (Nat.blt k 24) (cond (Nat.beq k 21) (some (.getfield 58)) (none)) (cond (Nat.beq k 24) (some (.aload_n 0)) (none))) (cond (Nat.blt k 28) (cond (Nat.beq k 25) (some (.getfield 161)) (none)) (cond (Nat.blt k 29) (cond (Nat.beq k 28) (some (.iconst 1)) (none)) (cond (Nat.beq k 29) (some (.iadd)) (none))))))) (cond (Nat.blt k 45) (cond (Nat.blt k 37) (cond (Nat.blt k 33) (cond (Nat.blt k 31) (cond (Nat.beq k 30) (some (.laload)) (none)) (cond (Nat.beq k 31) (some (.lstore 5)) (none))) (cond (Nat.blt k 34) (cond (Nat.beq k 33) (some (.aload_n 0)) (none)) (cond (Nat.beq k 34) (some (.getfield 61)) (none)))) (cond (Nat.blt k 41) (cond (Nat.blt k 38) (cond (Nat.beq k 37) (some (.aload_n 0)) (none)) (cond (Nat.beq k 38) (some (.getfield 161)) (none))) (cond (Nat.blt k 42) (cond (Nat.beq k 41) (some (.daload)) (none)) (cond (Nat.blt k 44) (cond (Nat.beq k 42) (some (.dstore 7)) (none)) (cond (Nat.beq k 44) (some (.aload_n 0)) (none)))))) (cond (Nat.blt k 54) (cond (Nat.blt k 49) (cond (Nat.blt k 48) (cond (Nat.beq k 45) (some (.getfield 61)) (none)) (cond (Nat.beq k 48) (some (.aload_n 0)) (none))) (cond (Nat.blt k 52) (cond (Nat.beq k 49) (some (.getfield 161)) (none)) (cond (Nat.blt k 53) (cond (Nat.beq k 52) (some (.iconst 1)) (none)) (cond (Nat.beq k 53) (some (.iadd)) (none))))) (cond (Nat.blt k 57) (cond (Nat.blt k 55) (cond (Nat.beq k 54) (some (.daload)) (none)) (cond (Nat.beq k 55) (some (.dstore 9)) (none))) (cond (Nat.blt k 58) (cond (Nat.beq k 57) (some (.iload_n 2)) (none)) (cond (Nat.blt k 59) (cond (Nat.beq k 58) (some (.iconst 1)) (none)) (cond (Nat.beq k 59) (some (.if_icmp .le 14)) (none)))))))) (cond (Nat.blt k 93) (cond (Nat.blt k 76) (cond (Nat.blt k 67) (cond (Nat.blt k 64) (cond (Nat.blt k 63) (cond (Nat.beq k 62) (some (.aload_n 0)) (none)) (cond (Nat.beq k 63) (some (.iload_n 1)) (none))) (cond (Nat.blt k 65) (cond (Nat.beq k 64) (some (.iload_n 2)) (none)) (cond (Nat.beq k 65) (some (.dload 7)) (none)))) (cond (Nat.blt k 72) (cond (Nat.blt k 69) (cond (Nat.beq k 67) (some (.dload 9)) (none)) (cond (Nat.beq k 69) (some (.invokevirtual 168)) (none))) (cond (Nat.blt k 73) (cond (Nat.beq k 72) (some (.return_)) (none)) (cond (Nat.blt k 74) (cond (Nat.beq k 73) (some (.iload_n 1)) (none)) (cond (Nat.beq k 74) (some (.bipush 14)) (none)))))) (cond (Nat.blt k 85) (cond (Nat.blt k 80) (cond (Nat.blt k 79) (cond (Nat.beq k 76) (some (.if_icmp .eq 9)) (none)) (cond (Nat.beq k 79) (some (.iload_n 1)) (none))) (cond (Nat.blt k 82) (cond (Nat.beq k 80) (some (.bipush 15)) (none)) (cond (Nat.beq k 82) (some (.if_icmp .ne 16)) (none)))) (cond (Nat.blt k 88) (cond (Nat.blt k 87) (cond (Nat.beq k 85) (some (.lload 5)) (none)) (cond (Nat.beq k 87) (some (.lconst 0)) (none))) (cond (Nat.blt k 89) (cond (Nat.beq k 88) (some (.lcmp)) (none)) (cond (Nat.blt k 92) (cond (Nat.beq k 89) (some (.ifCond .ne 9)) (none)) (cond (Nat.beq k 92) (some (.aload_n 0)) (none))))))) (cond (Nat.blt k 110) (cond (Nat.blt k 100) (cond (Nat.blt k 97) (cond (Nat.blt k 94) (cond (Nat.beq k 93) (some (.iconst 3)) (none)) (cond (Nat.beq k 94) (some (.putfield 82)) (none))) (cond (Nat.blt k 98) (cond (Nat.beq k 97) (some (.return_)) (none)) (cond (Nat.beq k 98) (some (.lload 5)) (none)))) (cond (Nat.blt k 102) (cond (Nat.blt k 101) (cond (Nat.beq k 100) (some (.l2i)) (none)) (cond (Nat.beq k 101) (some (.iload_n 2)) (none))) (cond (Nat.blt k 105) (cond (Nat.beq k 102) (some (.ifCond .ne 8)) (none)) (cond (Nat.blt k 107) (cond (Nat.beq k 105) (some (.bipush 31)) (none)) (cond (Nat.beq k 107) (some (.goto 5)) (none)))))) (cond (Nat.blt k 164) (cond (Nat.blt k 113) (cond (Nat.blt k 112) (cond (Nat.beq k 110) (some (.bipush 63)) (none)) (cond (Nat.beq k 112) (some (.iand)) (none))) (cond (Nat.blt k 115) (cond (Nat.beq k 113) (some (.istore 11)) (none)) (cond (Nat.blt k 116) (cond (Nat.beq k 115) (some (.iload_n 1)) (none)) (cond (Nat.beq k 116) (some (.tableswitch 160 11 18 #[48, 61, 74, 87, 100, 113, 126, 139])) (none))))) (cond (Nat.blt k 166) (cond (Nat.blt k 165) (cond (Nat.beq k 164) (some (.aload_n 0)) (none)) (cond (Nat.beq k 165) (some (.iload_n 2)) (none))) (cond (Nat.blt k 167) (cond (Nat.beq k 166) (some (.lload_n 3)) (none)) (cond (Nat.blt k 169) (cond (Nat.beq k 167) (some (.lload 5)) (none)) (cond (Nat.beq k 169) (some (.ladd)) (none))))))))) (cond (Nat.blt k 231) (cond (Nat.blt k 200) (cond (Nat.blt k 184) (cond (Nat.blt k 178) (cond (Nat.blt k 174) (cond (Nat.blt k 171) (cond (Nat.beq k 170) (some (.dconst 0)) (none)) (cond (Nat.beq k 171) (some (.invokevirtual 172)) (none))) (cond (Nat.blt k 177) (cond (Nat.beq k 174) (some (.goto 120)) (none)) (cond (Nat.beq k 177) (some (.aload_n 0)) (none)))) (cond (Nat.blt k 180) (cond (Nat.blt k 179) (cond (Nat.beq k 178) (some (.iload_n 2)) (none)) (cond (Nat.beq k 179) (some (.lload_n 3)) (none))) (cond (Nat.blt k 182) (cond (Nat.beq k 180) (some (.lload 5)) (none)) (cond (Nat.blt k 183) (cond (Nat.beq k 182) (some (.lsub)) (none)) (cond (Nat.beq k 183) (some (.dconst 0)) (none)))))) (cond (Nat.blt k 192) (cond (Nat.blt k 190) (cond (Nat.blt k 187) (cond (Nat.beq k 184) (some (.invokevirtual 172)) (none)) (cond (Nat.beq k 187) (some (.goto 107)) (none))) (cond (Nat.blt k 191) (cond (Nat.beq k 190) (some (.aload_n 0)) (none)) (cond (Nat.beq k 191) (some (.iload_n 2)) (none)))) (cond (Nat.blt k 195) (cond (Nat.blt k 193) (cond (Nat.beq k 192) (some (.lload_n 3)) (none)) (cond (Nat.beq k 193) (some (.lload 5)) (none))) (cond (Nat.blt k 196) (cond (Nat.beq k 195) (some (.lmul)) (none)) (cond (Nat.blt k 197) (cond (Nat.beq k 196) (some (.dconst 0)) (none)) (cond (Nat.beq k 197) (some (.invokevirtual 172)) (none))))))) (cond (Nat.blt k 216) (cond (Nat.blt k 206) (cond (Nat.blt k 204) (cond (Nat.blt k 203) (cond (Nat.beq k 200) (some (.goto 94)) (none)) (cond (Nat.beq k 203) (some (.aload_n 0)) (none))) (cond (Nat.blt k 205) (cond (Nat.beq k 204) (some (.iload_n 2)) (none)) (cond (Nat.beq k 205) (some (.lload_n 3)) (none)))) (cond (Nat.blt k 209) (cond (Nat.blt k 208) (cond (Nat.beq k 206) (some (.lload 5)) (none)) (cond (Nat.beq k 208) (some (.ldiv)) (none))) (cond (Nat.blt k 210) (cond (Nat.beq k 209) (some (.dconst 0)) (none)) (cond (Nat.blt k 213) (cond (Nat.beq k 210) (some (.invokevirtual 172)) (none)) (cond (Nat.beq k 213) (some (.goto 81)) (none)))))) (cond (Nat.blt k 222) (cond (Nat.blt k 218) (cond (Nat.blt k 217) (cond (Nat.beq k 216) (some (.aload_n 0)) (none)) (cond (Nat.beq k 217) (some (.iload_n 2)) (none))) (cond (Nat.blt k 219) (cond (Nat.beq k 218) (some (.lload_n 3)) (none)) (cond (Nat.blt k 221) (cond (Nat.beq k 219) (some (.lload 5)) (none)) (cond (Nat.beq k 221) (some (.lrem)) (none))))) (cond (Nat.blt k 226) (cond (Nat.blt k 223) (cond (Nat.beq k 222) (some (.dconst 0)) (none)) (cond (Nat.beq k 223) (some (.invokevirtual 172)) (none))) (cond (Nat.blt k 229) (cond (Nat.beq k 226) (some (.goto 68)) (none)) (cond (Nat.blt k 230) (cond (Nat.beq k 229) (some (.aload_n 0)) (none)) (cond (Nat.beq k 230) (some (.iload_n 2)) (none)))))))) (cond (Nat.blt k 261) (cond (Nat.blt k 245) (cond (Nat.blt k 236) (cond (Nat.blt k 234) (cond (Nat.blt k 232) (cond (Nat.beq k 231) (some (.lload_n 3)) (none)) (cond (Nat.beq k 232) (some (.lload 5)) (none))) (cond (Nat.blt k 235) (cond (Nat.beq k 234) (some (.land)) (none)) (cond (Nat.beq k 235) (some (.dconst 0)) (none)))) (cond (Nat.blt k 242) (cond (Nat.blt k 239) (cond (Nat.beq k 236) (some (.invokevirtual 172)) (none)) (cond (Nat.beq k 239) (some (.goto 55)) (none))) (cond (Nat.blt k 243) (cond (Nat.beq k 242) (some (.aload_n 0)) (none)) (cond (Nat.blt k 244) (cond (Nat.beq k 243) (some (.iload_n 2)) (none)) (cond (Nat.beq k 244) (some (.lload_n 3)) (none)))))) (cond (Nat.blt k 255) (cond (Nat.blt k 248) (cond (Nat.blt k 247) (cond (Nat.beq k 245) (some (.iload 11)) (none)) (cond (Nat.beq k 247) (some (.lshl)) (none))) (cond (Nat.blt k 249) (cond (Nat.beq k 248) (some (.dconst 0)) (none)) (cond (Nat.blt k 252) (cond (Nat.beq k 249) (some (.invokevirtual 172)) (none)) (cond (Nat.beq k 252) (some (.goto 42)) (none))))) (cond (Nat.blt k 257) (cond (Nat.blt k 256) (cond (Nat.beq k 255) (some (.aload_n 0)) (none)) (cond (Nat.beq k 256) (some (.iconst 0)) (none))) (cond (Nat.blt k 258) (cond (Nat.beq k 257) (some (.lload_n 3)) (none)) (cond (Nat.blt k 260) (cond (Nat.beq k 258) (some (.lload 5)) (none)) (cond (Nat.beq k 260) (some (.lcmp)) (none))))))) (cond (Nat.blt k 278) (cond (Nat.blt k 269) (cond (Nat.blt k 265) (cond (Nat.blt k 264) (cond (Nat.beq k 261) (some (.ifCond .ge 7)) (none)) (cond (Nat.beq k 264) (some (.lconst 1)) (none))) (cond (Nat.blt k 268) (cond (Nat.beq k 265) (some (.goto 4)) (none)) (cond (Nat.beq k 268) (some (.lconst 0)) (none)))) (cond (Nat.blt k 273) (cond (Nat.blt k 270) (cond (Nat.beq k 269) (some (.dconst 0)) (none)) (cond (Nat.beq k 270) (some (.invokevirtual 172)) (none))) (cond (Nat.blt k 276) (cond (Nat.beq k 273) (some (.goto 21)) (none)) (cond (Nat.blt k 277) (cond (Nat.beq k 276) (some (.aload_n 0)) (none)) (cond (Nat.beq k 277) (some (.iconst 0)) (none)))))) (cond (Nat.blt k 286) (cond (Nat.blt k 281) (cond (Nat.blt k 279) (cond (Nat.beq k 278) (some (.lload_n 3)) (none)) (cond (Nat.beq k 279) (some (.lload 5)) (none))) (cond (Nat.blt k 282) (cond (Nat.beq k 281) (some (.lcmp)) (none)) (cond (Nat.blt k 285) (cond (Nat.beq k 282) (some (.ifCond .ne 7)) (none)) (cond (Nat.beq k 285) (some (.lconst 1)) (none))))) (cond (Nat.blt k 290) (cond (Nat.blt k 289) (cond (Nat.beq k 286) (some (.goto 4)) (none)) (cond (Nat.beq k 289) (some (.lconst 0)) (none))) (cond (Nat.blt k 291) (cond (Nat.beq k 290) (some (.dconst 0)) (none)) (cond (Nat.blt k 294) (cond (Nat.beq k 291) (some (.invokevirtual 172)) (none)) (cond (Nat.beq k 294) (some (.return_)) (none)))))))))
def fmD_arithmetic : fm_Me := (⟨"FlatModuleModel", "arithmetic", "(II)V"⟩, prog_9_method_27_code, 12, none, 6, fm_f6, fm_cut 295 fmD_arithmetic_i)
theorem fmD_arithmetic_dc : fm_dc prog_9_method_27_code (fm_cut 295 fmD_arithmetic_i) := fm_dc_of (by decide +kernel)
theorem fmD_arithmetic_o : fm_mok fmD_arithmetic := ⟨⟨fm_f6_o, fmD_arithmetic_dc⟩, fm_tb (List.mem_of_getElem? (i := 876) (by decide +kernel)) rfl, fm_tb (List.mem_of_getElem? (i := 7) (by decide +kernel)) rfl, rfl, by decide +kernel, by decide⟩
def fmD_fractions_i (k : Nat) : Option Instr := cond (Nat.blt k 70) (cond (Nat.blt k 36) (cond (Nat.blt k 17) (cond (Nat.blt k 8) (cond (Nat.blt k 3) (cond (Nat.blt k 1) (cond (Nat.beq k 0) (some (.iload_n 1)) (none)) (cond (Nat.beq k 1) (some (.bipush 17)) (none))) (cond (Nat.blt k 6) (cond (Nat.beq k 3) (some (.if_icmp .le 38)) (none)) (cond (Nat.blt k 7) (cond (Nat.beq k 6) (some (.aload_n 0)) (none)) (cond (Nat.beq k 7) (some (.iconst 0)) (none))))) (cond (Nat.blt k 11) (cond (Nat.blt k 9) (cond (Nat.beq k 8) (some (.iload_n 1)) (none)) (cond (Nat.beq k 9) (some (.bipush 18)) (none))) (cond (Nat.blt k 14) (cond (Nat.beq k 11) (some (.if_icmp .ne 13)) (none)) (cond (Nat.blt k 15) (cond (Nat.beq k 14) (some (.dload_n 3)) (none)) (cond (Nat.beq k 15) (some (.dload 5)) (none)))))) (cond (Nat.blt k 27) (cond (Nat.blt k 21) (cond (Nat.blt k 18) (cond (Nat.beq k 17) (some (.dcmp .g)) (none)) (cond (Nat.beq k 18) (some (.ifCond .ge 17)) (none))) (cond (Nat.blt k 24) (cond (Nat.beq k 21) (some (.goto 10)) (none)) (cond (Nat.blt k 25) (cond (Nat.beq k 24) (some (.dload_n 3)) (none)) (cond (Nat.beq k 25) (some (.dload 5)) (none))))) (cond (Nat.blt k 31) (cond (Nat.blt k 28) (cond (Nat.beq k 27) (some (.dcmp .l)) (none)) (cond (Nat.beq k 28) (some (.ifCond .ne 7)) (none))) (cond (Nat.blt k 32) (cond (Nat.beq k 31) (some (.lconst 1)) (none)) (cond (Nat.blt k 35) (cond (Nat.beq k 32) (some (.goto 4)) (none)) (cond (Nat.beq k 35) (some (.lconst 0)) (none))))))) (cond (Nat.blt k 54) (cond (Nat.blt k 44) (cond (Nat.blt k 40) (cond (Nat.blt k 37) (cond (Nat.beq k 36) (some (.dconst 0)) (none)) (cond (Nat.beq k 37) (some (.invokevirtual 172)) (none))) (cond (Nat.blt k 41) (cond (Nat.beq k 40) (some (.return_)) (none)) (cond (Nat.blt k 42) (cond (Nat.beq k 41) (some (.iload_n 1)) (none)) (cond (Nat.beq k 42) (some (.bipush 14)) (none))))) (cond (Nat.blt k 49) (cond (Nat.blt k 47) (cond (Nat.beq k 44) (some (.if_icmp .ne 16)) (none)) (cond (Nat.beq k 47) (some (.dload 5)) (none))) (cond (Nat.blt k 50) (cond (Nat.beq k 49) (some (.dconst 0)) (none)) (cond (Nat.blt k 51) (cond (Nat.beq k 50) (some (.dcmp .l)) (none)) (cond (Nat.beq k 51) (some (.ifCond .ne 9)) (none)))))) (cond (Nat.blt k 61) (cond (Nat.blt k 56) (cond (Nat.blt k 55) (cond (Nat.beq k 54) (some (.aload_n 0)) (none)) (cond (Nat.beq k 55) (some (.iconst 3)) (none))) (cond (Nat.blt k 59) (cond (Nat.beq k 56) (some (.putfield 82)) (none)) (cond (Nat.blt k 60) (cond (Nat.beq k 59) (some (.return_)) (none)) (cond (Nat.beq k 60) (some (.iload_n 2)) (none))))) (cond (Nat.blt k 66) (cond (Nat.blt k 62) (cond (Nat.beq k 61) (some (.iconst 2)) (none)) (cond (Nat.blt k 65) (cond (Nat.beq k 62) (some (.if_icmp .ne 16)) (none)) (cond (Nat.beq k 65) (some (.iload_n 1)) (none)))) (cond (Nat.blt k 67) (cond (Nat.beq k 66) (some (.dload_n 3)) (none)) (cond (Nat.blt k 68) (cond (Nat.beq k 67) (some (.d2f)) (none)) (cond (Nat.beq k 68) (some (.dload 5)) (none)))))))) (cond (Nat.blt k 110) (cond (Nat.blt k 88) (cond (Nat.blt k 79) (cond (Nat.blt k 74) (cond (Nat.blt k 71) (cond (Nat.beq k 70) (some (.d2f)) (none)) (cond (Nat.beq k 71) (some (.invokestatic 176)) (none))) (cond (Nat.blt k 75) (cond (Nat.beq k 74) (some (.f2d)) (none)) (cond (Nat.blt k 78) (cond (Nat.beq k 75) (some (.goto 46)) (none)) (cond (Nat.beq k 78) (some (.iload_n 1)) (none))))) (cond (Nat.blt k 84) (cond (Nat.blt k 81) (cond (Nat.beq k 79) (some (.bipush 11)) (none)) (cond (Nat.beq k 81) (some (.if_icmp .ne 10)) (none))) (cond (Nat.blt k 85) (cond (Nat.beq k 84) (some (.dload_n 3)) (none)) (cond (Nat.blt k 87) (cond (Nat.beq k 85) (some (.dload 5)) (none)) (cond (Nat.beq k 87) (some (.dadd)) (none)))))) (cond (Nat.blt k 98) (cond (Nat.blt k 92) (cond (Nat.blt k 91) (cond (Nat.beq k 88) (some (.goto 33)) (none)) (cond (Nat.beq k 91) (some (.iload_n 1)) (none))) (cond (Nat.blt k 94) (cond (Nat.beq k 92) (some (.bipush 12)) (none)) (cond (Nat.blt k 97) (cond (Nat.beq k 94) (some (.if_icmp .ne 10)) (none)) (cond (Nat.beq k 97) (some (.dload_n 3)) (none))))) (cond (Nat.blt k 104) (cond (Nat.blt k 100) (cond (Nat.beq k 98) (some (.dload 5)) (none)) (cond (Nat.blt k 101) (cond (Nat.beq k 100) (some (.dsub)) (none)) (cond (Nat.beq k 101) (some (.goto 20)) (none)))) (cond (Nat.blt k 105) (cond (Nat.beq k 104) (some (.iload_n 1)) (none)) (cond (Nat.blt k 107) (cond (Nat.beq k 105) (some (.bipush 13)) (none)) (cond (Nat.beq k 107) (some (.if_icmp .ne 10)) (none))))))) (cond (Nat.blt k 128) (cond (Nat.blt k 118) (cond (Nat.blt k 113) (cond (Nat.blt k 111) (cond (Nat.beq k 110) (some (.dload_n 3)) (none)) (cond (Nat.beq k 111) (some (.dload 5)) (none))) (cond (Nat.blt k 114) (cond (Nat.beq k 113) (some (.dmul)) (none)) (cond (Nat.blt k 117) (cond (Nat.beq k 114) (some (.goto 7)) (none)) (cond (Nat.beq k 117) (some (.dload_n 3)) (none))))) (cond (Nat.blt k 121) (cond (Nat.blt k 120) (cond (Nat.beq k 118) (some (.dload 5)) (none)) (cond (Nat.beq k 120) (some (.ddiv)) (none))) (cond (Nat.blt k 123) (cond (Nat.beq k 121) (some (.dstore 7)) (none)) (cond (Nat.blt k 125) (cond (Nat.beq k 123) (some (.dload 7)) (none)) (cond (Nat.beq k 125) (some (.invokestatic 180)) (none)))))) (cond (Nat.blt k 139) (cond (Nat.blt k 132) (cond (Nat.blt k 131) (cond (Nat.beq k 128) (some (.ifCond .eq 11)) (none)) (cond (Nat.beq k 131) (some (.aload_n 0)) (none))) (cond (Nat.blt k 133) (cond (Nat.beq k 132) (some (.iconst 3)) (none)) (cond (Nat.blt k 136) (cond (Nat.beq k 133) (some (.putfield 82)) (none)) (cond (Nat.beq k 136) (some (.goto 11)) (none))))) (cond (Nat.blt k 142) (cond (Nat.blt k 140) (cond (Nat.beq k 139) (some (.aload_n 0)) (none)) (cond (Nat.blt k 141) (cond (Nat.beq k 140) (some (.iload_n 2)) (none)) (cond (Nat.beq k 141) (some (.lconst 0)) (none)))) (cond (Nat.blt k 144) (cond (Nat.beq k 142) (some (.dload 7)) (none)) (cond (Nat.blt k 147) (cond (Nat.beq k 144) (some (.invokevirtual 172)) (none)) (cond (Nat.beq k 147) (some (.return_)) (none))))))))
def fmD_fractions : fm_Me := (⟨"FlatModuleModel", "fractions", "(IIDD)V"⟩, prog_9_method_28_code, 9, none, 6, fm_f6, fm_cut 148 fmD_fractions_i)
theorem fmD_fractions_dc : fm_dc prog_9_method_28_code (fm_cut 148 fmD_fractions_i) := fm_dc_of (by decide +kernel)
theorem fmD_fractions_o : fm_mok fmD_fractions := ⟨⟨fm_f6_o, fmD_fractions_dc⟩, fm_tb (List.mem_of_getElem? (i := 880) (by decide +kernel)) rfl, fm_tb (List.mem_of_getElem? (i := 7) (by decide +kernel)) rfl, rfl, by decide +kernel, by decide⟩
def fmD_small_i (k : Nat) : Option Instr := cond (Nat.blt k 20) (cond (Nat.blt k 9) (cond (Nat.blt k 6) (cond (Nat.blt k 1) (cond (Nat.beq k 0) (some (.iload_n 0)) (none)) (cond (Nat.blt k 3) (cond (Nat.beq k 1) (some (.bipush 11)) (none)) (cond (Nat.beq k 3) (some (.if_icmp .ne 9)) (none)))) (cond (Nat.blt k 7) (cond (Nat.beq k 6) (some (.fload_n 1)) (none)) (cond (Nat.blt k 8) (cond (Nat.beq k 7) (some (.fload_n 2)) (none)) (cond (Nat.beq k 8) (some (.fadd)) (none))))) (cond (Nat.blt k 15) (cond (Nat.blt k 12) (cond (Nat.beq k 9) (some (.goto 30)) (none)) (cond (Nat.blt k 13) (cond (Nat.beq k 12) (some (.iload_n 0)) (none)) (cond (Nat.beq k 13) (some (.bipush 12)) (none)))) (cond (Nat.blt k 18) (cond (Nat.beq k 15) (some (.if_icmp .ne 9)) (none)) (cond (Nat.blt k 19) (cond (Nat.beq k 18) (some (.fload_n 1)) (none)) (cond (Nat.beq k 19) (some (.fload_n 2)) (none)))))) (cond (Nat.blt k 31) (cond (Nat.blt k 25) (cond (Nat.blt k 21) (cond (Nat.beq k 20) (some (.fsub)) (none)) (cond (Nat.blt k 24) (cond (Nat.beq k 21) (some (.goto 18)) (none)) (cond (Nat.beq k 24) (some (.iload_n 0)) (none)))) (cond (Nat.blt k 27) (cond (Nat.beq k 25) (some (.bipush 13)) (none)) (cond (Nat.blt k 30) (cond (Nat.beq k 27) (some (.if_icmp .ne 9)) (none)) (cond (Nat.beq k 30) (some (.fload_n 1)) (none))))) (cond (Nat.blt k 36) (cond (Nat.blt k 32) (cond (Nat.beq k 31) (some (.fload_n 2)) (none)) (cond (Nat.blt k 33) (cond (Nat.beq k 32) (some (.fmul)) (none)) (cond (Nat.beq k 33) (some (.goto 6)) (none)))) (cond (Nat.blt k 38) (cond (Nat.blt k 37) (cond (Nat.beq k 36) (some (.fload_n 1)) (none)) (cond (Nat.beq k 37) (some (.fload_n 2)) (none))) (cond (Nat.blt k 39) (cond (Nat.beq k 38) (some (.fdiv)) (none)) (cond (Nat.beq k 39) (some (.freturn)) (none))))))
def fmD_small : fm_Me := (⟨"FlatModuleModel", "small", "(IFF)F"⟩, prog_9_method_29_code, 3, some .float, 6, fm_f6, fm_cut 40 fmD_small_i)
theorem fmD_small_dc : fm_dc prog_9_method_29_code (fm_cut 40 fmD_small_i) := fm_dc_of (by decide +kernel)
theorem fmD_small_o : fm_mok fmD_small := ⟨⟨fm_f6_o, fmD_small_dc⟩, fm_tb (List.mem_of_getElem? (i := 883) (by decide +kernel)) rfl, fm_tb (List.mem_of_getElem? (i := 7) (by decide +kernel)) rfl, rfl, by decide +kernel, by decide⟩
def fmD_convert_i (k : Nat) : Option Instr := cond (Nat.blt k 66) (cond (Nat.blt k 32) (cond (Nat.blt k 15) (cond (Nat.blt k 6) (cond (Nat.blt k 2) (cond (Nat.blt k 1) (cond (Nat.beq k 0) (some (.aload_n 0)) (none)) (cond (Nat.beq k 1) (some (.dup)) (none))) (cond (Nat.blt k 5) (cond (Nat.beq k 2) (some (.getfield 161)) (none)) (cond (Nat.beq k 5) (some (.iconst 1)) (none)))) (cond (Nat.blt k 10) (cond (Nat.blt k 7) (cond (Nat.beq k 6) (some (.isub)) (none)) (cond (Nat.beq k 7) (some (.putfield 161)) (none))) (cond (Nat.blt k 11) (cond (Nat.beq k 10) (some (.aload_n 0)) (none)) (cond (Nat.blt k 14) (cond (Nat.beq k 11) (some (.getfield 58)) (none)) (cond (Nat.beq k 14) (some (.aload_n 0)) (none)))))) (cond (Nat.blt k 24) (cond (Nat.blt k 19) (cond (Nat.blt k 18) (cond (Nat.beq k 15) (some (.getfield 161)) (none)) (cond (Nat.beq k 18) (some (.laload)) (none))) (cond (Nat.blt k 20) (cond (Nat.beq k 19) (some (.lstore_n 3)) (none)) (cond (Nat.blt k 21) (cond (Nat.beq k 20) (some (.aload_n 0)) (none)) (cond (Nat.beq k 21) (some (.getfield 61)) (none))))) (cond (Nat.blt k 28) (cond (Nat.blt k 25) (cond (Nat.beq k 24) (some (.aload_n 0)) (none)) (cond (Nat.beq k 25) (some (.getfield 161)) (none))) (cond (Nat.blt k 29) (cond (Nat.beq k 28) (some (.daload)) (none)) (cond (Nat.blt k 31) (cond (Nat.beq k 29) (some (.dstore 5)) (none)) (cond (Nat.beq k 31) (some (.iload_n 2)) (none))))))) (cond (Nat.blt k 48) (cond (Nat.blt k 41) (cond (Nat.blt k 36) (cond (Nat.blt k 33) (cond (Nat.beq k 32) (some (.iconst 2)) (none)) (cond (Nat.beq k 33) (some (.if_icmp .ge 39)) (none))) (cond (Nat.blt k 37) (cond (Nat.beq k 36) (some (.iload_n 1)) (none)) (cond (Nat.blt k 38) (cond (Nat.beq k 37) (some (.iconst 2)) (none)) (cond (Nat.beq k 38) (some (.if_icmp .ge 13)) (none))))) (cond (Nat.blt k 43) (cond (Nat.blt k 42) (cond (Nat.beq k 41) (some (.aload_n 0)) (none)) (cond (Nat.beq k 42) (some (.iload_n 2)) (none))) (cond (Nat.blt k 44) (cond (Nat.beq k 43) (some (.lload_n 3)) (none)) (cond (Nat.blt k 45) (cond (Nat.beq k 44) (some (.dconst 0)) (none)) (cond (Nat.beq k 45) (some (.invokevirtual 172)) (none)))))) (cond (Nat.blt k 57) (cond (Nat.blt k 52) (cond (Nat.blt k 51) (cond (Nat.beq k 48) (some (.goto 23)) (none)) (cond (Nat.beq k 51) (some (.aload_n 0)) (none))) (cond (Nat.blt k 53) (cond (Nat.beq k 52) (some (.iload_n 2)) (none)) (cond (Nat.blt k 54) (cond (Nat.beq k 53) (some (.iload_n 2)) (none)) (cond (Nat.beq k 54) (some (.ifCond .ne 10)) (none))))) (cond (Nat.blt k 60) (cond (Nat.blt k 59) (cond (Nat.beq k 57) (some (.dload 5)) (none)) (cond (Nat.beq k 59) (some (.d2i)) (none))) (cond (Nat.blt k 61) (cond (Nat.beq k 60) (some (.i2l)) (none)) (cond (Nat.blt k 64) (cond (Nat.beq k 61) (some (.goto 6)) (none)) (cond (Nat.beq k 64) (some (.dload 5)) (none)))))))) (cond (Nat.blt k 99) (cond (Nat.blt k 79) (cond (Nat.blt k 72) (cond (Nat.blt k 68) (cond (Nat.blt k 67) (cond (Nat.beq k 66) (some (.d2l)) (none)) (cond (Nat.beq k 67) (some (.dconst 0)) (none))) (cond (Nat.blt k 71) (cond (Nat.beq k 68) (some (.invokevirtual 172)) (none)) (cond (Nat.beq k 71) (some (.return_)) (none)))) (cond (Nat.blt k 74) (cond (Nat.blt k 73) (cond (Nat.beq k 72) (some (.iload_n 1)) (none)) (cond (Nat.beq k 73) (some (.iconst 1)) (none))) (cond (Nat.blt k 77) (cond (Nat.beq k 74) (some (.if_icmp .le 20)) (none)) (cond (Nat.blt k 78) (cond (Nat.beq k 77) (some (.iload_n 2)) (none)) (cond (Nat.beq k 78) (some (.iconst 2)) (none)))))) (cond (Nat.blt k 89) (cond (Nat.blt k 84) (cond (Nat.blt k 82) (cond (Nat.beq k 79) (some (.if_icmp .ne 10)) (none)) (cond (Nat.beq k 82) (some (.dload 5)) (none))) (cond (Nat.blt k 85) (cond (Nat.beq k 84) (some (.d2f)) (none)) (cond (Nat.blt k 86) (cond (Nat.beq k 85) (some (.f2d)) (none)) (cond (Nat.beq k 86) (some (.goto 21)) (none))))) (cond (Nat.blt k 94) (cond (Nat.blt k 91) (cond (Nat.beq k 89) (some (.dload 5)) (none)) (cond (Nat.beq k 91) (some (.goto 16)) (none))) (cond (Nat.blt k 95) (cond (Nat.beq k 94) (some (.iload_n 2)) (none)) (cond (Nat.blt k 96) (cond (Nat.beq k 95) (some (.iconst 2)) (none)) (cond (Nat.beq k 96) (some (.if_icmp .ne 9)) (none))))))) (cond (Nat.blt k 117) (cond (Nat.blt k 106) (cond (Nat.blt k 101) (cond (Nat.blt k 100) (cond (Nat.beq k 99) (some (.lload_n 3)) (none)) (cond (Nat.beq k 100) (some (.l2f)) (none))) (cond (Nat.blt k 102) (cond (Nat.beq k 101) (some (.f2d)) (none)) (cond (Nat.blt k 105) (cond (Nat.beq k 102) (some (.goto 5)) (none)) (cond (Nat.beq k 105) (some (.lload_n 3)) (none))))) (cond (Nat.blt k 109) (cond (Nat.blt k 107) (cond (Nat.beq k 106) (some (.l2d)) (none)) (cond (Nat.beq k 107) (some (.dstore 7)) (none))) (cond (Nat.blt k 111) (cond (Nat.beq k 109) (some (.dload 7)) (none)) (cond (Nat.blt k 114) (cond (Nat.beq k 111) (some (.invokestatic 180)) (none)) (cond (Nat.beq k 114) (some (.ifCond .eq 11)) (none)))))) (cond (Nat.blt k 126) (cond (Nat.blt k 119) (cond (Nat.blt k 118) (cond (Nat.beq k 117) (some (.aload_n 0)) (none)) (cond (Nat.beq k 118) (some (.iconst 3)) (none))) (cond (Nat.blt k 122) (cond (Nat.beq k 119) (some (.putfield 82)) (none)) (cond (Nat.blt k 125) (cond (Nat.beq k 122) (some (.goto 11)) (none)) (cond (Nat.beq k 125) (some (.aload_n 0)) (none))))) (cond (Nat.blt k 128) (cond (Nat.blt k 127) (cond (Nat.beq k 126) (some (.iload_n 2)) (none)) (cond (Nat.beq k 127) (some (.lconst 0)) (none))) (cond (Nat.blt k 130) (cond (Nat.beq k 128) (some (.dload 7)) (none)) (cond (Nat.blt k 133) (cond (Nat.beq k 130) (some (.invokevirtual 172)) (none)) (cond (Nat.beq k 133) (some (.return_)) (none))))))))
def fmD_convert : fm_Me := (⟨"FlatModuleModel", "convert", "(II)V"⟩, prog_9_method_30_code, 9, none, 6, fm_f6, fm_cut 134 fmD_convert_i)
theorem fmD_convert_dc : fm_dc prog_9_method_30_code (fm_cut 134 fmD_convert_i) := fm_dc_of (by decide +kernel)
theorem fmD_convert_o : fm_mok fmD_convert := ⟨⟨fm_f6_o, fmD_convert_dc⟩, fm_tb (List.mem_of_getElem? (i := 855) (by decide +kernel)) rfl, fm_tb (List.mem_of_getElem? (i := 7) (by decide +kernel)) rfl, rfl, by decide +kernel, by decide⟩
def fmD_endOf_i (k : Nat) : Option Instr := cond (Nat.blt k 38) (cond (Nat.blt k 16) (cond (Nat.blt k 6) (cond (Nat.blt k 3) (cond (Nat.blt k 1) (cond (Nat.beq k 0) (some (.iconst 0)) (none)) (cond (Nat.beq k 1) (some (.istore 4)) (none))) (cond (Nat.blt k 4) (cond (Nat.beq k 3) (some (.iload_n 2)) (none)) (cond (Nat.blt k 5) (cond (Nat.beq k 4) (some (.iconst 1)) (none)) (cond (Nat.beq k 5) (some (.iadd)) (none))))) (cond (Nat.blt k 11) (cond (Nat.blt k 8) (cond (Nat.beq k 6) (some (.istore 5)) (none)) (cond (Nat.blt k 10) (cond (Nat.beq k 8) (some (.iload 5)) (none)) (cond (Nat.beq k 10) (some (.aload_n 0)) (none)))) (cond (Nat.blt k 14) (cond (Nat.beq k 11) (some (.getfield 16)) (none)) (cond (Nat.blt k 15) (cond (Nat.beq k 14) (some (.iload_n 1)) (none)) (cond (Nat.beq k 15) (some (.iaload)) (none)))))) (cond (Nat.blt k 27) (cond (Nat.blt k 23) (cond (Nat.blt k 19) (cond (Nat.beq k 16) (some (.if_icmp .ge 74)) (none)) (cond (Nat.blt k 20) (cond (Nat.beq k 19) (some (.aload_n 0)) (none)) (cond (Nat.beq k 20) (some (.getfield 7)) (none)))) (cond (Nat.blt k 24) (cond (Nat.beq k 23) (some (.iload_n 1)) (none)) (cond (Nat.blt k 26) (cond (Nat.beq k 24) (some (.bipush 40)) (none)) (cond (Nat.beq k 26) (some (.imul)) (none))))) (cond (Nat.blt k 31) (cond (Nat.blt k 29) (cond (Nat.beq k 27) (some (.iload 5)) (none)) (cond (Nat.blt k 30) (cond (Nat.beq k 29) (some (.iadd)) (none)) (cond (Nat.beq k 30) (some (.iaload)) (none)))) (cond (Nat.blt k 33) (cond (Nat.beq k 31) (some (.istore 6)) (none)) (cond (Nat.blt k 35) (cond (Nat.beq k 33) (some (.iload 4)) (none)) (cond (Nat.beq k 35) (some (.ifCond .ne 24)) (none))))))) (cond (Nat.blt k 63) (cond (Nat.blt k 52) (cond (Nat.blt k 45) (cond (Nat.blt k 40) (cond (Nat.beq k 38) (some (.iload 6)) (none)) (cond (Nat.blt k 42) (cond (Nat.beq k 40) (some (.bipush 25)) (none)) (cond (Nat.beq k 42) (some (.if_icmp .eq 14)) (none)))) (cond (Nat.blt k 47) (cond (Nat.beq k 45) (some (.iload 6)) (none)) (cond (Nat.blt k 49) (cond (Nat.beq k 47) (some (.bipush 24)) (none)) (cond (Nat.beq k 49) (some (.if_icmp .ne 10)) (none))))) (cond (Nat.blt k 58) (cond (Nat.blt k 53) (cond (Nat.beq k 52) (some (.iload_n 3)) (none)) (cond (Nat.blt k 56) (cond (Nat.beq k 53) (some (.ifCond .eq 6)) (none)) (cond (Nat.beq k 56) (some (.iload 5)) (none)))) (cond (Nat.blt k 59) (cond (Nat.beq k 58) (some (.ireturn)) (none)) (cond (Nat.blt k 61) (cond (Nat.beq k 59) (some (.iload 6)) (none)) (cond (Nat.beq k 61) (some (.bipush 21)) (none)))))) (cond (Nat.blt k 78) (cond (Nat.blt k 71) (cond (Nat.blt k 65) (cond (Nat.beq k 63) (some (.bipush 23)) (none)) (cond (Nat.blt k 68) (cond (Nat.beq k 65) (some (.invokestatic 86)) (none)) (cond (Nat.beq k 68) (some (.ifCond .eq 6)) (none)))) (cond (Nat.blt k 74) (cond (Nat.beq k 71) (some (.iinc 4 1)) (none)) (cond (Nat.blt k 76) (cond (Nat.beq k 74) (some (.iload 6)) (none)) (cond (Nat.beq k 76) (some (.bipush 25)) (none))))) (cond (Nat.blt k 87) (cond (Nat.blt k 81) (cond (Nat.beq k 78) (some (.if_icmp .ne 6)) (none)) (cond (Nat.blt k 84) (cond (Nat.beq k 81) (some (.iinc 4 (-1))) (none)) (cond (Nat.beq k 84) (some (.iinc 5 1)) (none)))) (cond (Nat.blt k 90) (cond (Nat.beq k 87) (some (.goto (-79))) (none)) (cond (Nat.blt k 92) (cond (Nat.beq k 90) (some (.iload 5)) (none)) (cond (Nat.beq k 92) (some (.ireturn)) (none)))))))
def fmD_endOf : fm_Me := (⟨"FlatModuleModel", "endOf", "(IIZ)I"⟩, prog_9_method_31_code, 7, some .int, 6, fm_f6, fm_cut 93 fmD_endOf_i)
theorem fmD_endOf_dc : fm_dc prog_9_method_31_code (fm_cut 93 fmD_endOf_i) := fm_dc_of (by decide +kernel)
theorem fmD_endOf_o : fm_mok fmD_endOf := ⟨⟨fm_f6_o, fmD_endOf_dc⟩, fm_tb (List.mem_of_getElem? (i := 868) (by decide +kernel)) rfl, fm_tb (List.mem_of_getElem? (i := 7) (by decide +kernel)) rfl, rfl, by decide +kernel, by decide⟩
def fmD_openFrame_i (k : Nat) : Option Instr := cond (Nat.blt k 18) (cond (Nat.blt k 9) (cond (Nat.blt k 4) (cond (Nat.blt k 1) (cond (Nat.beq k 0) (some (.aload_n 0)) (none)) (cond (Nat.beq k 1) (some (.getfield 73)) (none))) (cond (Nat.blt k 5) (cond (Nat.beq k 4) (some (.aload_n 0)) (none)) (cond (Nat.blt k 8) (cond (Nat.beq k 5) (some (.getfield 184)) (none)) (cond (Nat.beq k 8) (some (.iload_n 1)) (none))))) (cond (Nat.blt k 11) (cond (Nat.blt k 10) (cond (Nat.beq k 9) (some (.iastore)) (none)) (cond (Nat.beq k 10) (some (.aload_n 0)) (none))) (cond (Nat.blt k 14) (cond (Nat.beq k 11) (some (.getfield 76)) (none)) (cond (Nat.blt k 15) (cond (Nat.beq k 14) (some (.aload_n 0)) (none)) (cond (Nat.beq k 15) (some (.getfield 184)) (none)))))) (cond (Nat.blt k 25) (cond (Nat.blt k 22) (cond (Nat.blt k 19) (cond (Nat.beq k 18) (some (.aload_n 0)) (none)) (cond (Nat.beq k 19) (some (.getfield 161)) (none))) (cond (Nat.blt k 23) (cond (Nat.beq k 22) (some (.iastore)) (none)) (cond (Nat.blt k 24) (cond (Nat.beq k 23) (some (.aload_n 0)) (none)) (cond (Nat.beq k 24) (some (.dup)) (none))))) (cond (Nat.blt k 29) (cond (Nat.blt k 28) (cond (Nat.beq k 25) (some (.getfield 184)) (none)) (cond (Nat.beq k 28) (some (.iconst 1)) (none))) (cond (Nat.blt k 30) (cond (Nat.beq k 29) (some (.iadd)) (none)) (cond (Nat.blt k 33) (cond (Nat.beq k 30) (some (.putfield 184)) (none)) (cond (Nat.beq k 33) (some (.return_)) (none))))))
def fmD_openFrame : fm_Me := (⟨"FlatModuleModel", "openFrame", "(I)V"⟩, prog_9_method_32_code, 2, none, 6, fm_f6, fm_cut 34 fmD_openFrame_i)
theorem fmD_openFrame_dc : fm_dc prog_9_method_32_code (fm_cut 34 fmD_openFrame_i) := fm_dc_of (by decide +kernel)
theorem fmD_openFrame_o : fm_mok fmD_openFrame := ⟨⟨fm_f6_o, fmD_openFrame_dc⟩, fm_tb (List.mem_of_getElem? (i := 864) (by decide +kernel)) rfl, fm_tb (List.mem_of_getElem? (i := 7) (by decide +kernel)) rfl, rfl, by decide +kernel, by decide⟩
def fmD_keep_i (k : Nat) : Option Instr := cond (Nat.blt k 27) (cond (Nat.blt k 14) (cond (Nat.blt k 8) (cond (Nat.blt k 4) (cond (Nat.blt k 1) (cond (Nat.beq k 0) (some (.iload_n 1)) (none)) (cond (Nat.beq k 1) (some (.ifCond .eq 37)) (none))) (cond (Nat.blt k 5) (cond (Nat.beq k 4) (some (.aload_n 0)) (none)) (cond (Nat.beq k 5) (some (.getfield 58)) (none)))) (cond (Nat.blt k 10) (cond (Nat.blt k 9) (cond (Nat.beq k 8) (some (.iload_n 2)) (none)) (cond (Nat.beq k 9) (some (.aload_n 0)) (none))) (cond (Nat.blt k 13) (cond (Nat.beq k 10) (some (.getfield 58)) (none)) (cond (Nat.beq k 13) (some (.aload_n 0)) (none))))) (cond (Nat.blt k 20) (cond (Nat.blt k 18) (cond (Nat.blt k 17) (cond (Nat.beq k 14) (some (.getfield 161)) (none)) (cond (Nat.beq k 17) (some (.iconst 1)) (none))) (cond (Nat.blt k 19) (cond (Nat.beq k 18) (some (.isub)) (none)) (cond (Nat.beq k 19) (some (.laload)) (none)))) (cond (Nat.blt k 22) (cond (Nat.blt k 21) (cond (Nat.beq k 20) (some (.lastore)) (none)) (cond (Nat.beq k 21) (some (.aload_n 0)) (none))) (cond (Nat.blt k 25) (cond (Nat.beq k 22) (some (.getfield 61)) (none)) (cond (Nat.blt k 26) (cond (Nat.beq k 25) (some (.iload_n 2)) (none)) (cond (Nat.beq k 26) (some (.aload_n 0)) (none))))))) (cond (Nat.blt k 39) (cond (Nat.blt k 35) (cond (Nat.blt k 31) (cond (Nat.blt k 30) (cond (Nat.beq k 27) (some (.getfield 61)) (none)) (cond (Nat.beq k 30) (some (.aload_n 0)) (none))) (cond (Nat.blt k 34) (cond (Nat.beq k 31) (some (.getfield 161)) (none)) (cond (Nat.beq k 34) (some (.iconst 1)) (none)))) (cond (Nat.blt k 37) (cond (Nat.blt k 36) (cond (Nat.beq k 35) (some (.isub)) (none)) (cond (Nat.beq k 36) (some (.daload)) (none))) (cond (Nat.blt k 38) (cond (Nat.beq k 37) (some (.dastore)) (none)) (cond (Nat.beq k 38) (some (.aload_n 0)) (none))))) (cond (Nat.blt k 45) (cond (Nat.blt k 41) (cond (Nat.blt k 40) (cond (Nat.beq k 39) (some (.iload_n 2)) (none)) (cond (Nat.beq k 40) (some (.iload_n 1)) (none))) (cond (Nat.blt k 44) (cond (Nat.beq k 41) (some (.ifCond .eq 7)) (none)) (cond (Nat.beq k 44) (some (.iconst 1)) (none)))) (cond (Nat.blt k 49) (cond (Nat.blt k 48) (cond (Nat.beq k 45) (some (.goto 4)) (none)) (cond (Nat.beq k 48) (some (.iconst 0)) (none))) (cond (Nat.blt k 50) (cond (Nat.beq k 49) (some (.iadd)) (none)) (cond (Nat.blt k 53) (cond (Nat.beq k 50) (some (.putfield 161)) (none)) (cond (Nat.beq k 53) (some (.return_)) (none)))))))
def fmD_keep : fm_Me := (⟨"FlatModuleModel", "keep", "(ZI)V"⟩, prog_9_method_33_code, 3, none, 6, fm_f6, fm_cut 54 fmD_keep_i)
theorem fmD_keep_dc : fm_dc prog_9_method_33_code (fm_cut 54 fmD_keep_i) := fm_dc_of (by decide +kernel)
theorem fmD_keep_o : fm_mok fmD_keep := ⟨⟨fm_f6_o, fmD_keep_dc⟩, fm_tb (List.mem_of_getElem? (i := 841) (by decide +kernel)) rfl, fm_tb (List.mem_of_getElem? (i := 7) (by decide +kernel)) rfl, rfl, by decide +kernel, by decide⟩
def fmD_leave_i (k : Nat) : Option Instr := cond (Nat.blt k 28) (cond (Nat.blt k 15) (cond (Nat.blt k 6) (cond (Nat.blt k 4) (cond (Nat.blt k 1) (cond (Nat.beq k 0) (some (.aload_n 0)) (none)) (cond (Nat.beq k 1) (some (.getfield 28)) (none))) (cond (Nat.blt k 5) (cond (Nat.beq k 4) (some (.iload_n 1)) (none)) (cond (Nat.beq k 5) (some (.iaload)) (none)))) (cond (Nat.blt k 10) (cond (Nat.blt k 7) (cond (Nat.beq k 6) (some (.iconst 4)) (none)) (cond (Nat.beq k 7) (some (.if_icmp .eq 7)) (none))) (cond (Nat.blt k 11) (cond (Nat.beq k 10) (some (.iconst 1)) (none)) (cond (Nat.blt k 14) (cond (Nat.beq k 11) (some (.goto 4)) (none)) (cond (Nat.beq k 14) (some (.iconst 0)) (none)))))) (cond (Nat.blt k 19) (cond (Nat.blt k 17) (cond (Nat.blt k 16) (cond (Nat.beq k 15) (some (.istore_n 2)) (none)) (cond (Nat.beq k 16) (some (.aload_n 0)) (none))) (cond (Nat.blt k 18) (cond (Nat.beq k 17) (some (.iload_n 2)) (none)) (cond (Nat.beq k 18) (some (.aload_n 0)) (none)))) (cond (Nat.blt k 23) (cond (Nat.blt k 22) (cond (Nat.beq k 19) (some (.getfield 70)) (none)) (cond (Nat.beq k 22) (some (.aload_n 0)) (none))) (cond (Nat.blt k 26) (cond (Nat.beq k 23) (some (.getfield 187)) (none)) (cond (Nat.blt k 27) (cond (Nat.beq k 26) (some (.iconst 1)) (none)) (cond (Nat.beq k 27) (some (.isub)) (none))))))) (cond (Nat.blt k 43) (cond (Nat.blt k 34) (cond (Nat.blt k 32) (cond (Nat.blt k 29) (cond (Nat.beq k 28) (some (.iaload)) (none)) (cond (Nat.beq k 29) (some (.invokevirtual 190)) (none))) (cond (Nat.blt k 33) (cond (Nat.beq k 32) (some (.aload_n 0)) (none)) (cond (Nat.beq k 33) (some (.aload_n 0)) (none)))) (cond (Nat.blt k 38) (cond (Nat.blt k 37) (cond (Nat.beq k 34) (some (.getfield 79)) (none)) (cond (Nat.beq k 37) (some (.aload_n 0)) (none))) (cond (Nat.blt k 41) (cond (Nat.beq k 38) (some (.getfield 187)) (none)) (cond (Nat.blt k 42) (cond (Nat.beq k 41) (some (.iconst 1)) (none)) (cond (Nat.beq k 42) (some (.isub)) (none)))))) (cond (Nat.blt k 49) (cond (Nat.blt k 47) (cond (Nat.blt k 44) (cond (Nat.beq k 43) (some (.iaload)) (none)) (cond (Nat.beq k 44) (some (.putfield 184)) (none))) (cond (Nat.blt k 48) (cond (Nat.beq k 47) (some (.aload_n 0)) (none)) (cond (Nat.beq k 48) (some (.dup)) (none)))) (cond (Nat.blt k 53) (cond (Nat.blt k 52) (cond (Nat.beq k 49) (some (.getfield 187)) (none)) (cond (Nat.beq k 52) (some (.iconst 1)) (none))) (cond (Nat.blt k 54) (cond (Nat.beq k 53) (some (.isub)) (none)) (cond (Nat.blt k 57) (cond (Nat.beq k 54) (some (.putfield 187)) (none)) (cond (Nat.beq k 57) (some (.return_)) (none)))))))
def fmD_leave : fm_Me := (⟨"FlatModuleModel", "leave", "(I)V"⟩, prog_9_method_34_code, 3, none, 6, fm_f6, fm_cut 58 fmD_leave_i)
theorem fmD_leave_dc : fm_dc prog_9_method_34_code (fm_cut 58 fmD_leave_i) := fm_dc_of (by decide +kernel)
theorem fmD_leave_o : fm_mok fmD_leave := ⟨⟨fm_f6_o, fmD_leave_dc⟩, fm_tb (List.mem_of_getElem? (i := 837) (by decide +kernel)) rfl, fm_tb (List.mem_of_getElem? (i := 7) (by decide +kernel)) rfl, rfl, by decide +kernel, by decide⟩
def fmD_jumpTo_i (k : Nat) : Option Instr := cond (Nat.blt k 80) (cond (Nat.blt k 39) (cond (Nat.blt k 18) (cond (Nat.blt k 8) (cond (Nat.blt k 5) (cond (Nat.blt k 1) (cond (Nat.beq k 0) (some (.aload_n 0)) (none)) (cond (Nat.blt k 4) (cond (Nat.beq k 1) (some (.getfield 187)) (none)) (cond (Nat.beq k 4) (some (.iconst 1)) (none)))) (cond (Nat.blt k 6) (cond (Nat.beq k 5) (some (.isub)) (none)) (cond (Nat.blt k 7) (cond (Nat.beq k 6) (some (.istore_n 3)) (none)) (cond (Nat.beq k 7) (some (.iload_n 2)) (none))))) (cond (Nat.blt k 13) (cond (Nat.blt k 9) (cond (Nat.beq k 8) (some (.aload_n 0)) (none)) (cond (Nat.blt k 12) (cond (Nat.beq k 9) (some (.getfield 184)) (none)) (cond (Nat.beq k 12) (some (.aload_n 0)) (none)))) (cond (Nat.blt k 16) (cond (Nat.beq k 13) (some (.getfield 79)) (none)) (cond (Nat.blt k 17) (cond (Nat.beq k 16) (some (.iload_n 3)) (none)) (cond (Nat.beq k 17) (some (.iaload)) (none)))))) (cond (Nat.blt k 28) (cond (Nat.blt k 23) (cond (Nat.blt k 19) (cond (Nat.beq k 18) (some (.isub)) (none)) (cond (Nat.blt k 22) (cond (Nat.beq k 19) (some (.if_icmp .ne 16)) (none)) (cond (Nat.beq k 22) (some (.aload_n 0)) (none)))) (cond (Nat.blt k 26) (cond (Nat.beq k 23) (some (.getfield 67)) (none)) (cond (Nat.blt k 27) (cond (Nat.beq k 26) (some (.iload_n 3)) (none)) (cond (Nat.beq k 27) (some (.aload_n 0)) (none))))) (cond (Nat.blt k 33) (cond (Nat.blt k 31) (cond (Nat.beq k 28) (some (.getfield 16)) (none)) (cond (Nat.blt k 32) (cond (Nat.beq k 31) (some (.iload_n 1)) (none)) (cond (Nat.beq k 32) (some (.iaload)) (none)))) (cond (Nat.blt k 35) (cond (Nat.blt k 34) (cond (Nat.beq k 33) (some (.iastore)) (none)) (cond (Nat.beq k 34) (some (.return_)) (none))) (cond (Nat.blt k 36) (cond (Nat.beq k 35) (some (.aload_n 0)) (none)) (cond (Nat.beq k 36) (some (.getfield 184)) (none))))))) (cond (Nat.blt k 58) (cond (Nat.blt k 46) (cond (Nat.blt k 42) (cond (Nat.blt k 40) (cond (Nat.beq k 39) (some (.iconst 1)) (none)) (cond (Nat.blt k 41) (cond (Nat.beq k 40) (some (.isub)) (none)) (cond (Nat.beq k 41) (some (.iload_n 2)) (none)))) (cond (Nat.blt k 43) (cond (Nat.beq k 42) (some (.isub)) (none)) (cond (Nat.blt k 45) (cond (Nat.beq k 43) (some (.istore 4)) (none)) (cond (Nat.beq k 45) (some (.aload_n 0)) (none))))) (cond (Nat.blt k 52) (cond (Nat.blt k 49) (cond (Nat.beq k 46) (some (.getfield 73)) (none)) (cond (Nat.blt k 51) (cond (Nat.beq k 49) (some (.iload 4)) (none)) (cond (Nat.beq k 51) (some (.iaload)) (none)))) (cond (Nat.blt k 54) (cond (Nat.beq k 52) (some (.istore 5)) (none)) (cond (Nat.blt k 55) (cond (Nat.beq k 54) (some (.aload_n 0)) (none)) (cond (Nat.beq k 55) (some (.getfield 7)) (none)))))) (cond (Nat.blt k 66) (cond (Nat.blt k 62) (cond (Nat.blt k 59) (cond (Nat.beq k 58) (some (.iload_n 1)) (none)) (cond (Nat.blt k 61) (cond (Nat.beq k 59) (some (.bipush 40)) (none)) (cond (Nat.beq k 61) (some (.imul)) (none)))) (cond (Nat.blt k 64) (cond (Nat.beq k 62) (some (.iload 5)) (none)) (cond (Nat.blt k 65) (cond (Nat.beq k 64) (some (.iadd)) (none)) (cond (Nat.beq k 65) (some (.iaload)) (none))))) (cond (Nat.blt k 72) (cond (Nat.blt k 68) (cond (Nat.beq k 66) (some (.istore 6)) (none)) (cond (Nat.blt k 70) (cond (Nat.beq k 68) (some (.iload 6)) (none)) (cond (Nat.beq k 70) (some (.bipush 22)) (none)))) (cond (Nat.blt k 76) (cond (Nat.blt k 75) (cond (Nat.beq k 72) (some (.if_icmp .ne 33)) (none)) (cond (Nat.beq k 75) (some (.aload_n 0)) (none))) (cond (Nat.blt k 77) (cond (Nat.beq k 76) (some (.aload_n 0)) (none)) (cond (Nat.beq k 77) (some (.getfield 76)) (none)))))))) (cond (Nat.blt k 118) (cond (Nat.blt k 101) (cond (Nat.blt k 90) (cond (Nat.blt k 86) (cond (Nat.blt k 82) (cond (Nat.beq k 80) (some (.iload 4)) (none)) (cond (Nat.blt k 83) (cond (Nat.beq k 82) (some (.iaload)) (none)) (cond (Nat.beq k 83) (some (.putfield 161)) (none)))) (cond (Nat.blt k 87) (cond (Nat.beq k 86) (some (.aload_n 0)) (none)) (cond (Nat.blt k 89) (cond (Nat.beq k 87) (some (.iload 4)) (none)) (cond (Nat.beq k 89) (some (.iconst 1)) (none))))) (cond (Nat.blt k 95) (cond (Nat.blt k 91) (cond (Nat.beq k 90) (some (.iadd)) (none)) (cond (Nat.blt k 94) (cond (Nat.beq k 91) (some (.putfield 184)) (none)) (cond (Nat.beq k 94) (some (.aload_n 0)) (none)))) (cond (Nat.blt k 98) (cond (Nat.beq k 95) (some (.getfield 67)) (none)) (cond (Nat.blt k 99) (cond (Nat.beq k 98) (some (.iload_n 3)) (none)) (cond (Nat.beq k 99) (some (.iload 5)) (none)))))) (cond (Nat.blt k 107) (cond (Nat.blt k 104) (cond (Nat.blt k 102) (cond (Nat.beq k 101) (some (.iconst 1)) (none)) (cond (Nat.blt k 103) (cond (Nat.beq k 102) (some (.iadd)) (none)) (cond (Nat.beq k 103) (some (.iastore)) (none)))) (cond (Nat.blt k 105) (cond (Nat.beq k 104) (some (.return_)) (none)) (cond (Nat.blt k 106) (cond (Nat.beq k 105) (some (.aload_n 0)) (none)) (cond (Nat.beq k 106) (some (.aload_n 0)) (none))))) (cond (Nat.blt k 113) (cond (Nat.blt k 110) (cond (Nat.beq k 107) (some (.getfield 13)) (none)) (cond (Nat.blt k 111) (cond (Nat.beq k 110) (some (.iload_n 1)) (none)) (cond (Nat.beq k 111) (some (.bipush 40)) (none)))) (cond (Nat.blt k 116) (cond (Nat.blt k 114) (cond (Nat.beq k 113) (some (.imul)) (none)) (cond (Nat.beq k 114) (some (.iload 5)) (none))) (cond (Nat.blt k 117) (cond (Nat.beq k 116) (some (.iadd)) (none)) (cond (Nat.beq k 117) (some (.iaload)) (none))))))) (cond (Nat.blt k 140) (cond (Nat.blt k 128) (cond (Nat.blt k 123) (cond (Nat.blt k 119) (cond (Nat.beq k 118) (some (.iconst 4)) (none)) (cond (Nat.blt k 122) (cond (Nat.beq k 119) (some (.if_icmp .eq 7)) (none)) (cond (Nat.beq k 122) (some (.iconst 1)) (none)))) (cond (Nat.blt k 126) (cond (Nat.beq k 123) (some (.goto 4)) (none)) (cond (Nat.blt k 127) (cond (Nat.beq k 126) (some (.iconst 0)) (none)) (cond (Nat.beq k 127) (some (.aload_n 0)) (none))))) (cond (Nat.blt k 134) (cond (Nat.blt k 131) (cond (Nat.beq k 128) (some (.getfield 76)) (none)) (cond (Nat.blt k 133) (cond (Nat.beq k 131) (some (.iload 4)) (none)) (cond (Nat.beq k 133) (some (.iaload)) (none)))) (cond (Nat.blt k 137) (cond (Nat.beq k 134) (some (.invokevirtual 190)) (none)) (cond (Nat.blt k 138) (cond (Nat.beq k 137) (some (.aload_n 0)) (none)) (cond (Nat.beq k 138) (some (.iload 4)) (none)))))) (cond (Nat.blt k 150) (cond (Nat.blt k 147) (cond (Nat.blt k 143) (cond (Nat.beq k 140) (some (.putfield 184)) (none)) (cond (Nat.blt k 144) (cond (Nat.beq k 143) (some (.aload_n 0)) (none)) (cond (Nat.beq k 144) (some (.getfield 67)) (none)))) (cond (Nat.blt k 148) (cond (Nat.beq k 147) (some (.iload_n 3)) (none)) (cond (Nat.blt k 149) (cond (Nat.beq k 148) (some (.aload_n 0)) (none)) (cond (Nat.beq k 149) (some (.iload_n 1)) (none))))) (cond (Nat.blt k 156) (cond (Nat.blt k 152) (cond (Nat.beq k 150) (some (.iload 5)) (none)) (cond (Nat.blt k 153) (cond (Nat.beq k 152) (some (.iconst 0)) (none)) (cond (Nat.beq k 153) (some (.invokevirtual 194)) (none)))) (cond (Nat.blt k 158) (cond (Nat.blt k 157) (cond (Nat.beq k 156) (some (.iconst 1)) (none)) (cond (Nat.beq k 157) (some (.iadd)) (none))) (cond (Nat.blt k 159) (cond (Nat.beq k 158) (some (.iastore)) (none)) (cond (Nat.beq k 159) (some (.return_)) (none))))))))
def fmD_jumpTo : fm_Me := (⟨"FlatModuleModel", "jumpTo", "(II)V"⟩, prog_9_method_35_code, 7, none, 6, fm_f6, fm_cut 160 fmD_jumpTo_i)
theorem fmD_jumpTo_dc : fm_dc prog_9_method_35_code (fm_cut 160 fmD_jumpTo_i) := fm_dc_of (by decide +kernel)
theorem fmD_jumpTo_o : fm_mok fmD_jumpTo := ⟨⟨fm_f6_o, fmD_jumpTo_dc⟩, fm_tb (List.mem_of_getElem? (i := 872) (by decide +kernel)) rfl, fm_tb (List.mem_of_getElem? (i := 7) (by decide +kernel)) rfl, rfl, by decide +kernel, by decide⟩
def fmD_enter_i (k : Nat) : Option Instr := cond (Nat.blt k 66) (cond (Nat.blt k 32) (cond (Nat.blt k 16) (cond (Nat.blt k 9) (cond (Nat.blt k 4) (cond (Nat.blt k 1) (cond (Nat.beq k 0) (some (.aload_n 0)) (none)) (cond (Nat.beq k 1) (some (.getfield 187)) (none))) (cond (Nat.blt k 6) (cond (Nat.beq k 4) (some (.bipush 8)) (none)) (cond (Nat.beq k 6) (some (.if_icmp .ne 9)) (none)))) (cond (Nat.blt k 11) (cond (Nat.blt k 10) (cond (Nat.beq k 9) (some (.aload_n 0)) (none)) (cond (Nat.beq k 10) (some (.iconst 2)) (none))) (cond (Nat.blt k 14) (cond (Nat.beq k 11) (some (.putfield 82)) (none)) (cond (Nat.blt k 15) (cond (Nat.beq k 14) (some (.return_)) (none)) (cond (Nat.beq k 15) (some (.aload_n 0)) (none)))))) (cond (Nat.blt k 23) (cond (Nat.blt k 20) (cond (Nat.blt k 19) (cond (Nat.beq k 16) (some (.getfield 19)) (none)) (cond (Nat.beq k 19) (some (.iload_n 1)) (none))) (cond (Nat.blt k 21) (cond (Nat.beq k 20) (some (.iaload)) (none)) (cond (Nat.blt k 22) (cond (Nat.beq k 21) (some (.istore_n 2)) (none)) (cond (Nat.beq k 22) (some (.aload_n 0)) (none))))) (cond (Nat.blt k 27) (cond (Nat.blt k 26) (cond (Nat.beq k 23) (some (.getfield 64)) (none)) (cond (Nat.beq k 26) (some (.aload_n 0)) (none))) (cond (Nat.blt k 30) (cond (Nat.beq k 27) (some (.getfield 187)) (none)) (cond (Nat.blt k 31) (cond (Nat.beq k 30) (some (.iload_n 1)) (none)) (cond (Nat.beq k 31) (some (.iastore)) (none))))))) (cond (Nat.blt k 50) (cond (Nat.blt k 41) (cond (Nat.blt k 36) (cond (Nat.blt k 33) (cond (Nat.beq k 32) (some (.aload_n 0)) (none)) (cond (Nat.beq k 33) (some (.getfield 67)) (none))) (cond (Nat.blt k 37) (cond (Nat.beq k 36) (some (.aload_n 0)) (none)) (cond (Nat.blt k 40) (cond (Nat.beq k 37) (some (.getfield 187)) (none)) (cond (Nat.beq k 40) (some (.iconst 0)) (none))))) (cond (Nat.blt k 43) (cond (Nat.blt k 42) (cond (Nat.beq k 41) (some (.iastore)) (none)) (cond (Nat.beq k 42) (some (.aload_n 0)) (none))) (cond (Nat.blt k 46) (cond (Nat.beq k 43) (some (.getfield 70)) (none)) (cond (Nat.blt k 47) (cond (Nat.beq k 46) (some (.aload_n 0)) (none)) (cond (Nat.beq k 47) (some (.getfield 187)) (none)))))) (cond (Nat.blt k 57) (cond (Nat.blt k 54) (cond (Nat.blt k 51) (cond (Nat.beq k 50) (some (.aload_n 0)) (none)) (cond (Nat.beq k 51) (some (.getfield 161)) (none))) (cond (Nat.blt k 55) (cond (Nat.beq k 54) (some (.iload_n 2)) (none)) (cond (Nat.blt k 56) (cond (Nat.beq k 55) (some (.isub)) (none)) (cond (Nat.beq k 56) (some (.iastore)) (none))))) (cond (Nat.blt k 61) (cond (Nat.blt k 58) (cond (Nat.beq k 57) (some (.aload_n 0)) (none)) (cond (Nat.beq k 58) (some (.getfield 79)) (none))) (cond (Nat.blt k 62) (cond (Nat.beq k 61) (some (.aload_n 0)) (none)) (cond (Nat.blt k 65) (cond (Nat.beq k 62) (some (.getfield 187)) (none)) (cond (Nat.beq k 65) (some (.aload_n 0)) (none)))))))) (cond (Nat.blt k 102) (cond (Nat.blt k 84) (cond (Nat.blt k 75) (cond (Nat.blt k 70) (cond (Nat.blt k 69) (cond (Nat.beq k 66) (some (.getfield 184)) (none)) (cond (Nat.beq k 69) (some (.iastore)) (none))) (cond (Nat.blt k 71) (cond (Nat.beq k 70) (some (.aload_n 0)) (none)) (cond (Nat.blt k 72) (cond (Nat.beq k 71) (some (.dup)) (none)) (cond (Nat.beq k 72) (some (.getfield 187)) (none))))) (cond (Nat.blt k 77) (cond (Nat.blt k 76) (cond (Nat.beq k 75) (some (.iconst 1)) (none)) (cond (Nat.beq k 76) (some (.iadd)) (none))) (cond (Nat.blt k 80) (cond (Nat.beq k 77) (some (.putfield 187)) (none)) (cond (Nat.blt k 81) (cond (Nat.beq k 80) (some (.aload_n 0)) (none)) (cond (Nat.beq k 81) (some (.getfield 187)) (none)))))) (cond (Nat.blt k 93) (cond (Nat.blt k 88) (cond (Nat.blt k 85) (cond (Nat.beq k 84) (some (.aload_n 0)) (none)) (cond (Nat.beq k 85) (some (.getfield 198)) (none))) (cond (Nat.blt k 91) (cond (Nat.beq k 88) (some (.if_icmp .le 11)) (none)) (cond (Nat.blt k 92) (cond (Nat.beq k 91) (some (.aload_n 0)) (none)) (cond (Nat.beq k 92) (some (.aload_n 0)) (none))))) (cond (Nat.blt k 99) (cond (Nat.blt k 96) (cond (Nat.beq k 93) (some (.getfield 187)) (none)) (cond (Nat.beq k 96) (some (.putfield 198)) (none))) (cond (Nat.blt k 100) (cond (Nat.beq k 99) (some (.iload_n 2)) (none)) (cond (Nat.blt k 101) (cond (Nat.beq k 100) (some (.istore_n 3)) (none)) (cond (Nat.beq k 101) (some (.iload_n 3)) (none))))))) (cond (Nat.blt k 119) (cond (Nat.blt k 111) (cond (Nat.blt k 106) (cond (Nat.blt k 103) (cond (Nat.beq k 102) (some (.aload_n 0)) (none)) (cond (Nat.beq k 103) (some (.getfield 22)) (none))) (cond (Nat.blt k 107) (cond (Nat.beq k 106) (some (.iload_n 1)) (none)) (cond (Nat.blt k 108) (cond (Nat.beq k 107) (some (.iaload)) (none)) (cond (Nat.beq k 108) (some (.if_icmp .ge 26)) (none))))) (cond (Nat.blt k 113) (cond (Nat.blt k 112) (cond (Nat.beq k 111) (some (.aload_n 0)) (none)) (cond (Nat.beq k 112) (some (.aload_n 0)) (none))) (cond (Nat.blt k 116) (cond (Nat.beq k 113) (some (.getfield 25)) (none)) (cond (Nat.blt k 117) (cond (Nat.beq k 116) (some (.iload_n 1)) (none)) (cond (Nat.beq k 117) (some (.bipush 6)) (none)))))) (cond (Nat.blt k 124) (cond (Nat.blt k 121) (cond (Nat.blt k 120) (cond (Nat.beq k 119) (some (.imul)) (none)) (cond (Nat.beq k 120) (some (.iload_n 3)) (none))) (cond (Nat.blt k 122) (cond (Nat.beq k 121) (some (.iadd)) (none)) (cond (Nat.blt k 123) (cond (Nat.beq k 122) (some (.iaload)) (none)) (cond (Nat.beq k 123) (some (.lconst 0)) (none))))) (cond (Nat.blt k 128) (cond (Nat.blt k 125) (cond (Nat.beq k 124) (some (.dconst 0)) (none)) (cond (Nat.beq k 125) (some (.invokevirtual 172)) (none))) (cond (Nat.blt k 131) (cond (Nat.beq k 128) (some (.iinc 3 1)) (none)) (cond (Nat.blt k 134) (cond (Nat.beq k 131) (some (.goto (-30))) (none)) (cond (Nat.beq k 134) (some (.return_)) (none))))))))
def fmD_enter : fm_Me := (⟨"FlatModuleModel", "enter", "(I)V"⟩, prog_9_method_36_code, 4, none, 6, fm_f6, fm_cut 135 fmD_enter_i)
theorem fmD_enter_dc : fm_dc prog_9_method_36_code (fm_cut 135 fmD_enter_i) := fm_dc_of (by decide +kernel)
theorem fmD_enter_o : fm_mok fmD_enter := ⟨⟨fm_f6_o, fmD_enter_dc⟩, fm_tb (List.mem_of_getElem? (i := 829) (by decide +kernel)) rfl, fm_tb (List.mem_of_getElem? (i := 7) (by decide +kernel)) rfl, rfl, by decide +kernel, by decide⟩
def fmD_choice_i (k : Nat) : Option Instr := cond (Nat.blt k 39) (cond (Nat.blt k 19) (cond (Nat.blt k 7) (cond (Nat.blt k 2) (cond (Nat.blt k 1) (cond (Nat.beq k 0) (some (.aload_n 0)) (none)) (cond (Nat.beq k 1) (some (.dup)) (none))) (cond (Nat.blt k 5) (cond (Nat.beq k 2) (some (.getfield 161)) (none)) (cond (Nat.blt k 6) (cond (Nat.beq k 5) (some (.iconst 3)) (none)) (cond (Nat.beq k 6) (some (.isub)) (none))))) (cond (Nat.blt k 14) (cond (Nat.blt k 10) (cond (Nat.beq k 7) (some (.putfield 161)) (none)) (cond (Nat.blt k 11) (cond (Nat.beq k 10) (some (.aload_n 0)) (none)) (cond (Nat.beq k 11) (some (.getfield 58)) (none)))) (cond (Nat.blt k 15) (cond (Nat.beq k 14) (some (.aload_n 0)) (none)) (cond (Nat.blt k 18) (cond (Nat.beq k 15) (some (.getfield 161)) (none)) (cond (Nat.beq k 18) (some (.iconst 2)) (none)))))) (cond (Nat.blt k 27) (cond (Nat.blt k 22) (cond (Nat.blt k 20) (cond (Nat.beq k 19) (some (.iadd)) (none)) (cond (Nat.blt k 21) (cond (Nat.beq k 20) (some (.laload)) (none)) (cond (Nat.beq k 21) (some (.lconst 0)) (none)))) (cond (Nat.blt k 23) (cond (Nat.beq k 22) (some (.lcmp)) (none)) (cond (Nat.blt k 26) (cond (Nat.beq k 23) (some (.ifCond .ne 43)) (none)) (cond (Nat.beq k 26) (some (.aload_n 0)) (none))))) (cond (Nat.blt k 34) (cond (Nat.blt k 30) (cond (Nat.beq k 27) (some (.getfield 58)) (none)) (cond (Nat.blt k 31) (cond (Nat.beq k 30) (some (.aload_n 0)) (none)) (cond (Nat.beq k 31) (some (.getfield 161)) (none)))) (cond (Nat.blt k 35) (cond (Nat.beq k 34) (some (.aload_n 0)) (none)) (cond (Nat.blt k 38) (cond (Nat.beq k 35) (some (.getfield 58)) (none)) (cond (Nat.beq k 38) (some (.aload_n 0)) (none))))))) (cond (Nat.blt k 59) (cond (Nat.blt k 47) (cond (Nat.blt k 44) (cond (Nat.blt k 42) (cond (Nat.beq k 39) (some (.getfield 161)) (none)) (cond (Nat.blt k 43) (cond (Nat.beq k 42) (some (.iconst 1)) (none)) (cond (Nat.beq k 43) (some (.iadd)) (none)))) (cond (Nat.blt k 45) (cond (Nat.beq k 44) (some (.laload)) (none)) (cond (Nat.blt k 46) (cond (Nat.beq k 45) (some (.lastore)) (none)) (cond (Nat.beq k 46) (some (.aload_n 0)) (none))))) (cond (Nat.blt k 54) (cond (Nat.blt k 50) (cond (Nat.beq k 47) (some (.getfield 61)) (none)) (cond (Nat.blt k 51) (cond (Nat.beq k 50) (some (.aload_n 0)) (none)) (cond (Nat.beq k 51) (some (.getfield 161)) (none)))) (cond (Nat.blt k 55) (cond (Nat.beq k 54) (some (.aload_n 0)) (none)) (cond (Nat.blt k 58) (cond (Nat.beq k 55) (some (.getfield 61)) (none)) (cond (Nat.beq k 58) (some (.aload_n 0)) (none)))))) (cond (Nat.blt k 67) (cond (Nat.blt k 64) (cond (Nat.blt k 62) (cond (Nat.beq k 59) (some (.getfield 161)) (none)) (cond (Nat.blt k 63) (cond (Nat.beq k 62) (some (.iconst 1)) (none)) (cond (Nat.beq k 63) (some (.iadd)) (none)))) (cond (Nat.blt k 65) (cond (Nat.beq k 64) (some (.daload)) (none)) (cond (Nat.blt k 66) (cond (Nat.beq k 65) (some (.dastore)) (none)) (cond (Nat.beq k 66) (some (.aload_n 0)) (none))))) (cond (Nat.blt k 72) (cond (Nat.blt k 68) (cond (Nat.beq k 67) (some (.dup)) (none)) (cond (Nat.blt k 71) (cond (Nat.beq k 68) (some (.getfield 161)) (none)) (cond (Nat.beq k 71) (some (.iconst 1)) (none)))) (cond (Nat.blt k 73) (cond (Nat.beq k 72) (some (.iadd)) (none)) (cond (Nat.blt k 76) (cond (Nat.beq k 73) (some (.putfield 161)) (none)) (cond (Nat.beq k 76) (some (.return_)) (none)))))))
def fmD_choice : fm_Me := (⟨"FlatModuleModel", "choice", "()V"⟩, prog_9_method_37_code, 1, none, 6, fm_f6, fm_cut 77 fmD_choice_i)
theorem fmD_choice_dc : fm_dc prog_9_method_37_code (fm_cut 77 fmD_choice_i) := fm_dc_of (by decide +kernel)
theorem fmD_choice_o : fm_mok fmD_choice := ⟨⟨fm_f6_o, fmD_choice_dc⟩, fm_tb (List.mem_of_getElem? (i := 851) (by decide +kernel)) rfl, fm_tb (List.mem_of_getElem? (i := 7) (by decide +kernel)) rfl, rfl, by decide +kernel, by decide⟩
def fmD_perform_i (k : Nat) : Option Instr := cond (Nat.blt k 354) (cond (Nat.blt k 242) (cond (Nat.blt k 186) (cond (Nat.blt k 160) (cond (Nat.blt k 14) (cond (Nat.blt k 6) (cond (Nat.blt k 4) (cond (Nat.blt k 1) (cond (Nat.beq k 0) (some (.aload_n 0)) (none)) (cond (Nat.beq k 1) (some (.getfield 187)) (none))) (cond (Nat.blt k 5) (cond (Nat.beq k 4) (some (.iconst 1)) (none)) (cond (Nat.beq k 5) (some (.isub)) (none)))) (cond (Nat.blt k 9) (cond (Nat.blt k 8) (cond (Nat.beq k 6) (some (.istore 5)) (none)) (cond (Nat.beq k 8) (some (.aload_n 0)) (none))) (cond (Nat.blt k 12) (cond (Nat.beq k 9) (some (.getfield 70)) (none)) (cond (Nat.beq k 12) (some (.iload 5)) (none))))) (cond (Nat.blt k 156) (cond (Nat.blt k 17) (cond (Nat.blt k 15) (cond (Nat.beq k 14) (some (.iaload)) (none)) (cond (Nat.beq k 15) (some (.istore 6)) (none))) (cond (Nat.blt k 18) (cond (Nat.beq k 17) (some (.iload_n 2)) (none)) (cond (Nat.beq k 18) (some (.tableswitch 569 0 30 #[138, 138, 149, 164, 179, 215, 215, 271, 291, 334, 347, 569, 569, 569, 569, 569, 569, 569, 569, 569, 354, 367, 367, 376, 460, 490, 503, 512, 545, 553, 561])) (none)))) (cond (Nat.blt k 158) (cond (Nat.blt k 157) (cond (Nat.beq k 156) (some (.aload_n 0)) (none)) (cond (Nat.beq k 157) (some (.iload_n 2)) (none))) (cond (Nat.blt k 159) (cond (Nat.beq k 158) (some (.iload_n 3)) (none)) (cond (Nat.beq k 159) (some (.i2l)) (none)))))) (cond (Nat.blt k 172) (cond (Nat.blt k 168) (cond (Nat.blt k 164) (cond (Nat.blt k 161) (cond (Nat.beq k 160) (some (.dconst 0)) (none)) (cond (Nat.beq k 161) (some (.invokevirtual 172)) (none))) (cond (Nat.blt k 167) (cond (Nat.beq k 164) (some (.goto 429)) (none)) (cond (Nat.beq k 167) (some (.aload_n 0)) (none)))) (cond (Nat.blt k 170) (cond (Nat.blt k 169) (cond (Nat.beq k 168) (some (.iconst 2)) (none)) (cond (Nat.beq k 169) (some (.lconst 0)) (none))) (cond (Nat.blt k 171) (cond (Nat.beq k 170) (some (.iload_n 3)) (none)) (cond (Nat.beq k 171) (some (.i2f)) (none))))) (cond (Nat.blt k 179) (cond (Nat.blt k 175) (cond (Nat.blt k 174) (cond (Nat.beq k 172) (some (.ldc 201)) (none)) (cond (Nat.beq k 174) (some (.fmul)) (none))) (cond (Nat.blt k 176) (cond (Nat.beq k 175) (some (.f2d)) (none)) (cond (Nat.beq k 176) (some (.invokevirtual 172)) (none)))) (cond (Nat.blt k 183) (cond (Nat.blt k 182) (cond (Nat.beq k 179) (some (.goto 414)) (none)) (cond (Nat.beq k 182) (some (.aload_n 0)) (none))) (cond (Nat.blt k 184) (cond (Nat.beq k 183) (some (.iconst 3)) (none)) (cond (Nat.blt k 185) (cond (Nat.beq k 184) (some (.lconst 0)) (none)) (cond (Nat.beq k 185) (some (.iload_n 3)) (none)))))))) (cond (Nat.blt k 215) (cond (Nat.blt k 202) (cond (Nat.blt k 194) (cond (Nat.blt k 190) (cond (Nat.blt k 187) (cond (Nat.beq k 186) (some (.i2d)) (none)) (cond (Nat.beq k 187) (some (.ldc2_w 202)) (none))) (cond (Nat.blt k 191) (cond (Nat.beq k 190) (some (.dmul)) (none)) (cond (Nat.beq k 191) (some (.invokevirtual 172)) (none)))) (cond (Nat.blt k 198) (cond (Nat.blt k 197) (cond (Nat.beq k 194) (some (.goto 399)) (none)) (cond (Nat.beq k 197) (some (.aload_n 0)) (none))) (cond (Nat.blt k 199) (cond (Nat.beq k 198) (some (.aload_n 0)) (none)) (cond (Nat.beq k 199) (some (.getfield 25)) (none))))) (cond (Nat.blt k 207) (cond (Nat.blt k 205) (cond (Nat.blt k 203) (cond (Nat.beq k 202) (some (.iload_n 1)) (none)) (cond (Nat.beq k 203) (some (.bipush 6)) (none))) (cond (Nat.blt k 206) (cond (Nat.beq k 205) (some (.imul)) (none)) (cond (Nat.beq k 206) (some (.iload_n 3)) (none)))) (cond (Nat.blt k 209) (cond (Nat.blt k 208) (cond (Nat.beq k 207) (some (.iadd)) (none)) (cond (Nat.beq k 208) (some (.iaload)) (none))) (cond (Nat.blt k 210) (cond (Nat.beq k 209) (some (.aload_n 0)) (none)) (cond (Nat.blt k 213) (cond (Nat.beq k 210) (some (.getfield 58)) (none)) (cond (Nat.beq k 213) (some (.iload 6)) (none))))))) (cond (Nat.blt k 226) (cond (Nat.blt k 219) (cond (Nat.blt k 217) (cond (Nat.blt k 216) (cond (Nat.beq k 215) (some (.iload_n 3)) (none)) (cond (Nat.beq k 216) (some (.iadd)) (none))) (cond (Nat.blt k 218) (cond (Nat.beq k 217) (some (.laload)) (none)) (cond (Nat.beq k 218) (some (.aload_n 0)) (none)))) (cond (Nat.blt k 224) (cond (Nat.blt k 222) (cond (Nat.beq k 219) (some (.getfield 61)) (none)) (cond (Nat.beq k 222) (some (.iload 6)) (none))) (cond (Nat.blt k 225) (cond (Nat.beq k 224) (some (.iload_n 3)) (none)) (cond (Nat.beq k 225) (some (.iadd)) (none))))) (cond (Nat.blt k 234) (cond (Nat.blt k 230) (cond (Nat.blt k 227) (cond (Nat.beq k 226) (some (.daload)) (none)) (cond (Nat.beq k 227) (some (.invokevirtual 172)) (none))) (cond (Nat.blt k 233) (cond (Nat.beq k 230) (some (.goto 363)) (none)) (cond (Nat.beq k 233) (some (.aload_n 0)) (none)))) (cond (Nat.blt k 239) (cond (Nat.blt k 237) (cond (Nat.beq k 234) (some (.getfield 58)) (none)) (cond (Nat.beq k 237) (some (.iload 6)) (none))) (cond (Nat.blt k 240) (cond (Nat.beq k 239) (some (.iload_n 3)) (none)) (cond (Nat.blt k 241) (cond (Nat.beq k 240) (some (.iadd)) (none)) (cond (Nat.beq k 241) (some (.aload_n 0)) (none))))))))) (cond (Nat.blt k 296) (cond (Nat.blt k 270) (cond (Nat.blt k 254) (cond (Nat.blt k 250) (cond (Nat.blt k 246) (cond (Nat.blt k 245) (cond (Nat.beq k 242) (some (.getfield 58)) (none)) (cond (Nat.beq k 245) (some (.aload_n 0)) (none))) (cond (Nat.blt k 249) (cond (Nat.beq k 246) (some (.getfield 161)) (none)) (cond (Nat.beq k 249) (some (.iconst 1)) (none)))) (cond (Nat.blt k 252) (cond (Nat.blt k 251) (cond (Nat.beq k 250) (some (.isub)) (none)) (cond (Nat.beq k 251) (some (.laload)) (none))) (cond (Nat.blt k 253) (cond (Nat.beq k 252) (some (.lastore)) (none)) (cond (Nat.beq k 253) (some (.aload_n 0)) (none))))) (cond (Nat.blt k 261) (cond (Nat.blt k 259) (cond (Nat.blt k 257) (cond (Nat.beq k 254) (some (.getfield 61)) (none)) (cond (Nat.beq k 257) (some (.iload 6)) (none))) (cond (Nat.blt k 260) (cond (Nat.beq k 259) (some (.iload_n 3)) (none)) (cond (Nat.beq k 260) (some (.iadd)) (none)))) (cond (Nat.blt k 265) (cond (Nat.blt k 262) (cond (Nat.beq k 261) (some (.aload_n 0)) (none)) (cond (Nat.beq k 262) (some (.getfield 61)) (none))) (cond (Nat.blt k 266) (cond (Nat.beq k 265) (some (.aload_n 0)) (none)) (cond (Nat.blt k 269) (cond (Nat.beq k 266) (some (.getfield 161)) (none)) (cond (Nat.beq k 269) (some (.iconst 1)) (none))))))) (cond (Nat.blt k 281) (cond (Nat.blt k 274) (cond (Nat.blt k 272) (cond (Nat.blt k 271) (cond (Nat.beq k 270) (some (.isub)) (none)) (cond (Nat.beq k 271) (some (.daload)) (none))) (cond (Nat.blt k 273) (cond (Nat.beq k 272) (some (.dastore)) (none)) (cond (Nat.beq k 273) (some (.aload_n 0)) (none)))) (cond (Nat.blt k 278) (cond (Nat.blt k 275) (cond (Nat.beq k 274) (some (.dup)) (none)) (cond (Nat.beq k 275) (some (.getfield 161)) (none))) (cond (Nat.blt k 280) (cond (Nat.beq k 278) (some (.bipush 6)) (none)) (cond (Nat.beq k 280) (some (.iload_n 2)) (none))))) (cond (Nat.blt k 289) (cond (Nat.blt k 283) (cond (Nat.blt k 282) (cond (Nat.beq k 281) (some (.isub)) (none)) (cond (Nat.beq k 282) (some (.isub)) (none))) (cond (Nat.blt k 286) (cond (Nat.beq k 283) (some (.putfield 161)) (none)) (cond (Nat.beq k 286) (some (.goto 307)) (none)))) (cond (Nat.blt k 291) (cond (Nat.blt k 290) (cond (Nat.beq k 289) (some (.aload_n 0)) (none)) (cond (Nat.beq k 290) (some (.iload_n 3)) (none))) (cond (Nat.blt k 292) (cond (Nat.beq k 291) (some (.aload_n 0)) (none)) (cond (Nat.blt k 295) (cond (Nat.beq k 292) (some (.getfield 35)) (none)) (cond (Nat.beq k 295) (some (.iload_n 3)) (none)))))))) (cond (Nat.blt k 325) (cond (Nat.blt k 310) (cond (Nat.blt k 302) (cond (Nat.blt k 298) (cond (Nat.blt k 297) (cond (Nat.beq k 296) (some (.laload)) (none)) (cond (Nat.beq k 297) (some (.aload_n 0)) (none))) (cond (Nat.blt k 301) (cond (Nat.beq k 298) (some (.getfield 39)) (none)) (cond (Nat.beq k 301) (some (.iload_n 3)) (none)))) (cond (Nat.blt k 306) (cond (Nat.blt k 303) (cond (Nat.beq k 302) (some (.daload)) (none)) (cond (Nat.beq k 303) (some (.invokevirtual 172)) (none))) (cond (Nat.blt k 309) (cond (Nat.beq k 306) (some (.goto 287)) (none)) (cond (Nat.beq k 309) (some (.aload_n 0)) (none))))) (cond (Nat.blt k 316) (cond (Nat.blt k 314) (cond (Nat.blt k 311) (cond (Nat.beq k 310) (some (.dup)) (none)) (cond (Nat.beq k 311) (some (.getfield 161)) (none))) (cond (Nat.blt k 315) (cond (Nat.beq k 314) (some (.iconst 1)) (none)) (cond (Nat.beq k 315) (some (.isub)) (none)))) (cond (Nat.blt k 320) (cond (Nat.blt k 319) (cond (Nat.beq k 316) (some (.putfield 161)) (none)) (cond (Nat.beq k 319) (some (.aload_n 0)) (none))) (cond (Nat.blt k 323) (cond (Nat.beq k 320) (some (.getfield 35)) (none)) (cond (Nat.blt k 324) (cond (Nat.beq k 323) (some (.iload_n 3)) (none)) (cond (Nat.beq k 324) (some (.aload_n 0)) (none))))))) (cond (Nat.blt k 339) (cond (Nat.blt k 333) (cond (Nat.blt k 329) (cond (Nat.blt k 328) (cond (Nat.beq k 325) (some (.getfield 58)) (none)) (cond (Nat.beq k 328) (some (.aload_n 0)) (none))) (cond (Nat.blt k 332) (cond (Nat.beq k 329) (some (.getfield 161)) (none)) (cond (Nat.beq k 332) (some (.laload)) (none)))) (cond (Nat.blt k 335) (cond (Nat.blt k 334) (cond (Nat.beq k 333) (some (.lastore)) (none)) (cond (Nat.beq k 334) (some (.aload_n 0)) (none))) (cond (Nat.blt k 338) (cond (Nat.beq k 335) (some (.getfield 39)) (none)) (cond (Nat.beq k 338) (some (.iload_n 3)) (none))))) (cond (Nat.blt k 347) (cond (Nat.blt k 343) (cond (Nat.blt k 340) (cond (Nat.beq k 339) (some (.aload_n 0)) (none)) (cond (Nat.beq k 340) (some (.getfield 61)) (none))) (cond (Nat.blt k 344) (cond (Nat.beq k 343) (some (.aload_n 0)) (none)) (cond (Nat.beq k 344) (some (.getfield 161)) (none)))) (cond (Nat.blt k 349) (cond (Nat.blt k 348) (cond (Nat.beq k 347) (some (.daload)) (none)) (cond (Nat.beq k 348) (some (.dastore)) (none))) (cond (Nat.blt k 352) (cond (Nat.beq k 349) (some (.goto 244)) (none)) (cond (Nat.blt k 353) (cond (Nat.beq k 352) (some (.aload_n 0)) (none)) (cond (Nat.beq k 353) (some (.dup)) (none)))))))))) (cond (Nat.blt k 472) (cond (Nat.blt k 415) (cond (Nat.blt k 382) (cond (Nat.blt k 372) (cond (Nat.blt k 362) (cond (Nat.blt k 358) (cond (Nat.blt k 357) (cond (Nat.beq k 354) (some (.getfield 161)) (none)) (cond (Nat.beq k 357) (some (.iconst 1)) (none))) (cond (Nat.blt k 359) (cond (Nat.beq k 358) (some (.isub)) (none)) (cond (Nat.beq k 359) (some (.putfield 161)) (none)))) (cond (Nat.blt k 366) (cond (Nat.blt k 365) (cond (Nat.beq k 362) (some (.goto 231)) (none)) (cond (Nat.beq k 365) (some (.aload_n 0)) (none))) (cond (Nat.blt k 369) (cond (Nat.beq k 366) (some (.invokevirtual 204)) (none)) (cond (Nat.beq k 369) (some (.goto 224)) (none))))) (cond (Nat.blt k 376) (cond (Nat.blt k 374) (cond (Nat.blt k 373) (cond (Nat.beq k 372) (some (.aload_n 0)) (none)) (cond (Nat.beq k 373) (some (.iload_n 3)) (none))) (cond (Nat.blt k 375) (cond (Nat.beq k 374) (some (.iconst 4)) (none)) (cond (Nat.beq k 375) (some (.idiv)) (none)))) (cond (Nat.blt k 378) (cond (Nat.blt k 377) (cond (Nat.beq k 376) (some (.iload_n 3)) (none)) (cond (Nat.beq k 377) (some (.iconst 4)) (none))) (cond (Nat.blt k 379) (cond (Nat.beq k 378) (some (.irem)) (none)) (cond (Nat.beq k 379) (some (.invokevirtual 207)) (none)))))) (cond (Nat.blt k 399) (cond (Nat.blt k 391) (cond (Nat.blt k 386) (cond (Nat.blt k 385) (cond (Nat.beq k 382) (some (.goto 211)) (none)) (cond (Nat.beq k 385) (some (.aload_n 0)) (none))) (cond (Nat.blt k 388) (cond (Nat.beq k 386) (some (.iload 4)) (none)) (cond (Nat.beq k 388) (some (.invokevirtual 210)) (none)))) (cond (Nat.blt k 395) (cond (Nat.blt k 394) (cond (Nat.beq k 391) (some (.goto 202)) (none)) (cond (Nat.beq k 394) (some (.aload_n 0)) (none))) (cond (Nat.blt k 396) (cond (Nat.beq k 395) (some (.dup)) (none)) (cond (Nat.beq k 396) (some (.getfield 161)) (none))))) (cond (Nat.blt k 405) (cond (Nat.blt k 401) (cond (Nat.blt k 400) (cond (Nat.beq k 399) (some (.iconst 1)) (none)) (cond (Nat.beq k 400) (some (.isub)) (none))) (cond (Nat.blt k 404) (cond (Nat.beq k 401) (some (.putfield 161)) (none)) (cond (Nat.beq k 404) (some (.aload_n 0)) (none)))) (cond (Nat.blt k 410) (cond (Nat.blt k 407) (cond (Nat.beq k 405) (some (.iload 4)) (none)) (cond (Nat.beq k 407) (some (.invokevirtual 210)) (none))) (cond (Nat.blt k 411) (cond (Nat.beq k 410) (some (.aload_n 0)) (none)) (cond (Nat.blt k 414) (cond (Nat.beq k 411) (some (.getfield 58)) (none)) (cond (Nat.beq k 414) (some (.aload_n 0)) (none)))))))) (cond (Nat.blt k 446) (cond (Nat.blt k 429) (cond (Nat.blt k 421) (cond (Nat.blt k 419) (cond (Nat.blt k 418) (cond (Nat.beq k 415) (some (.getfield 161)) (none)) (cond (Nat.beq k 418) (some (.laload)) (none))) (cond (Nat.blt k 420) (cond (Nat.beq k 419) (some (.lconst 0)) (none)) (cond (Nat.beq k 420) (some (.lcmp)) (none)))) (cond (Nat.blt k 427) (cond (Nat.blt k 424) (cond (Nat.beq k 421) (some (.ifCond .eq 6)) (none)) (cond (Nat.beq k 424) (some (.goto 169)) (none))) (cond (Nat.blt k 428) (cond (Nat.beq k 427) (some (.aload_n 0)) (none)) (cond (Nat.beq k 428) (some (.iload_n 1)) (none))))) (cond (Nat.blt k 437) (cond (Nat.blt k 432) (cond (Nat.blt k 431) (cond (Nat.beq k 429) (some (.iload 4)) (none)) (cond (Nat.beq k 431) (some (.iconst 1)) (none))) (cond (Nat.blt k 435) (cond (Nat.beq k 432) (some (.invokevirtual 194)) (none)) (cond (Nat.beq k 435) (some (.istore 7)) (none)))) (cond (Nat.blt k 441) (cond (Nat.blt k 438) (cond (Nat.beq k 437) (some (.aload_n 0)) (none)) (cond (Nat.beq k 438) (some (.getfield 67)) (none))) (cond (Nat.blt k 443) (cond (Nat.beq k 441) (some (.iload 5)) (none)) (cond (Nat.blt k 445) (cond (Nat.beq k 443) (some (.iload 7)) (none)) (cond (Nat.beq k 445) (some (.iconst 1)) (none))))))) (cond (Nat.blt k 458) (cond (Nat.blt k 452) (cond (Nat.blt k 448) (cond (Nat.blt k 447) (cond (Nat.beq k 446) (some (.iadd)) (none)) (cond (Nat.beq k 447) (some (.iastore)) (none))) (cond (Nat.blt k 449) (cond (Nat.beq k 448) (some (.aload_n 0)) (none)) (cond (Nat.beq k 449) (some (.getfield 7)) (none)))) (cond (Nat.blt k 455) (cond (Nat.blt k 453) (cond (Nat.beq k 452) (some (.iload_n 1)) (none)) (cond (Nat.beq k 453) (some (.bipush 40)) (none))) (cond (Nat.blt k 456) (cond (Nat.beq k 455) (some (.imul)) (none)) (cond (Nat.beq k 456) (some (.iload 7)) (none))))) (cond (Nat.blt k 465) (cond (Nat.blt k 460) (cond (Nat.blt k 459) (cond (Nat.beq k 458) (some (.iadd)) (none)) (cond (Nat.beq k 459) (some (.iaload)) (none))) (cond (Nat.blt k 462) (cond (Nat.beq k 460) (some (.bipush 25)) (none)) (cond (Nat.beq k 462) (some (.if_icmp .ne 131)) (none)))) (cond (Nat.blt k 467) (cond (Nat.blt k 466) (cond (Nat.beq k 465) (some (.aload_n 0)) (none)) (cond (Nat.beq k 466) (some (.dup)) (none))) (cond (Nat.blt k 470) (cond (Nat.beq k 467) (some (.getfield 184)) (none)) (cond (Nat.blt k 471) (cond (Nat.beq k 470) (some (.iconst 1)) (none)) (cond (Nat.beq k 471) (some (.isub)) (none))))))))) (cond (Nat.blt k 532) (cond (Nat.blt k 503) (cond (Nat.blt k 488) (cond (Nat.blt k 480) (cond (Nat.blt k 478) (cond (Nat.blt k 475) (cond (Nat.beq k 472) (some (.putfield 184)) (none)) (cond (Nat.beq k 475) (some (.goto 118)) (none))) (cond (Nat.blt k 479) (cond (Nat.beq k 478) (some (.aload_n 0)) (none)) (cond (Nat.beq k 479) (some (.dup)) (none)))) (cond (Nat.blt k 484) (cond (Nat.blt k 483) (cond (Nat.beq k 480) (some (.getfield 184)) (none)) (cond (Nat.beq k 483) (some (.iconst 1)) (none))) (cond (Nat.blt k 485) (cond (Nat.beq k 484) (some (.isub)) (none)) (cond (Nat.beq k 485) (some (.putfield 184)) (none))))) (cond (Nat.blt k 495) (cond (Nat.blt k 492) (cond (Nat.blt k 489) (cond (Nat.beq k 488) (some (.aload_n 0)) (none)) (cond (Nat.beq k 489) (some (.getfield 67)) (none))) (cond (Nat.blt k 494) (cond (Nat.beq k 492) (some (.iload 5)) (none)) (cond (Nat.beq k 494) (some (.aload_n 0)) (none)))) (cond (Nat.blt k 498) (cond (Nat.blt k 496) (cond (Nat.beq k 495) (some (.iload_n 1)) (none)) (cond (Nat.beq k 496) (some (.iload 4)) (none))) (cond (Nat.blt k 499) (cond (Nat.beq k 498) (some (.iconst 0)) (none)) (cond (Nat.blt k 502) (cond (Nat.beq k 499) (some (.invokevirtual 194)) (none)) (cond (Nat.beq k 502) (some (.iconst 1)) (none))))))) (cond (Nat.blt k 515) (cond (Nat.blt k 509) (cond (Nat.blt k 505) (cond (Nat.blt k 504) (cond (Nat.beq k 503) (some (.iadd)) (none)) (cond (Nat.beq k 504) (some (.iastore)) (none))) (cond (Nat.blt k 508) (cond (Nat.beq k 505) (some (.goto 88)) (none)) (cond (Nat.beq k 508) (some (.aload_n 0)) (none)))) (cond (Nat.blt k 513) (cond (Nat.blt k 510) (cond (Nat.beq k 509) (some (.dup)) (none)) (cond (Nat.beq k 510) (some (.getfield 184)) (none))) (cond (Nat.blt k 514) (cond (Nat.beq k 513) (some (.iconst 1)) (none)) (cond (Nat.beq k 514) (some (.isub)) (none))))) (cond (Nat.blt k 523) (cond (Nat.blt k 521) (cond (Nat.blt k 518) (cond (Nat.beq k 515) (some (.putfield 184)) (none)) (cond (Nat.beq k 518) (some (.goto 75)) (none))) (cond (Nat.blt k 522) (cond (Nat.beq k 521) (some (.aload_n 0)) (none)) (cond (Nat.beq k 522) (some (.iload_n 1)) (none)))) (cond (Nat.blt k 527) (cond (Nat.blt k 524) (cond (Nat.beq k 523) (some (.iload_n 3)) (none)) (cond (Nat.beq k 524) (some (.invokevirtual 213)) (none))) (cond (Nat.blt k 530) (cond (Nat.beq k 527) (some (.goto 66)) (none)) (cond (Nat.blt k 531) (cond (Nat.beq k 530) (some (.aload_n 0)) (none)) (cond (Nat.beq k 531) (some (.dup)) (none)))))))) (cond (Nat.blt k 563) (cond (Nat.blt k 548) (cond (Nat.blt k 540) (cond (Nat.blt k 536) (cond (Nat.blt k 535) (cond (Nat.beq k 532) (some (.getfield 161)) (none)) (cond (Nat.beq k 535) (some (.iconst 1)) (none))) (cond (Nat.blt k 537) (cond (Nat.beq k 536) (some (.isub)) (none)) (cond (Nat.beq k 537) (some (.putfield 161)) (none)))) (cond (Nat.blt k 544) (cond (Nat.blt k 541) (cond (Nat.beq k 540) (some (.aload_n 0)) (none)) (cond (Nat.beq k 541) (some (.getfield 58)) (none))) (cond (Nat.blt k 545) (cond (Nat.beq k 544) (some (.aload_n 0)) (none)) (cond (Nat.beq k 545) (some (.getfield 161)) (none))))) (cond (Nat.blt k 554) (cond (Nat.blt k 550) (cond (Nat.blt k 549) (cond (Nat.beq k 548) (some (.laload)) (none)) (cond (Nat.beq k 549) (some (.lconst 0)) (none))) (cond (Nat.blt k 551) (cond (Nat.beq k 550) (some (.lcmp)) (none)) (cond (Nat.beq k 551) (some (.ifCond .eq 42)) (none)))) (cond (Nat.blt k 556) (cond (Nat.blt k 555) (cond (Nat.beq k 554) (some (.aload_n 0)) (none)) (cond (Nat.beq k 555) (some (.iload_n 1)) (none))) (cond (Nat.blt k 557) (cond (Nat.beq k 556) (some (.iload_n 3)) (none)) (cond (Nat.blt k 560) (cond (Nat.beq k 557) (some (.invokevirtual 213)) (none)) (cond (Nat.beq k 560) (some (.goto 33)) (none))))))) (cond (Nat.blt k 579) (cond (Nat.blt k 571) (cond (Nat.blt k 565) (cond (Nat.blt k 564) (cond (Nat.beq k 563) (some (.aload_n 0)) (none)) (cond (Nat.beq k 564) (some (.iload_n 1)) (none))) (cond (Nat.blt k 568) (cond (Nat.beq k 565) (some (.invokevirtual 216)) (none)) (cond (Nat.beq k 568) (some (.goto 25)) (none)))) (cond (Nat.blt k 573) (cond (Nat.blt k 572) (cond (Nat.beq k 571) (some (.aload_n 0)) (none)) (cond (Nat.beq k 572) (some (.iload_n 3)) (none))) (cond (Nat.blt k 576) (cond (Nat.beq k 573) (some (.invokevirtual 219)) (none)) (cond (Nat.beq k 576) (some (.goto 17)) (none))))) (cond (Nat.blt k 587) (cond (Nat.blt k 581) (cond (Nat.blt k 580) (cond (Nat.beq k 579) (some (.aload_n 0)) (none)) (cond (Nat.beq k 580) (some (.iconst 4)) (none))) (cond (Nat.blt k 584) (cond (Nat.beq k 581) (some (.putfield 82)) (none)) (cond (Nat.beq k 584) (some (.goto 9)) (none)))) (cond (Nat.blt k 589) (cond (Nat.blt k 588) (cond (Nat.beq k 587) (some (.aload_n 0)) (none)) (cond (Nat.beq k 588) (some (.iload_n 2)) (none))) (cond (Nat.blt k 590) (cond (Nat.beq k 589) (some (.iload_n 3)) (none)) (cond (Nat.blt k 593) (cond (Nat.beq k 590) (some (.invokevirtual 222)) (none)) (cond (Nat.beq k 593) (some (.return_)) (none))))))))))
def fmD_perform : fm_Me := (⟨"FlatModuleModel", "perform", "(IIII)V"⟩, prog_9_method_38_code, 8, none, 6, fm_f6, fm_cut 594 fmD_perform_i)
theorem fmD_perform_dc : fm_dc prog_9_method_38_code (fm_cut 594 fmD_perform_i) := fm_dc_of (by decide +kernel)
theorem fmD_perform_o : fm_mok fmD_perform := ⟨⟨fm_f6_o, fmD_perform_dc⟩, fm_tb (List.mem_of_getElem? (i := 845) (by decide +kernel)) rfl, fm_tb (List.mem_of_getElem? (i := 7) (by decide +kernel)) rfl, rfl, by decide +kernel, by decide⟩
def fmD_go_i (k : Nat) : Option Instr := cond (Nat.blt k 85) (cond (Nat.blt k 39) (cond (Nat.blt k 21) (cond (Nat.blt k 11) (cond (Nat.blt k 4) (cond (Nat.blt k 1) (cond (Nat.beq k 0) (some (.aload_n 0)) (none)) (cond (Nat.beq k 1) (some (.getfield 187)) (none))) (cond (Nat.blt k 7) (cond (Nat.beq k 4) (some (.ifCond .le 161)) (none)) (cond (Nat.blt k 8) (cond (Nat.beq k 7) (some (.aload_n 0)) (none)) (cond (Nat.beq k 8) (some (.getfield 82)) (none))))) (cond (Nat.blt k 18) (cond (Nat.blt k 14) (cond (Nat.beq k 11) (some (.ifCond .ne 154)) (none)) (cond (Nat.blt k 15) (cond (Nat.beq k 14) (some (.aload_n 0)) (none)) (cond (Nat.beq k 15) (some (.getfield 187)) (none)))) (cond (Nat.blt k 19) (cond (Nat.beq k 18) (some (.iconst 1)) (none)) (cond (Nat.blt k 20) (cond (Nat.beq k 19) (some (.isub)) (none)) (cond (Nat.beq k 20) (some (.istore_n 2)) (none)))))) (cond (Nat.blt k 29) (cond (Nat.blt k 26) (cond (Nat.blt k 22) (cond (Nat.beq k 21) (some (.aload_n 0)) (none)) (cond (Nat.blt k 25) (cond (Nat.beq k 22) (some (.getfield 64)) (none)) (cond (Nat.beq k 25) (some (.iload_n 2)) (none)))) (cond (Nat.blt k 27) (cond (Nat.beq k 26) (some (.iaload)) (none)) (cond (Nat.blt k 28) (cond (Nat.beq k 27) (some (.istore_n 3)) (none)) (cond (Nat.beq k 28) (some (.aload_n 0)) (none))))) (cond (Nat.blt k 34) (cond (Nat.blt k 32) (cond (Nat.beq k 29) (some (.getfield 67)) (none)) (cond (Nat.blt k 33) (cond (Nat.beq k 32) (some (.iload_n 2)) (none)) (cond (Nat.beq k 33) (some (.iaload)) (none)))) (cond (Nat.blt k 36) (cond (Nat.beq k 34) (some (.istore 4)) (none)) (cond (Nat.blt k 38) (cond (Nat.beq k 36) (some (.iload 4)) (none)) (cond (Nat.beq k 38) (some (.aload_n 0)) (none))))))) (cond (Nat.blt k 62) (cond (Nat.blt k 49) (cond (Nat.blt k 44) (cond (Nat.blt k 42) (cond (Nat.beq k 39) (some (.getfield 16)) (none)) (cond (Nat.blt k 43) (cond (Nat.beq k 42) (some (.iload_n 3)) (none)) (cond (Nat.beq k 43) (some (.iaload)) (none)))) (cond (Nat.blt k 47) (cond (Nat.beq k 44) (some (.if_icmp .lt 11)) (none)) (cond (Nat.blt k 48) (cond (Nat.beq k 47) (some (.aload_n 0)) (none)) (cond (Nat.beq k 48) (some (.iload_n 3)) (none))))) (cond (Nat.blt k 56) (cond (Nat.blt k 52) (cond (Nat.beq k 49) (some (.invokevirtual 216)) (none)) (cond (Nat.blt k 55) (cond (Nat.beq k 52) (some (.goto (-52))) (none)) (cond (Nat.beq k 55) (some (.aload_n 0)) (none)))) (cond (Nat.blt k 59) (cond (Nat.beq k 56) (some (.getfield 7)) (none)) (cond (Nat.blt k 60) (cond (Nat.beq k 59) (some (.iload_n 3)) (none)) (cond (Nat.beq k 60) (some (.bipush 40)) (none)))))) (cond (Nat.blt k 71) (cond (Nat.blt k 66) (cond (Nat.blt k 63) (cond (Nat.beq k 62) (some (.imul)) (none)) (cond (Nat.blt k 65) (cond (Nat.beq k 63) (some (.iload 4)) (none)) (cond (Nat.beq k 65) (some (.iadd)) (none)))) (cond (Nat.blt k 67) (cond (Nat.beq k 66) (some (.iaload)) (none)) (cond (Nat.blt k 69) (cond (Nat.beq k 67) (some (.istore 5)) (none)) (cond (Nat.beq k 69) (some (.iload 5)) (none))))) (cond (Nat.blt k 78) (cond (Nat.blt k 73) (cond (Nat.beq k 71) (some (.bipush 21)) (none)) (cond (Nat.blt k 76) (cond (Nat.beq k 73) (some (.if_icmp .eq 17)) (none)) (cond (Nat.beq k 76) (some (.iload 5)) (none)))) (cond (Nat.blt k 80) (cond (Nat.beq k 78) (some (.bipush 22)) (none)) (cond (Nat.blt k 83) (cond (Nat.beq k 80) (some (.if_icmp .eq 10)) (none)) (cond (Nat.beq k 83) (some (.iload 5)) (none)))))))) (cond (Nat.blt k 128) (cond (Nat.blt k 107) (cond (Nat.blt k 95) (cond (Nat.blt k 90) (cond (Nat.blt k 87) (cond (Nat.beq k 85) (some (.bipush 25)) (none)) (cond (Nat.beq k 87) (some (.if_icmp .ne 7)) (none))) (cond (Nat.blt k 91) (cond (Nat.beq k 90) (some (.iconst 1)) (none)) (cond (Nat.blt k 94) (cond (Nat.beq k 91) (some (.goto 4)) (none)) (cond (Nat.beq k 94) (some (.iconst 0)) (none))))) (cond (Nat.blt k 102) (cond (Nat.blt k 97) (cond (Nat.beq k 95) (some (.istore 6)) (none)) (cond (Nat.blt k 99) (cond (Nat.beq k 97) (some (.iload 6)) (none)) (cond (Nat.beq k 99) (some (.ifCond .ne 17)) (none)))) (cond (Nat.blt k 103) (cond (Nat.beq k 102) (some (.aload_n 0)) (none)) (cond (Nat.blt k 106) (cond (Nat.beq k 103) (some (.getfield 225)) (none)) (cond (Nat.beq k 106) (some (.iload_n 1)) (none)))))) (cond (Nat.blt k 118) (cond (Nat.blt k 112) (cond (Nat.blt k 110) (cond (Nat.beq k 107) (some (.if_icmp .ne 9)) (none)) (cond (Nat.blt k 111) (cond (Nat.beq k 110) (some (.aload_n 0)) (none)) (cond (Nat.beq k 111) (some (.iconst 2)) (none)))) (cond (Nat.blt k 115) (cond (Nat.beq k 112) (some (.putfield 82)) (none)) (cond (Nat.blt k 116) (cond (Nat.beq k 115) (some (.return_)) (none)) (cond (Nat.beq k 116) (some (.iload 6)) (none))))) (cond (Nat.blt k 123) (cond (Nat.blt k 121) (cond (Nat.beq k 118) (some (.ifCond .ne 13)) (none)) (cond (Nat.blt k 122) (cond (Nat.beq k 121) (some (.aload_n 0)) (none)) (cond (Nat.beq k 122) (some (.dup)) (none)))) (cond (Nat.blt k 126) (cond (Nat.beq k 123) (some (.getfield 225)) (none)) (cond (Nat.blt k 127) (cond (Nat.beq k 126) (some (.iconst 1)) (none)) (cond (Nat.beq k 127) (some (.iadd)) (none))))))) (cond (Nat.blt k 145) (cond (Nat.blt k 138) (cond (Nat.blt k 135) (cond (Nat.blt k 131) (cond (Nat.beq k 128) (some (.putfield 225)) (none)) (cond (Nat.blt k 132) (cond (Nat.beq k 131) (some (.aload_n 0)) (none)) (cond (Nat.beq k 132) (some (.getfield 67)) (none)))) (cond (Nat.blt k 136) (cond (Nat.beq k 135) (some (.iload_n 2)) (none)) (cond (Nat.blt k 137) (cond (Nat.beq k 136) (some (.dup2)) (none)) (cond (Nat.beq k 137) (some (.iaload)) (none))))) (cond (Nat.blt k 141) (cond (Nat.blt k 139) (cond (Nat.beq k 138) (some (.iconst 1)) (none)) (cond (Nat.blt k 140) (cond (Nat.beq k 139) (some (.iadd)) (none)) (cond (Nat.beq k 140) (some (.iastore)) (none)))) (cond (Nat.blt k 142) (cond (Nat.beq k 141) (some (.aload_n 0)) (none)) (cond (Nat.blt k 143) (cond (Nat.beq k 142) (some (.iload_n 3)) (none)) (cond (Nat.beq k 143) (some (.iload 5)) (none)))))) (cond (Nat.blt k 155) (cond (Nat.blt k 150) (cond (Nat.blt k 146) (cond (Nat.beq k 145) (some (.aload_n 0)) (none)) (cond (Nat.blt k 149) (cond (Nat.beq k 146) (some (.getfield 13)) (none)) (cond (Nat.beq k 149) (some (.iload_n 3)) (none)))) (cond (Nat.blt k 152) (cond (Nat.beq k 150) (some (.bipush 40)) (none)) (cond (Nat.blt k 153) (cond (Nat.beq k 152) (some (.imul)) (none)) (cond (Nat.beq k 153) (some (.iload 4)) (none))))) (cond (Nat.blt k 159) (cond (Nat.blt k 156) (cond (Nat.beq k 155) (some (.iadd)) (none)) (cond (Nat.blt k 157) (cond (Nat.beq k 156) (some (.iaload)) (none)) (cond (Nat.beq k 157) (some (.iload 4)) (none)))) (cond (Nat.blt k 162) (cond (Nat.beq k 159) (some (.invokevirtual 228)) (none)) (cond (Nat.blt k 165) (cond (Nat.beq k 162) (some (.goto (-162))) (none)) (cond (Nat.beq k 165) (some (.return_)) (none))))))))
def fmD_go : fm_Me := (⟨"FlatModuleModel", "go", "(I)V"⟩, prog_9_method_39_code, 7, none, 6, fm_f6, fm_cut 166 fmD_go_i)
theorem fmD_go_dc : fm_dc prog_9_method_39_code (fm_cut 166 fmD_go_i) := fm_dc_of (by decide +kernel)
theorem fmD_go_o : fm_mok fmD_go := ⟨⟨fm_f6_o, fmD_go_dc⟩, fm_tb (List.mem_of_getElem? (i := 833) (by decide +kernel)) rfl, fm_tb (List.mem_of_getElem? (i := 7) (by decide +kernel)) rfl, rfl, by decide +kernel, by decide⟩
def fmD_pass_i (k : Nat) : Option Instr := cond (Nat.blt k 21) (cond (Nat.blt k 11) (cond (Nat.blt k 5) (cond (Nat.blt k 1) (cond (Nat.beq k 0) (some (.iload_n 2)) (none)) (cond (Nat.blt k 2) (cond (Nat.beq k 1) (some (.aload_n 0)) (none)) (cond (Nat.beq k 2) (some (.getfield 19)) (none)))) (cond (Nat.blt k 7) (cond (Nat.blt k 6) (cond (Nat.beq k 5) (some (.iload_n 1)) (none)) (cond (Nat.beq k 6) (some (.iaload)) (none))) (cond (Nat.blt k 10) (cond (Nat.beq k 7) (some (.if_icmp .lt 4)) (none)) (cond (Nat.beq k 10) (some (.return_)) (none))))) (cond (Nat.blt k 16) (cond (Nat.blt k 12) (cond (Nat.beq k 11) (some (.aload_n 0)) (none)) (cond (Nat.blt k 15) (cond (Nat.beq k 12) (some (.getfield 25)) (none)) (cond (Nat.beq k 15) (some (.iload_n 1)) (none)))) (cond (Nat.blt k 19) (cond (Nat.blt k 18) (cond (Nat.beq k 16) (some (.bipush 6)) (none)) (cond (Nat.beq k 18) (some (.imul)) (none))) (cond (Nat.blt k 20) (cond (Nat.beq k 19) (some (.iload_n 2)) (none)) (cond (Nat.beq k 20) (some (.iadd)) (none)))))) (cond (Nat.blt k 33) (cond (Nat.blt k 25) (cond (Nat.blt k 22) (cond (Nat.beq k 21) (some (.iaload)) (none)) (cond (Nat.blt k 24) (cond (Nat.beq k 22) (some (.istore 5)) (none)) (cond (Nat.beq k 24) (some (.aload_n 0)) (none)))) (cond (Nat.blt k 29) (cond (Nat.blt k 27) (cond (Nat.beq k 25) (some (.iload 5)) (none)) (cond (Nat.beq k 27) (some (.iload 5)) (none))) (cond (Nat.blt k 32) (cond (Nat.beq k 29) (some (.ifCond .ne 9)) (none)) (cond (Nat.beq k 32) (some (.dload_n 3)) (none))))) (cond (Nat.blt k 39) (cond (Nat.blt k 35) (cond (Nat.blt k 34) (cond (Nat.beq k 33) (some (.d2i)) (none)) (cond (Nat.beq k 34) (some (.i2l)) (none))) (cond (Nat.blt k 38) (cond (Nat.beq k 35) (some (.goto 5)) (none)) (cond (Nat.beq k 38) (some (.dload_n 3)) (none)))) (cond (Nat.blt k 41) (cond (Nat.blt k 40) (cond (Nat.beq k 39) (some (.d2l)) (none)) (cond (Nat.beq k 40) (some (.dload_n 3)) (none))) (cond (Nat.blt k 44) (cond (Nat.beq k 41) (some (.invokevirtual 172)) (none)) (cond (Nat.beq k 44) (some (.return_)) (none))))))
def fmD_pass : fm_Me := (⟨"FlatModuleModel", "pass", "(IID)V"⟩, prog_9_method_40_code, 6, none, 6, fm_f6, fm_cut 45 fmD_pass_i)
theorem fmD_pass_dc : fm_dc prog_9_method_40_code (fm_cut 45 fmD_pass_i) := fm_dc_of (by decide +kernel)
theorem fmD_pass_o : fm_mok fmD_pass := ⟨⟨fm_f6_o, fmD_pass_dc⟩, fm_tb (List.mem_of_getElem? (i := 821) (by decide +kernel)) rfl, fm_tb (List.mem_of_getElem? (i := 7) (by decide +kernel)) rfl, rfl, by decide +kernel, by decide⟩
def fmD_told_i (k : Nat) : Option Instr := cond (Nat.blt k 10) (cond (Nat.blt k 5) (cond (Nat.blt k 1) (cond (Nat.beq k 0) (some (.iload_n 0)) (none)) (cond (Nat.blt k 2) (cond (Nat.beq k 1) (some (.iconst 4)) (none)) (cond (Nat.beq k 2) (some (.if_icmp .ne 7)) (none)))) (cond (Nat.blt k 6) (cond (Nat.beq k 5) (some (.dconst 0)) (none)) (cond (Nat.blt k 9) (cond (Nat.beq k 6) (some (.goto 14)) (none)) (cond (Nat.beq k 9) (some (.iload_n 0)) (none))))) (cond (Nat.blt k 15) (cond (Nat.blt k 11) (cond (Nat.beq k 10) (some (.iconst 2)) (none)) (cond (Nat.blt k 14) (cond (Nat.beq k 11) (some (.if_icmp .ge 8)) (none)) (cond (Nat.beq k 14) (some (.lload_n 1)) (none)))) (cond (Nat.blt k 19) (cond (Nat.blt k 16) (cond (Nat.beq k 15) (some (.l2d)) (none)) (cond (Nat.beq k 16) (some (.goto 4)) (none))) (cond (Nat.blt k 20) (cond (Nat.beq k 19) (some (.dload_n 3)) (none)) (cond (Nat.beq k 20) (some (.dreturn)) (none)))))
def fmD_told : fm_Me := (⟨"FlatModuleModel", "told", "(IJD)D"⟩, prog_9_method_41_code, 5, some .double, 6, fm_f6, fm_cut 21 fmD_told_i)
theorem fmD_told_dc : fm_dc prog_9_method_41_code (fm_cut 21 fmD_told_i) := fm_dc_of (by decide +kernel)
theorem fmD_told_o : fm_mok fmD_told := ⟨⟨fm_f6_o, fmD_told_dc⟩, fm_tb (List.mem_of_getElem? (i := 886) (by decide +kernel)) rfl, fm_tb (List.mem_of_getElem? (i := 7) (by decide +kernel)) rfl, rfl, by decide +kernel, by decide⟩
def fmD_run_i (k : Nat) : Option Instr := cond (Nat.blt k 73) (cond (Nat.blt k 41) (cond (Nat.blt k 21) (cond (Nat.blt k 9) (cond (Nat.blt k 2) (cond (Nat.blt k 1) (cond (Nat.beq k 0) (some (.aload_n 0)) (none)) (cond (Nat.beq k 1) (some (.aload_n 0)) (none))) (cond (Nat.blt k 3) (cond (Nat.beq k 2) (some (.iload_n 1)) (none)) (cond (Nat.blt k 6) (cond (Nat.beq k 3) (some (.invokevirtual 98)) (none)) (cond (Nat.beq k 6) (some (.ifCond .eq 19)) (none))))) (cond (Nat.blt k 12) (cond (Nat.blt k 11) (cond (Nat.beq k 9) (some (.iload 8)) (none)) (cond (Nat.beq k 11) (some (.iconst 1)) (none))) (cond (Nat.blt k 15) (cond (Nat.beq k 12) (some (.sipush 300)) (none)) (cond (Nat.blt k 18) (cond (Nat.beq k 15) (some (.invokestatic 86)) (none)) (cond (Nat.beq k 18) (some (.ifCond .eq 7)) (none)))))) (cond (Nat.blt k 32) (cond (Nat.blt k 25) (cond (Nat.blt k 22) (cond (Nat.beq k 21) (some (.iconst 1)) (none)) (cond (Nat.beq k 22) (some (.goto 4)) (none))) (cond (Nat.blt k 26) (cond (Nat.beq k 25) (some (.iconst 0)) (none)) (cond (Nat.blt k 29) (cond (Nat.beq k 26) (some (.invokevirtual 90)) (none)) (cond (Nat.beq k 29) (some (.ifCond .eq 5)) (none))))) (cond (Nat.blt k 34) (cond (Nat.blt k 33) (cond (Nat.beq k 32) (some (.dconst 0)) (none)) (cond (Nat.beq k 33) (some (.dreturn)) (none))) (cond (Nat.blt k 35) (cond (Nat.beq k 34) (some (.aload_n 0)) (none)) (cond (Nat.blt k 38) (cond (Nat.beq k 35) (some (.getfield 94)) (none)) (cond (Nat.beq k 38) (some (.ifCond .ne 10)) (none))))))) (cond (Nat.blt k 53) (cond (Nat.blt k 48) (cond (Nat.blt k 43) (cond (Nat.blt k 42) (cond (Nat.beq k 41) (some (.aload_n 0)) (none)) (cond (Nat.beq k 42) (some (.iconst 2)) (none))) (cond (Nat.blt k 46) (cond (Nat.beq k 43) (some (.putfield 82)) (none)) (cond (Nat.blt k 47) (cond (Nat.beq k 46) (some (.dconst 0)) (none)) (cond (Nat.beq k 47) (some (.dreturn)) (none))))) (cond (Nat.blt k 50) (cond (Nat.blt k 49) (cond (Nat.beq k 48) (some (.aload_n 0)) (none)) (cond (Nat.beq k 49) (some (.aload_n 0)) (none))) (cond (Nat.blt k 51) (cond (Nat.beq k 50) (some (.aload_n 0)) (none)) (cond (Nat.blt k 52) (cond (Nat.beq k 51) (some (.aload_n 0)) (none)) (cond (Nat.beq k 52) (some (.aload_n 0)) (none)))))) (cond (Nat.blt k 62) (cond (Nat.blt k 55) (cond (Nat.blt k 54) (cond (Nat.beq k 53) (some (.iconst 0)) (none)) (cond (Nat.beq k 54) (some (.dup_x1)) (none))) (cond (Nat.blt k 58) (cond (Nat.beq k 55) (some (.putfield 198)) (none)) (cond (Nat.blt k 59) (cond (Nat.beq k 58) (some (.dup_x1)) (none)) (cond (Nat.beq k 59) (some (.putfield 225)) (none))))) (cond (Nat.blt k 66) (cond (Nat.blt k 63) (cond (Nat.beq k 62) (some (.dup_x1)) (none)) (cond (Nat.beq k 63) (some (.putfield 184)) (none))) (cond (Nat.blt k 67) (cond (Nat.beq k 66) (some (.dup_x1)) (none)) (cond (Nat.blt k 70) (cond (Nat.beq k 67) (some (.putfield 187)) (none)) (cond (Nat.beq k 70) (some (.putfield 161)) (none)))))))) (cond (Nat.blt k 104) (cond (Nat.blt k 88) (cond (Nat.blt k 80) (cond (Nat.blt k 75) (cond (Nat.blt k 74) (cond (Nat.beq k 73) (some (.aload_n 0)) (none)) (cond (Nat.beq k 74) (some (.iload_n 1)) (none))) (cond (Nat.blt k 76) (cond (Nat.beq k 75) (some (.iconst 0)) (none)) (cond (Nat.blt k 77) (cond (Nat.beq k 76) (some (.dload_n 2)) (none)) (cond (Nat.beq k 77) (some (.invokevirtual 232)) (none))))) (cond (Nat.blt k 82) (cond (Nat.blt k 81) (cond (Nat.beq k 80) (some (.aload_n 0)) (none)) (cond (Nat.beq k 81) (some (.iload_n 1)) (none))) (cond (Nat.blt k 83) (cond (Nat.beq k 82) (some (.iconst 1)) (none)) (cond (Nat.blt k 85) (cond (Nat.beq k 83) (some (.dload 4)) (none)) (cond (Nat.beq k 85) (some (.invokevirtual 232)) (none)))))) (cond (Nat.blt k 96) (cond (Nat.blt k 90) (cond (Nat.blt k 89) (cond (Nat.beq k 88) (some (.aload_n 0)) (none)) (cond (Nat.beq k 89) (some (.iload_n 1)) (none))) (cond (Nat.blt k 91) (cond (Nat.beq k 90) (some (.iconst 2)) (none)) (cond (Nat.blt k 93) (cond (Nat.beq k 91) (some (.dload 6)) (none)) (cond (Nat.beq k 93) (some (.invokevirtual 232)) (none))))) (cond (Nat.blt k 98) (cond (Nat.blt k 97) (cond (Nat.beq k 96) (some (.aload_n 0)) (none)) (cond (Nat.beq k 97) (some (.iload_n 1)) (none))) (cond (Nat.blt k 101) (cond (Nat.beq k 98) (some (.invokevirtual 219)) (none)) (cond (Nat.blt k 102) (cond (Nat.beq k 101) (some (.aload_n 0)) (none)) (cond (Nat.beq k 102) (some (.iload 8)) (none))))))) (cond (Nat.blt k 124) (cond (Nat.blt k 115) (cond (Nat.blt k 108) (cond (Nat.blt k 107) (cond (Nat.beq k 104) (some (.invokevirtual 236)) (none)) (cond (Nat.beq k 107) (some (.aload_n 0)) (none))) (cond (Nat.blt k 111) (cond (Nat.beq k 108) (some (.getfield 82)) (none)) (cond (Nat.blt k 114) (cond (Nat.beq k 111) (some (.ifCond .le 7)) (none)) (cond (Nat.beq k 114) (some (.dconst 0)) (none))))) (cond (Nat.blt k 119) (cond (Nat.blt k 118) (cond (Nat.beq k 115) (some (.goto 24)) (none)) (cond (Nat.beq k 118) (some (.aload_n 0)) (none))) (cond (Nat.blt k 122) (cond (Nat.beq k 119) (some (.getfield 28)) (none)) (cond (Nat.blt k 123) (cond (Nat.beq k 122) (some (.iload_n 1)) (none)) (cond (Nat.beq k 123) (some (.iaload)) (none)))))) (cond (Nat.blt k 131) (cond (Nat.blt k 128) (cond (Nat.blt k 125) (cond (Nat.beq k 124) (some (.aload_n 0)) (none)) (cond (Nat.beq k 125) (some (.getfield 58)) (none))) (cond (Nat.blt k 129) (cond (Nat.beq k 128) (some (.iconst 0)) (none)) (cond (Nat.blt k 130) (cond (Nat.beq k 129) (some (.laload)) (none)) (cond (Nat.beq k 130) (some (.aload_n 0)) (none))))) (cond (Nat.blt k 135) (cond (Nat.blt k 134) (cond (Nat.beq k 131) (some (.getfield 61)) (none)) (cond (Nat.beq k 134) (some (.iconst 0)) (none))) (cond (Nat.blt k 136) (cond (Nat.beq k 135) (some (.daload)) (none)) (cond (Nat.blt k 139) (cond (Nat.beq k 136) (some (.invokestatic 239)) (none)) (cond (Nat.beq k 139) (some (.dreturn)) (none))))))))
def fmD_run : fm_Me := (⟨"FlatModuleModel", "run", "(IDDDI)D"⟩, prog_9_method_42_code, 9, some .double, 6, fm_f6, fm_cut 140 fmD_run_i)
theorem fmD_run_dc : fm_dc prog_9_method_42_code (fm_cut 140 fmD_run_i) := fm_dc_of (by decide +kernel)
theorem fmD_run_o : fm_mok fmD_run := ⟨⟨fm_f6_o, fmD_run_dc⟩, fm_tb (List.mem_of_getElem? (i := 817) (by decide +kernel)) rfl, fm_tb (List.mem_of_getElem? (i := 7) (by decide +kernel)) rfl, rfl, by decide +kernel, by decide⟩
def fmD_global_i (k : Nat) : Option Instr := cond (Nat.blt k 16) (cond (Nat.blt k 7) (cond (Nat.blt k 2) (cond (Nat.blt k 1) (cond (Nat.beq k 0) (some (.aload_n 0)) (none)) (cond (Nat.beq k 1) (some (.iload_n 1)) (none))) (cond (Nat.blt k 3) (cond (Nat.beq k 2) (some (.iconst 0)) (none)) (cond (Nat.blt k 4) (cond (Nat.beq k 3) (some (.iconst 3)) (none)) (cond (Nat.beq k 4) (some (.invokestatic 86)) (none))))) (cond (Nat.blt k 13) (cond (Nat.blt k 10) (cond (Nat.beq k 7) (some (.invokevirtual 90)) (none)) (cond (Nat.beq k 10) (some (.ifCond .eq 5)) (none))) (cond (Nat.blt k 14) (cond (Nat.beq k 13) (some (.dconst 0)) (none)) (cond (Nat.blt k 15) (cond (Nat.beq k 14) (some (.dreturn)) (none)) (cond (Nat.beq k 15) (some (.iload_n 1)) (none)))))) (cond (Nat.blt k 23) (cond (Nat.blt k 20) (cond (Nat.blt k 17) (cond (Nat.beq k 16) (some (.aload_n 0)) (none)) (cond (Nat.beq k 17) (some (.getfield 35)) (none))) (cond (Nat.blt k 21) (cond (Nat.beq k 20) (some (.iload_n 1)) (none)) (cond (Nat.blt k 22) (cond (Nat.beq k 21) (some (.laload)) (none)) (cond (Nat.beq k 22) (some (.aload_n 0)) (none))))) (cond (Nat.blt k 27) (cond (Nat.blt k 26) (cond (Nat.beq k 23) (some (.getfield 39)) (none)) (cond (Nat.beq k 26) (some (.iload_n 1)) (none))) (cond (Nat.blt k 28) (cond (Nat.beq k 27) (some (.daload)) (none)) (cond (Nat.blt k 31) (cond (Nat.beq k 28) (some (.invokestatic 239)) (none)) (cond (Nat.beq k 31) (some (.dreturn)) (none))))))
def fmD_global : fm_Me := (⟨"FlatModuleModel", "global", "(I)D"⟩, prog_9_method_43_code, 2, some .double, 6, fm_f6, fm_cut 32 fmD_global_i)
theorem fmD_global_dc : fm_dc prog_9_method_43_code (fm_cut 32 fmD_global_i) := fm_dc_of (by decide +kernel)
theorem fmD_global_o : fm_mok fmD_global := ⟨⟨fm_f6_o, fmD_global_dc⟩, fm_tb (List.mem_of_getElem? (i := 890) (by decide +kernel)) rfl, fm_tb (List.mem_of_getElem? (i := 7) (by decide +kernel)) rfl, rfl, by decide +kernel, by decide⟩
def fmD_count_i (k : Nat) : Option Instr := cond (Nat.blt k 55) (cond (Nat.blt k 29) (cond (Nat.blt k 16) (cond (Nat.blt k 6) (cond (Nat.blt k 2) (cond (Nat.blt k 1) (cond (Nat.beq k 0) (some (.aload_n 0)) (none)) (cond (Nat.beq k 1) (some (.iconst 0)) (none))) (cond (Nat.blt k 5) (cond (Nat.beq k 2) (some (.putfield 82)) (none)) (cond (Nat.beq k 5) (some (.iload_n 1)) (none)))) (cond (Nat.blt k 10) (cond (Nat.blt k 8) (cond (Nat.beq k 6) (some (.bipush 10)) (none)) (cond (Nat.beq k 8) (some (.bipush 13)) (none))) (cond (Nat.blt k 13) (cond (Nat.beq k 10) (some (.invokestatic 86)) (none)) (cond (Nat.beq k 13) (some (.ifCond .eq 29)) (none))))) (cond (Nat.blt k 23) (cond (Nat.blt k 20) (cond (Nat.blt k 17) (cond (Nat.beq k 16) (some (.aload_n 0)) (none)) (cond (Nat.beq k 17) (some (.getfield 31)) (none))) (cond (Nat.blt k 21) (cond (Nat.beq k 20) (some (.iload_n 1)) (none)) (cond (Nat.beq k 21) (some (.bipush 10)) (none)))) (cond (Nat.blt k 25) (cond (Nat.blt k 24) (cond (Nat.beq k 23) (some (.isub)) (none)) (cond (Nat.beq k 24) (some (.baload)) (none))) (cond (Nat.blt k 28) (cond (Nat.beq k 25) (some (.ifCond .eq 15)) (none)) (cond (Nat.beq k 28) (some (.aload_n 0)) (none)))))) (cond (Nat.blt k 42) (cond (Nat.blt k 36) (cond (Nat.blt k 33) (cond (Nat.blt k 32) (cond (Nat.beq k 29) (some (.getfield 16)) (none)) (cond (Nat.beq k 32) (some (.iload_n 1)) (none))) (cond (Nat.blt k 35) (cond (Nat.beq k 33) (some (.bipush 10)) (none)) (cond (Nat.beq k 35) (some (.isub)) (none)))) (cond (Nat.blt k 40) (cond (Nat.blt k 37) (cond (Nat.beq k 36) (some (.iaload)) (none)) (cond (Nat.beq k 37) (some (.goto 4)) (none))) (cond (Nat.blt k 41) (cond (Nat.beq k 40) (some (.iconst 0)) (none)) (cond (Nat.beq k 41) (some (.ireturn)) (none))))) (cond (Nat.blt k 46) (cond (Nat.blt k 44) (cond (Nat.blt k 43) (cond (Nat.beq k 42) (some (.iconst 0)) (none)) (cond (Nat.beq k 43) (some (.istore_n 2)) (none))) (cond (Nat.blt k 45) (cond (Nat.beq k 44) (some (.iconst 0)) (none)) (cond (Nat.beq k 45) (some (.istore_n 3)) (none)))) (cond (Nat.blt k 48) (cond (Nat.blt k 47) (cond (Nat.beq k 46) (some (.iload_n 3)) (none)) (cond (Nat.beq k 47) (some (.iconst 4)) (none))) (cond (Nat.blt k 51) (cond (Nat.beq k 48) (some (.if_icmp .ge 21)) (none)) (cond (Nat.blt k 52) (cond (Nat.beq k 51) (some (.aload_n 0)) (none)) (cond (Nat.beq k 52) (some (.getfield 31)) (none)))))))) (cond (Nat.blt k 90) (cond (Nat.blt k 73) (cond (Nat.blt k 63) (cond (Nat.blt k 57) (cond (Nat.blt k 56) (cond (Nat.beq k 55) (some (.iload_n 3)) (none)) (cond (Nat.beq k 56) (some (.baload)) (none))) (cond (Nat.blt k 60) (cond (Nat.beq k 57) (some (.ifCond .eq 6)) (none)) (cond (Nat.beq k 60) (some (.iinc 2 1)) (none)))) (cond (Nat.blt k 69) (cond (Nat.blt k 66) (cond (Nat.beq k 63) (some (.iinc 3 1)) (none)) (cond (Nat.beq k 66) (some (.goto (-20))) (none))) (cond (Nat.blt k 70) (cond (Nat.beq k 69) (some (.iload_n 1)) (none)) (cond (Nat.beq k 70) (some (.ifCond .ne 7)) (none))))) (cond (Nat.blt k 79) (cond (Nat.blt k 77) (cond (Nat.blt k 74) (cond (Nat.beq k 73) (some (.iload_n 2)) (none)) (cond (Nat.beq k 74) (some (.goto 48)) (none))) (cond (Nat.blt k 78) (cond (Nat.beq k 77) (some (.iload_n 1)) (none)) (cond (Nat.beq k 78) (some (.iconst 1)) (none)))) (cond (Nat.blt k 83) (cond (Nat.blt k 82) (cond (Nat.beq k 79) (some (.if_icmp .ne 18)) (none)) (cond (Nat.beq k 82) (some (.aload_n 0)) (none))) (cond (Nat.blt k 86) (cond (Nat.beq k 83) (some (.getfield 94)) (none)) (cond (Nat.blt k 89) (cond (Nat.beq k 86) (some (.ifCond .eq 7)) (none)) (cond (Nat.beq k 89) (some (.iconst 1)) (none))))))) (cond (Nat.blt k 106) (cond (Nat.blt k 98) (cond (Nat.blt k 94) (cond (Nat.blt k 93) (cond (Nat.beq k 90) (some (.goto 32)) (none)) (cond (Nat.beq k 93) (some (.iconst 0)) (none))) (cond (Nat.blt k 97) (cond (Nat.beq k 94) (some (.goto 28)) (none)) (cond (Nat.beq k 97) (some (.iload_n 1)) (none)))) (cond (Nat.blt k 102) (cond (Nat.blt k 99) (cond (Nat.beq k 98) (some (.iconst 2)) (none)) (cond (Nat.beq k 99) (some (.if_icmp .ne 10)) (none))) (cond (Nat.blt k 103) (cond (Nat.beq k 102) (some (.aload_n 0)) (none)) (cond (Nat.beq k 103) (some (.getfield 225)) (none))))) (cond (Nat.blt k 114) (cond (Nat.blt k 110) (cond (Nat.blt k 109) (cond (Nat.beq k 106) (some (.goto 16)) (none)) (cond (Nat.beq k 109) (some (.iload_n 1)) (none))) (cond (Nat.blt k 111) (cond (Nat.beq k 110) (some (.iconst 3)) (none)) (cond (Nat.beq k 111) (some (.if_icmp .ne 10)) (none)))) (cond (Nat.blt k 118) (cond (Nat.blt k 115) (cond (Nat.beq k 114) (some (.aload_n 0)) (none)) (cond (Nat.beq k 115) (some (.getfield 198)) (none))) (cond (Nat.blt k 121) (cond (Nat.beq k 118) (some (.goto 4)) (none)) (cond (Nat.blt k 122) (cond (Nat.beq k 121) (some (.iconst (-1))) (none)) (cond (Nat.beq k 122) (some (.ireturn)) (none))))))))
def fmD_count : fm_Me := (⟨"FlatModuleModel", "count", "(I)I"⟩, prog_9_method_44_code, 4, some .int, 6, fm_f6, fm_cut 123 fmD_count_i)
theorem fmD_count_dc : fm_dc prog_9_method_44_code (fm_cut 123 fmD_count_i) := fm_dc_of (by decide +kernel)
theorem fmD_count_o : fm_mok fmD_count := ⟨⟨fm_f6_o, fmD_count_dc⟩, fm_tb (List.mem_of_getElem? (i := 894) (by decide +kernel)) rfl, fm_tb (List.mem_of_getElem? (i := 7) (by decide +kernel)) rfl, rfl, by decide +kernel, by decide⟩
end
section
/-! METHODS AS DATA, by program (wip/tools/gen_methods.py) -/

def fmF_function_i (k : Nat) : Option Instr := cond (Nat.blt k 33) (cond (Nat.blt k 16) (cond (Nat.blt k 8) (cond (Nat.blt k 2) (cond (Nat.blt k 1) (cond (Nat.beq k 0) (some (.iload_n 1)) (none)) (cond (Nat.beq k 1) (some (.iconst 3)) (none))) (cond (Nat.blt k 5) (cond (Nat.beq k 2) (some (.invokestatic 30)) (none)) (cond (Nat.beq k 5) (some (.ifCond .eq 28)) (none)))) (cond (Nat.blt k 10) (cond (Nat.blt k 9) (cond (Nat.beq k 8) (some (.iload_n 2)) (none)) (cond (Nat.beq k 9) (some (.iconst 3)) (none))) (cond (Nat.blt k 13) (cond (Nat.beq k 10) (some (.invokestatic 30)) (none)) (cond (Nat.beq k 13) (some (.ifCond .eq 20)) (none))))) (cond (Nat.blt k 24) (cond (Nat.blt k 18) (cond (Nat.blt k 17) (cond (Nat.beq k 16) (some (.iload_n 3)) (none)) (cond (Nat.beq k 17) (some (.iconst 3)) (none))) (cond (Nat.blt k 21) (cond (Nat.beq k 18) (some (.invokestatic 30)) (none)) (cond (Nat.beq k 21) (some (.ifCond .eq 12)) (none)))) (cond (Nat.blt k 27) (cond (Nat.blt k 26) (cond (Nat.beq k 24) (some (.iload 5)) (none)) (cond (Nat.beq k 26) (some (.iconst 4)) (none))) (cond (Nat.blt k 30) (cond (Nat.beq k 27) (some (.invokestatic 30)) (none)) (cond (Nat.beq k 30) (some (.ifCond .ne 11)) (none)))))) (cond (Nat.blt k 47) (cond (Nat.blt k 41) (cond (Nat.blt k 37) (cond (Nat.blt k 36) (cond (Nat.beq k 33) (some (.new 34)) (none)) (cond (Nat.beq k 36) (some (.dup)) (none))) (cond (Nat.blt k 40) (cond (Nat.beq k 37) (some (.invokespecial 36)) (none)) (cond (Nat.beq k 40) (some (.athrow)) (none)))) (cond (Nat.blt k 45) (cond (Nat.blt k 42) (cond (Nat.beq k 41) (some (.aload_n 0)) (none)) (cond (Nat.beq k 42) (some (.getfield 11)) (none))) (cond (Nat.blt k 46) (cond (Nat.beq k 45) (some (.iload_n 1)) (none)) (cond (Nat.beq k 46) (some (.aaload)) (none))))) (cond (Nat.blt k 53) (cond (Nat.blt k 49) (cond (Nat.blt k 48) (cond (Nat.beq k 47) (some (.iload_n 2)) (none)) (cond (Nat.beq k 48) (some (.iload_n 3)) (none))) (cond (Nat.blt k 51) (cond (Nat.beq k 49) (some (.iload 4)) (none)) (cond (Nat.beq k 51) (some (.iload 5)) (none)))) (cond (Nat.blt k 57) (cond (Nat.blt k 56) (cond (Nat.beq k 53) (some (.invokevirtual 37)) (none)) (cond (Nat.beq k 56) (some (.aload_n 0)) (none))) (cond (Nat.blt k 58) (cond (Nat.beq k 57) (some (.iconst 0)) (none)) (cond (Nat.blt k 61) (cond (Nat.beq k 58) (some (.putfield 41)) (none)) (cond (Nat.beq k 61) (some (.return_)) (none)))))))
def fmF_function : fm_Me := (⟨"FlatModule", "function", "(IIIII)V"⟩, prog_1_method_2_code, 6, none, 0, fm_f0, fm_cut 62 fmF_function_i)
theorem fmF_function_dc : fm_dc prog_1_method_2_code (fm_cut 62 fmF_function_i) := fm_dc_of (by decide +kernel)
theorem fmF_function_o : fm_mok fmF_function := ⟨⟨fm_f0_o, fmF_function_dc⟩, fm_tb (List.mem_of_getElem? (i := 355) (by decide +kernel)) rfl, fm_tb (List.mem_of_getElem? (i := 1) (by decide +kernel)) rfl, rfl, by decide +kernel, by decide⟩
def fmF_emit_i (k : Nat) : Option Instr := cond (Nat.blt k 39) (cond (Nat.blt k 20) (cond (Nat.blt k 8) (cond (Nat.blt k 2) (cond (Nat.blt k 1) (cond (Nat.beq k 0) (some (.aload_n 0)) (none)) (cond (Nat.beq k 1) (some (.iload_n 1)) (none))) (cond (Nat.blt k 5) (cond (Nat.beq k 2) (some (.invokevirtual 45)) (none)) (cond (Nat.beq k 5) (some (.ifCond .eq 12)) (none)))) (cond (Nat.blt k 11) (cond (Nat.blt k 9) (cond (Nat.beq k 8) (some (.iload_n 2)) (none)) (cond (Nat.beq k 9) (some (.bipush 30)) (none))) (cond (Nat.blt k 14) (cond (Nat.beq k 11) (some (.invokestatic 30)) (none)) (cond (Nat.blt k 17) (cond (Nat.beq k 14) (some (.ifCond .ne 11)) (none)) (cond (Nat.beq k 17) (some (.new 34)) (none)))))) (cond (Nat.blt k 29) (cond (Nat.blt k 24) (cond (Nat.blt k 21) (cond (Nat.beq k 20) (some (.dup)) (none)) (cond (Nat.beq k 21) (some (.invokespecial 36)) (none))) (cond (Nat.blt k 25) (cond (Nat.beq k 24) (some (.athrow)) (none)) (cond (Nat.blt k 26) (cond (Nat.beq k 25) (some (.aload_n 0)) (none)) (cond (Nat.beq k 26) (some (.getfield 11)) (none))))) (cond (Nat.blt k 31) (cond (Nat.blt k 30) (cond (Nat.beq k 29) (some (.iload_n 1)) (none)) (cond (Nat.beq k 30) (some (.aaload)) (none))) (cond (Nat.blt k 34) (cond (Nat.beq k 31) (some (.getfield 49)) (none)) (cond (Nat.blt k 36) (cond (Nat.beq k 34) (some (.bipush 40)) (none)) (cond (Nat.beq k 36) (some (.if_icmp .lt 11)) (none))))))) (cond (Nat.blt k 55) (cond (Nat.blt k 48) (cond (Nat.blt k 43) (cond (Nat.blt k 42) (cond (Nat.beq k 39) (some (.new 53)) (none)) (cond (Nat.beq k 42) (some (.dup)) (none))) (cond (Nat.blt k 46) (cond (Nat.beq k 43) (some (.invokespecial 55)) (none)) (cond (Nat.blt k 47) (cond (Nat.beq k 46) (some (.athrow)) (none)) (cond (Nat.beq k 47) (some (.aload_n 0)) (none))))) (cond (Nat.blt k 52) (cond (Nat.blt k 51) (cond (Nat.beq k 48) (some (.getfield 11)) (none)) (cond (Nat.beq k 51) (some (.iload_n 1)) (none))) (cond (Nat.blt k 53) (cond (Nat.beq k 52) (some (.aaload)) (none)) (cond (Nat.blt k 54) (cond (Nat.beq k 53) (some (.iload_n 2)) (none)) (cond (Nat.beq k 54) (some (.iload_n 3)) (none)))))) (cond (Nat.blt k 64) (cond (Nat.blt k 59) (cond (Nat.blt k 58) (cond (Nat.beq k 55) (some (.invokevirtual 56)) (none)) (cond (Nat.beq k 58) (some (.aload_n 0)) (none))) (cond (Nat.blt k 60) (cond (Nat.beq k 59) (some (.iconst 0)) (none)) (cond (Nat.blt k 63) (cond (Nat.beq k 60) (some (.putfield 41)) (none)) (cond (Nat.beq k 63) (some (.aload_n 0)) (none))))) (cond (Nat.blt k 68) (cond (Nat.blt k 67) (cond (Nat.beq k 64) (some (.getfield 11)) (none)) (cond (Nat.beq k 67) (some (.iload_n 1)) (none))) (cond (Nat.blt k 69) (cond (Nat.beq k 68) (some (.aaload)) (none)) (cond (Nat.blt k 72) (cond (Nat.beq k 69) (some (.getfield 49)) (none)) (cond (Nat.beq k 72) (some (.ireturn)) (none)))))))
def fmF_emit : fm_Me := (⟨"FlatModule", "emit", "(III)I"⟩, prog_1_method_3_code, 4, some .int, 0, fm_f0, fm_cut 73 fmF_emit_i)
theorem fmF_emit_dc : fm_dc prog_1_method_3_code (fm_cut 73 fmF_emit_i) := fm_dc_of (by decide +kernel)
theorem fmF_emit_o : fm_mok fmF_emit := ⟨⟨fm_f0_o, fmF_emit_dc⟩, fm_tb (List.mem_of_getElem? (i := 431) (by decide +kernel)) rfl, fm_tb (List.mem_of_getElem? (i := 1) (by decide +kernel)) rfl, rfl, by decide +kernel, by decide⟩
def fmF_erase_i (k : Nat) : Option Instr := cond (Nat.blt k 17) (cond (Nat.blt k 8) (cond (Nat.blt k 2) (cond (Nat.blt k 1) (cond (Nat.beq k 0) (some (.aload_n 0)) (none)) (cond (Nat.beq k 1) (some (.iload_n 1)) (none))) (cond (Nat.blt k 5) (cond (Nat.beq k 2) (some (.invokevirtual 45)) (none)) (cond (Nat.beq k 5) (some (.ifCond .ne 11)) (none)))) (cond (Nat.blt k 12) (cond (Nat.blt k 11) (cond (Nat.beq k 8) (some (.new 34)) (none)) (cond (Nat.beq k 11) (some (.dup)) (none))) (cond (Nat.blt k 15) (cond (Nat.beq k 12) (some (.invokespecial 36)) (none)) (cond (Nat.blt k 16) (cond (Nat.beq k 15) (some (.athrow)) (none)) (cond (Nat.beq k 16) (some (.aload_n 0)) (none)))))) (cond (Nat.blt k 23) (cond (Nat.blt k 21) (cond (Nat.blt k 20) (cond (Nat.beq k 17) (some (.getfield 11)) (none)) (cond (Nat.beq k 20) (some (.iload_n 1)) (none))) (cond (Nat.blt k 22) (cond (Nat.beq k 21) (some (.aaload)) (none)) (cond (Nat.beq k 22) (some (.iconst 0)) (none)))) (cond (Nat.blt k 27) (cond (Nat.blt k 26) (cond (Nat.beq k 23) (some (.putfield 49)) (none)) (cond (Nat.beq k 26) (some (.aload_n 0)) (none))) (cond (Nat.blt k 28) (cond (Nat.beq k 27) (some (.iconst 0)) (none)) (cond (Nat.blt k 31) (cond (Nat.beq k 28) (some (.putfield 41)) (none)) (cond (Nat.beq k 31) (some (.return_)) (none))))))
def fmF_erase : fm_Me := (⟨"FlatModule", "erase", "(I)V"⟩, prog_1_method_4_code, 2, none, 0, fm_f0, fm_cut 32 fmF_erase_i)
theorem fmF_erase_dc : fm_dc prog_1_method_4_code (fm_cut 32 fmF_erase_i) := fm_dc_of (by decide +kernel)
theorem fmF_erase_o : fm_mok fmF_erase := ⟨⟨fm_f0_o, fmF_erase_dc⟩, fm_tb (List.mem_of_getElem? (i := 461) (by decide +kernel)) rfl, fm_tb (List.mem_of_getElem? (i := 1) (by decide +kernel)) rfl, rfl, by decide +kernel, by decide⟩
def fmF_check_i (k : Nat) : Option Instr := cond (Nat.blt k 33) (cond (Nat.blt k 13) (cond (Nat.blt k 6) (cond (Nat.blt k 2) (cond (Nat.blt k 1) (cond (Nat.beq k 0) (some (.aload_n 0)) (none)) (cond (Nat.beq k 1) (some (.iconst 0)) (none))) (cond (Nat.blt k 5) (cond (Nat.beq k 2) (some (.putfield 41)) (none)) (cond (Nat.beq k 5) (some (.iconst 0)) (none)))) (cond (Nat.blt k 8) (cond (Nat.blt k 7) (cond (Nat.beq k 6) (some (.istore_n 1)) (none)) (cond (Nat.beq k 7) (some (.iload_n 1)) (none))) (cond (Nat.blt k 9) (cond (Nat.beq k 8) (some (.iconst 4)) (none)) (cond (Nat.blt k 12) (cond (Nat.beq k 9) (some (.if_icmp .ge 50)) (none)) (cond (Nat.beq k 12) (some (.aload_n 0)) (none)))))) (cond (Nat.blt k 24) (cond (Nat.blt k 17) (cond (Nat.blt k 16) (cond (Nat.beq k 13) (some (.getfield 11)) (none)) (cond (Nat.beq k 16) (some (.iload_n 1)) (none))) (cond (Nat.blt k 18) (cond (Nat.beq k 17) (some (.aaload)) (none)) (cond (Nat.blt k 21) (cond (Nat.beq k 18) (some (.getfield 60)) (none)) (cond (Nat.beq k 21) (some (.ifCond .eq 18)) (none))))) (cond (Nat.blt k 28) (cond (Nat.blt k 25) (cond (Nat.beq k 24) (some (.aload_n 0)) (none)) (cond (Nat.beq k 25) (some (.getfield 18)) (none))) (cond (Nat.blt k 29) (cond (Nat.beq k 28) (some (.aload_n 0)) (none)) (cond (Nat.blt k 32) (cond (Nat.beq k 29) (some (.getfield 11)) (none)) (cond (Nat.beq k 32) (some (.iload_n 1)) (none))))))) (cond (Nat.blt k 50) (cond (Nat.blt k 41) (cond (Nat.blt k 39) (cond (Nat.blt k 36) (cond (Nat.beq k 33) (some (.invokevirtual 63)) (none)) (cond (Nat.beq k 36) (some (.goto 4)) (none))) (cond (Nat.blt k 40) (cond (Nat.beq k 39) (some (.iconst 0)) (none)) (cond (Nat.beq k 40) (some (.istore_n 2)) (none)))) (cond (Nat.blt k 45) (cond (Nat.blt k 42) (cond (Nat.beq k 41) (some (.iload_n 2)) (none)) (cond (Nat.beq k 42) (some (.ifCond .eq 11)) (none))) (cond (Nat.blt k 48) (cond (Nat.beq k 45) (some (.sipush 10000)) (none)) (cond (Nat.blt k 49) (cond (Nat.beq k 48) (some (.iload_n 1)) (none)) (cond (Nat.beq k 49) (some (.imul)) (none)))))) (cond (Nat.blt k 59) (cond (Nat.blt k 52) (cond (Nat.blt k 51) (cond (Nat.beq k 50) (some (.iload_n 2)) (none)) (cond (Nat.beq k 51) (some (.iadd)) (none))) (cond (Nat.blt k 53) (cond (Nat.beq k 52) (some (.ireturn)) (none)) (cond (Nat.blt k 56) (cond (Nat.beq k 53) (some (.iinc 1 1)) (none)) (cond (Nat.beq k 56) (some (.goto (-49))) (none))))) (cond (Nat.blt k 61) (cond (Nat.blt k 60) (cond (Nat.beq k 59) (some (.aload_n 0)) (none)) (cond (Nat.beq k 60) (some (.iconst 1)) (none))) (cond (Nat.blt k 64) (cond (Nat.beq k 61) (some (.putfield 41)) (none)) (cond (Nat.blt k 65) (cond (Nat.beq k 64) (some (.iconst 0)) (none)) (cond (Nat.beq k 65) (some (.ireturn)) (none)))))))
def fmF_check : fm_Me := (⟨"FlatModule", "check", "()I"⟩, prog_1_method_5_code, 3, some .int, 0, fm_f0, fm_cut 66 fmF_check_i)
theorem fmF_check_dc : fm_dc prog_1_method_5_code (fm_cut 66 fmF_check_i) := fm_dc_of (by decide +kernel)
theorem fmF_check_o : fm_mok fmF_check := ⟨⟨fm_f0_o, fmF_check_dc⟩, fm_tb (List.mem_of_getElem? (i := 235) (by decide +kernel)) rfl, fm_tb (List.mem_of_getElem? (i := 1) (by decide +kernel)) rfl, rfl, by decide +kernel, by decide⟩
def fmF_run_i (k : Nat) : Option Instr := cond (Nat.blt k 57) (cond (Nat.blt k 29) (cond (Nat.blt k 11) (cond (Nat.blt k 5) (cond (Nat.blt k 1) (cond (Nat.beq k 0) (some (.aload_n 0)) (none)) (cond (Nat.blt k 2) (cond (Nat.beq k 1) (some (.iload_n 1)) (none)) (cond (Nat.beq k 2) (some (.invokevirtual 45)) (none)))) (cond (Nat.blt k 8) (cond (Nat.beq k 5) (some (.ifCond .eq 17)) (none)) (cond (Nat.blt k 10) (cond (Nat.beq k 8) (some (.iload 8)) (none)) (cond (Nat.beq k 10) (some (.iconst 1)) (none))))) (cond (Nat.blt k 19) (cond (Nat.blt k 14) (cond (Nat.beq k 11) (some (.if_icmp .lt 11)) (none)) (cond (Nat.blt k 16) (cond (Nat.beq k 14) (some (.iload 8)) (none)) (cond (Nat.beq k 16) (some (.sipush 300)) (none)))) (cond (Nat.blt k 25) (cond (Nat.blt k 22) (cond (Nat.beq k 19) (some (.if_icmp .le 11)) (none)) (cond (Nat.beq k 22) (some (.new 34)) (none))) (cond (Nat.blt k 26) (cond (Nat.beq k 25) (some (.dup)) (none)) (cond (Nat.beq k 26) (some (.invokespecial 36)) (none)))))) (cond (Nat.blt k 44) (cond (Nat.blt k 34) (cond (Nat.blt k 30) (cond (Nat.beq k 29) (some (.athrow)) (none)) (cond (Nat.blt k 31) (cond (Nat.beq k 30) (some (.aload_n 0)) (none)) (cond (Nat.beq k 31) (some (.getfield 41)) (none)))) (cond (Nat.blt k 40) (cond (Nat.blt k 37) (cond (Nat.beq k 34) (some (.ifCond .ne 11)) (none)) (cond (Nat.beq k 37) (some (.new 53)) (none))) (cond (Nat.blt k 41) (cond (Nat.beq k 40) (some (.dup)) (none)) (cond (Nat.beq k 41) (some (.invokespecial 55)) (none))))) (cond (Nat.blt k 49) (cond (Nat.blt k 45) (cond (Nat.beq k 44) (some (.athrow)) (none)) (cond (Nat.blt k 46) (cond (Nat.beq k 45) (some (.aload_n 0)) (none)) (cond (Nat.beq k 46) (some (.getfield 25)) (none)))) (cond (Nat.blt k 53) (cond (Nat.blt k 50) (cond (Nat.beq k 49) (some (.aload_n 0)) (none)) (cond (Nat.beq k 50) (some (.getfield 11)) (none))) (cond (Nat.blt k 54) (cond (Nat.beq k 53) (some (.iload_n 1)) (none)) (cond (Nat.beq k 54) (some (.invokevirtual 67)) (none))))))) (cond (Nat.blt k 81) (cond (Nat.blt k 67) (cond (Nat.blt k 62) (cond (Nat.blt k 58) (cond (Nat.beq k 57) (some (.aload_n 0)) (none)) (cond (Nat.blt k 61) (cond (Nat.beq k 58) (some (.getfield 25)) (none)) (cond (Nat.beq k 61) (some (.iconst 0)) (none)))) (cond (Nat.blt k 63) (cond (Nat.beq k 62) (some (.dload_n 2)) (none)) (cond (Nat.blt k 66) (cond (Nat.beq k 63) (some (.invokevirtual 71)) (none)) (cond (Nat.beq k 66) (some (.aload_n 0)) (none))))) (cond (Nat.blt k 73) (cond (Nat.blt k 70) (cond (Nat.beq k 67) (some (.getfield 25)) (none)) (cond (Nat.blt k 71) (cond (Nat.beq k 70) (some (.iconst 1)) (none)) (cond (Nat.beq k 71) (some (.dload 4)) (none)))) (cond (Nat.blt k 77) (cond (Nat.blt k 76) (cond (Nat.beq k 73) (some (.invokevirtual 71)) (none)) (cond (Nat.beq k 76) (some (.aload_n 0)) (none))) (cond (Nat.blt k 80) (cond (Nat.beq k 77) (some (.getfield 25)) (none)) (cond (Nat.beq k 80) (some (.iconst 2)) (none)))))) (cond (Nat.blt k 96) (cond (Nat.blt k 87) (cond (Nat.blt k 83) (cond (Nat.beq k 81) (some (.dload 6)) (none)) (cond (Nat.blt k 86) (cond (Nat.beq k 83) (some (.invokevirtual 71)) (none)) (cond (Nat.beq k 86) (some (.aload_n 0)) (none)))) (cond (Nat.blt k 92) (cond (Nat.blt k 90) (cond (Nat.beq k 87) (some (.getfield 25)) (none)) (cond (Nat.beq k 90) (some (.iload 8)) (none))) (cond (Nat.blt k 95) (cond (Nat.beq k 92) (some (.invokevirtual 75)) (none)) (cond (Nat.beq k 95) (some (.aload_n 0)) (none))))) (cond (Nat.blt k 103) (cond (Nat.blt k 99) (cond (Nat.beq k 96) (some (.getfield 25)) (none)) (cond (Nat.blt k 100) (cond (Nat.beq k 99) (some (.aload_n 0)) (none)) (cond (Nat.beq k 100) (some (.getfield 11)) (none)))) (cond (Nat.blt k 105) (cond (Nat.blt k 104) (cond (Nat.beq k 103) (some (.iload_n 1)) (none)) (cond (Nat.beq k 104) (some (.aaload)) (none))) (cond (Nat.blt k 108) (cond (Nat.beq k 105) (some (.invokevirtual 79)) (none)) (cond (Nat.beq k 108) (some (.dreturn)) (none)))))))
def fmF_run : fm_Me := (⟨"FlatModule", "run", "(IDDDI)D"⟩, prog_1_method_6_code, 9, some .double, 0, fm_f0, fm_cut 109 fmF_run_i)
theorem fmF_run_dc : fm_dc prog_1_method_6_code (fm_cut 109 fmF_run_i) := fm_dc_of (by decide +kernel)
theorem fmF_run_o : fm_mok fmF_run := ⟨⟨fm_f0_o, fmF_run_dc⟩, fm_tb (List.mem_of_getElem? (i := 470) (by decide +kernel)) rfl, fm_tb (List.mem_of_getElem? (i := 1) (by decide +kernel)) rfl, rfl, by decide +kernel, by decide⟩
def fmF_global_i (k : Nat) : Option Instr := cond (Nat.blt k 12) (cond (Nat.blt k 5) (cond (Nat.blt k 1) (cond (Nat.beq k 0) (some (.iload_n 1)) (none)) (cond (Nat.blt k 2) (cond (Nat.beq k 1) (some (.iconst 3)) (none)) (cond (Nat.beq k 2) (some (.invokestatic 30)) (none)))) (cond (Nat.blt k 8) (cond (Nat.beq k 5) (some (.ifCond .ne 11)) (none)) (cond (Nat.blt k 11) (cond (Nat.beq k 8) (some (.new 34)) (none)) (cond (Nat.beq k 11) (some (.dup)) (none))))) (cond (Nat.blt k 17) (cond (Nat.blt k 15) (cond (Nat.beq k 12) (some (.invokespecial 36)) (none)) (cond (Nat.blt k 16) (cond (Nat.beq k 15) (some (.athrow)) (none)) (cond (Nat.beq k 16) (some (.aload_n 0)) (none)))) (cond (Nat.blt k 21) (cond (Nat.blt k 20) (cond (Nat.beq k 17) (some (.getfield 25)) (none)) (cond (Nat.beq k 20) (some (.iload_n 1)) (none))) (cond (Nat.blt k 24) (cond (Nat.beq k 21) (some (.invokevirtual 83)) (none)) (cond (Nat.beq k 24) (some (.dreturn)) (none)))))
def fmF_global : fm_Me := (⟨"FlatModule", "global", "(I)D"⟩, prog_1_method_7_code, 2, some .double, 0, fm_f0, fm_cut 25 fmF_global_i)
theorem fmF_global_dc : fm_dc prog_1_method_7_code (fm_cut 25 fmF_global_i) := fm_dc_of (by decide +kernel)
theorem fmF_global_o : fm_mok fmF_global := ⟨⟨fm_f0_o, fmF_global_dc⟩, fm_tb (List.mem_of_getElem? (i := 611) (by decide +kernel)) rfl, fm_tb (List.mem_of_getElem? (i := 1) (by decide +kernel)) rfl, rfl, by decide +kernel, by decide⟩
def fmF_count_i (k : Nat) : Option Instr := cond (Nat.blt k 62) (cond (Nat.blt k 45) (cond (Nat.blt k 36) (cond (Nat.blt k 32) (cond (Nat.blt k 1) (cond (Nat.beq k 0) (some (.iload_n 1)) (none)) (cond (Nat.beq k 1) (some (.tableswitch 65 0 3 #[31, 36, 49, 57])) (none))) (cond (Nat.blt k 33) (cond (Nat.beq k 32) (some (.aload_n 0)) (none)) (cond (Nat.beq k 33) (some (.invokevirtual 87)) (none)))) (cond (Nat.blt k 38) (cond (Nat.blt k 37) (cond (Nat.beq k 36) (some (.ireturn)) (none)) (cond (Nat.beq k 37) (some (.aload_n 0)) (none))) (cond (Nat.blt k 41) (cond (Nat.beq k 38) (some (.getfield 41)) (none)) (cond (Nat.blt k 44) (cond (Nat.beq k 41) (some (.ifCond .eq 7)) (none)) (cond (Nat.beq k 44) (some (.iconst 1)) (none)))))) (cond (Nat.blt k 51) (cond (Nat.blt k 49) (cond (Nat.blt k 48) (cond (Nat.beq k 45) (some (.goto 4)) (none)) (cond (Nat.beq k 48) (some (.iconst 0)) (none))) (cond (Nat.blt k 50) (cond (Nat.beq k 49) (some (.ireturn)) (none)) (cond (Nat.beq k 50) (some (.aload_n 0)) (none)))) (cond (Nat.blt k 57) (cond (Nat.blt k 54) (cond (Nat.beq k 51) (some (.getfield 25)) (none)) (cond (Nat.beq k 54) (some (.getfield 91)) (none))) (cond (Nat.blt k 58) (cond (Nat.beq k 57) (some (.ireturn)) (none)) (cond (Nat.blt k 59) (cond (Nat.beq k 58) (some (.aload_n 0)) (none)) (cond (Nat.beq k 59) (some (.getfield 25)) (none))))))) (cond (Nat.blt k 78) (cond (Nat.blt k 69) (cond (Nat.blt k 66) (cond (Nat.blt k 65) (cond (Nat.beq k 62) (some (.getfield 94)) (none)) (cond (Nat.beq k 65) (some (.ireturn)) (none))) (cond (Nat.blt k 67) (cond (Nat.beq k 66) (some (.iload_n 1)) (none)) (cond (Nat.beq k 67) (some (.bipush 10)) (none)))) (cond (Nat.blt k 71) (cond (Nat.blt k 70) (cond (Nat.beq k 69) (some (.isub)) (none)) (cond (Nat.beq k 70) (some (.iconst 3)) (none))) (cond (Nat.blt k 74) (cond (Nat.beq k 71) (some (.invokestatic 30)) (none)) (cond (Nat.blt k 77) (cond (Nat.beq k 74) (some (.ifCond .eq 18)) (none)) (cond (Nat.beq k 77) (some (.aload_n 0)) (none)))))) (cond (Nat.blt k 85) (cond (Nat.blt k 82) (cond (Nat.blt k 81) (cond (Nat.beq k 78) (some (.getfield 11)) (none)) (cond (Nat.beq k 81) (some (.iload_n 1)) (none))) (cond (Nat.blt k 84) (cond (Nat.beq k 82) (some (.bipush 10)) (none)) (cond (Nat.beq k 84) (some (.isub)) (none)))) (cond (Nat.blt k 89) (cond (Nat.blt k 86) (cond (Nat.beq k 85) (some (.aaload)) (none)) (cond (Nat.beq k 86) (some (.getfield 49)) (none))) (cond (Nat.blt k 92) (cond (Nat.beq k 89) (some (.goto 4)) (none)) (cond (Nat.blt k 93) (cond (Nat.beq k 92) (some (.iconst (-1))) (none)) (cond (Nat.beq k 93) (some (.ireturn)) (none)))))))
def fmF_count : fm_Me := (⟨"FlatModule", "count", "(I)I"⟩, prog_1_method_8_code, 2, some .int, 0, fm_f0, fm_cut 94 fmF_count_i)
theorem fmF_count_dc : fm_dc prog_1_method_8_code (fm_cut 94 fmF_count_i) := fm_dc_of (by decide +kernel)
theorem fmF_count_o : fm_mok fmF_count := ⟨⟨fm_f0_o, fmF_count_dc⟩, fm_tb (List.mem_of_getElem? (i := 342) (by decide +kernel)) rfl, fm_tb (List.mem_of_getElem? (i := 1) (by decide +kernel)) rfl, rfl, by decide +kernel, by decide⟩
def fmF_functionsThere_i (k : Nat) : Option Instr := cond (Nat.blt k 13) (cond (Nat.blt k 4) (cond (Nat.blt k 2) (cond (Nat.blt k 1) (cond (Nat.beq k 0) (some (.iconst 0)) (none)) (cond (Nat.beq k 1) (some (.istore_n 1)) (none))) (cond (Nat.blt k 3) (cond (Nat.beq k 2) (some (.iconst 0)) (none)) (cond (Nat.beq k 3) (some (.istore_n 2)) (none)))) (cond (Nat.blt k 6) (cond (Nat.blt k 5) (cond (Nat.beq k 4) (some (.iload_n 2)) (none)) (cond (Nat.beq k 5) (some (.iconst 4)) (none))) (cond (Nat.blt k 9) (cond (Nat.beq k 6) (some (.if_icmp .ge 24)) (none)) (cond (Nat.blt k 10) (cond (Nat.beq k 9) (some (.aload_n 0)) (none)) (cond (Nat.beq k 10) (some (.getfield 11)) (none)))))) (cond (Nat.blt k 21) (cond (Nat.blt k 15) (cond (Nat.blt k 14) (cond (Nat.beq k 13) (some (.iload_n 2)) (none)) (cond (Nat.beq k 14) (some (.aaload)) (none))) (cond (Nat.blt k 18) (cond (Nat.beq k 15) (some (.getfield 60)) (none)) (cond (Nat.beq k 18) (some (.ifCond .eq 6)) (none)))) (cond (Nat.blt k 27) (cond (Nat.blt k 24) (cond (Nat.beq k 21) (some (.iinc 1 1)) (none)) (cond (Nat.beq k 24) (some (.iinc 2 1)) (none))) (cond (Nat.blt k 30) (cond (Nat.beq k 27) (some (.goto (-23))) (none)) (cond (Nat.blt k 31) (cond (Nat.beq k 30) (some (.iload_n 1)) (none)) (cond (Nat.beq k 31) (some (.ireturn)) (none))))))
def fmF_functionsThere : fm_Me := (⟨"FlatModule", "functionsThere", "()I"⟩, prog_1_method_9_code, 3, some .int, 0, fm_f0, fm_cut 32 fmF_functionsThere_i)
theorem fmF_functionsThere_dc : fm_dc prog_1_method_9_code (fm_cut 32 fmF_functionsThere_i) := fm_dc_of (by decide +kernel)
theorem fmF_functionsThere_o : fm_mok fmF_functionsThere := ⟨⟨fm_f0_o, fmF_functionsThere_dc⟩, fm_tb (List.mem_of_getElem? (i := 346) (by decide +kernel)) rfl, fm_tb (List.mem_of_getElem? (i := 1) (by decide +kernel)) rfl, rfl, by decide +kernel, by decide⟩
def fmF_isThere_i (k : Nat) : Option Instr := cond (Nat.blt k 13) (cond (Nat.blt k 5) (cond (Nat.blt k 1) (cond (Nat.beq k 0) (some (.iload_n 1)) (none)) (cond (Nat.blt k 2) (cond (Nat.beq k 1) (some (.iconst 3)) (none)) (cond (Nat.beq k 2) (some (.invokestatic 30)) (none)))) (cond (Nat.blt k 9) (cond (Nat.blt k 8) (cond (Nat.beq k 5) (some (.ifCond .eq 19)) (none)) (cond (Nat.beq k 8) (some (.aload_n 0)) (none))) (cond (Nat.blt k 12) (cond (Nat.beq k 9) (some (.getfield 11)) (none)) (cond (Nat.beq k 12) (some (.iload_n 1)) (none))))) (cond (Nat.blt k 20) (cond (Nat.blt k 14) (cond (Nat.beq k 13) (some (.aaload)) (none)) (cond (Nat.blt k 17) (cond (Nat.beq k 14) (some (.getfield 60)) (none)) (cond (Nat.beq k 17) (some (.ifCond .eq 7)) (none)))) (cond (Nat.blt k 24) (cond (Nat.blt k 21) (cond (Nat.beq k 20) (some (.iconst 1)) (none)) (cond (Nat.beq k 21) (some (.goto 4)) (none))) (cond (Nat.blt k 25) (cond (Nat.beq k 24) (some (.iconst 0)) (none)) (cond (Nat.beq k 25) (some (.ireturn)) (none)))))
def fmF_isThere : fm_Me := (⟨"FlatModule", "isThere", "(I)Z"⟩, prog_1_method_10_code, 2, some .boolean, 0, fm_f0, fm_cut 26 fmF_isThere_i)
theorem fmF_isThere_dc : fm_dc prog_1_method_10_code (fm_cut 26 fmF_isThere_i) := fm_dc_of (by decide +kernel)
theorem fmF_isThere_o : fm_mok fmF_isThere := ⟨⟨fm_f0_o, fmF_isThere_dc⟩, fm_tb (List.mem_of_getElem? (i := 435) (by decide +kernel)) rfl, fm_tb (List.mem_of_getElem? (i := 1) (by decide +kernel)) rfl, rfl, by decide +kernel, by decide⟩
def fmF_isWithin_i (k : Nat) : Option Instr := cond (Nat.blt k 6) (cond (Nat.blt k 4) (cond (Nat.blt k 1) (cond (Nat.beq k 0) (some (.iload_n 0)) (none)) (cond (Nat.beq k 1) (some (.ifCond .lt 12)) (none))) (cond (Nat.blt k 5) (cond (Nat.beq k 4) (some (.iload_n 0)) (none)) (cond (Nat.beq k 5) (some (.iload_n 1)) (none)))) (cond (Nat.blt k 10) (cond (Nat.blt k 9) (cond (Nat.beq k 6) (some (.if_icmp .gt 7)) (none)) (cond (Nat.beq k 9) (some (.iconst 1)) (none))) (cond (Nat.blt k 13) (cond (Nat.beq k 10) (some (.goto 4)) (none)) (cond (Nat.blt k 14) (cond (Nat.beq k 13) (some (.iconst 0)) (none)) (cond (Nat.beq k 14) (some (.ireturn)) (none)))))
def fmF_isWithin : fm_Me := (⟨"FlatModule", "isWithin", "(II)Z"⟩, prog_1_method_11_code, 2, some .boolean, 0, fm_f0, fm_cut 15 fmF_isWithin_i)
theorem fmF_isWithin_dc : fm_dc prog_1_method_11_code (fm_cut 15 fmF_isWithin_i) := fm_dc_of (by decide +kernel)
theorem fmF_isWithin_o : fm_mok fmF_isWithin := ⟨⟨fm_f0_o, fmF_isWithin_dc⟩, fm_tb (List.mem_of_getElem? (i := 258) (by decide +kernel)) rfl, fm_tb (List.mem_of_getElem? (i := 1) (by decide +kernel)) rfl, rfl, by decide +kernel, by decide⟩
end
section
/-! METHODS AS DATA, by program (wip/tools/gen_methods.py) -/

def fmK_add_i (k : Nat) : Option Instr := cond (Nat.blt k 34) (cond (Nat.blt k 18) (cond (Nat.blt k 10) (cond (Nat.blt k 4) (cond (Nat.blt k 1) (cond (Nat.beq k 0) (some (.aload_n 0)) (none)) (cond (Nat.beq k 1) (some (.getfield 30)) (none))) (cond (Nat.blt k 6) (cond (Nat.beq k 4) (some (.istore 4)) (none)) (cond (Nat.blt k 7) (cond (Nat.beq k 6) (some (.aload_n 0)) (none)) (cond (Nat.beq k 7) (some (.getfield 9)) (none))))) (cond (Nat.blt k 13) (cond (Nat.blt k 12) (cond (Nat.beq k 10) (some (.iload 4)) (none)) (cond (Nat.beq k 12) (some (.iload_n 1)) (none))) (cond (Nat.blt k 14) (cond (Nat.beq k 13) (some (.iastore)) (none)) (cond (Nat.blt k 15) (cond (Nat.beq k 14) (some (.aload_n 0)) (none)) (cond (Nat.beq k 15) (some (.getfield 15)) (none)))))) (cond (Nat.blt k 26) (cond (Nat.blt k 21) (cond (Nat.blt k 20) (cond (Nat.beq k 18) (some (.iload 4)) (none)) (cond (Nat.beq k 20) (some (.iload_n 2)) (none))) (cond (Nat.blt k 22) (cond (Nat.beq k 21) (some (.iastore)) (none)) (cond (Nat.blt k 23) (cond (Nat.beq k 22) (some (.aload_n 0)) (none)) (cond (Nat.beq k 23) (some (.getfield 18)) (none))))) (cond (Nat.blt k 29) (cond (Nat.blt k 28) (cond (Nat.beq k 26) (some (.iload 4)) (none)) (cond (Nat.beq k 28) (some (.iload_n 3)) (none))) (cond (Nat.blt k 30) (cond (Nat.beq k 29) (some (.iastore)) (none)) (cond (Nat.blt k 31) (cond (Nat.beq k 30) (some (.aload_n 0)) (none)) (cond (Nat.beq k 31) (some (.getfield 21)) (none))))))) (cond (Nat.blt k 50) (cond (Nat.blt k 42) (cond (Nat.blt k 37) (cond (Nat.blt k 36) (cond (Nat.beq k 34) (some (.iload 4)) (none)) (cond (Nat.beq k 36) (some (.iconst (-1))) (none))) (cond (Nat.blt k 38) (cond (Nat.beq k 37) (some (.iastore)) (none)) (cond (Nat.blt k 39) (cond (Nat.beq k 38) (some (.aload_n 0)) (none)) (cond (Nat.beq k 39) (some (.getfield 24)) (none))))) (cond (Nat.blt k 45) (cond (Nat.blt k 44) (cond (Nat.beq k 42) (some (.iload 4)) (none)) (cond (Nat.beq k 44) (some (.iconst (-1))) (none))) (cond (Nat.blt k 46) (cond (Nat.beq k 45) (some (.iastore)) (none)) (cond (Nat.blt k 47) (cond (Nat.beq k 46) (some (.aload_n 0)) (none)) (cond (Nat.beq k 47) (some (.getfield 27)) (none)))))) (cond (Nat.blt k 56) (cond (Nat.blt k 53) (cond (Nat.blt k 52) (cond (Nat.beq k 50) (some (.iload 4)) (none)) (cond (Nat.beq k 52) (some (.iconst (-1))) (none))) (cond (Nat.blt k 54) (cond (Nat.beq k 53) (some (.iastore)) (none)) (cond (Nat.blt k 55) (cond (Nat.beq k 54) (some (.aload_n 0)) (none)) (cond (Nat.beq k 55) (some (.dup)) (none))))) (cond (Nat.blt k 61) (cond (Nat.blt k 59) (cond (Nat.beq k 56) (some (.getfield 30)) (none)) (cond (Nat.blt k 60) (cond (Nat.beq k 59) (some (.iconst 1)) (none)) (cond (Nat.beq k 60) (some (.iadd)) (none)))) (cond (Nat.blt k 64) (cond (Nat.beq k 61) (some (.putfield 30)) (none)) (cond (Nat.blt k 66) (cond (Nat.beq k 64) (some (.iload 4)) (none)) (cond (Nat.beq k 66) (some (.ireturn)) (none)))))))
def fmK_add : fm_Me := (⟨"FlatModule$FlatCode", "add", "(III)I"⟩, prog_4_method_2_code, 5, some .int, 2, fm_f2, fm_cut 67 fmK_add_i)
theorem fmK_add_dc : fm_dc prog_4_method_2_code (fm_cut 67 fmK_add_i) := fm_dc_of (by decide +kernel)
theorem fmK_add_o : fm_mok fmK_add := ⟨⟨fm_f2_o, fmK_add_dc⟩, fm_tb (List.mem_of_getElem? (i := 274) (by decide +kernel)) rfl, fm_tb (List.mem_of_getElem? (i := 6) (by decide +kernel)) rfl, rfl, by decide +kernel, by decide⟩
def fmK_sendHere_i (k : Nat) : Option Instr := cond (Nat.blt k 9) (cond (Nat.blt k 2) (cond (Nat.blt k 1) (cond (Nat.beq k 0) (some (.iload_n 1)) (none)) (cond (Nat.beq k 1) (some (.iconst (-1))) (none))) (cond (Nat.blt k 5) (cond (Nat.beq k 2) (some (.if_icmp .eq 13)) (none)) (cond (Nat.blt k 6) (cond (Nat.beq k 5) (some (.aload_n 0)) (none)) (cond (Nat.beq k 6) (some (.getfield 24)) (none))))) (cond (Nat.blt k 11) (cond (Nat.blt k 10) (cond (Nat.beq k 9) (some (.iload_n 1)) (none)) (cond (Nat.beq k 10) (some (.aload_n 0)) (none))) (cond (Nat.blt k 14) (cond (Nat.beq k 11) (some (.getfield 30)) (none)) (cond (Nat.blt k 15) (cond (Nat.beq k 14) (some (.iastore)) (none)) (cond (Nat.beq k 15) (some (.return_)) (none)))))
def fmK_sendHere : fm_Me := (⟨"FlatModule$FlatCode", "sendHere", "(I)V"⟩, prog_4_method_3_code, 2, none, 2, fm_f2, fm_cut 16 fmK_sendHere_i)
theorem fmK_sendHere_dc : fm_dc prog_4_method_3_code (fm_cut 16 fmK_sendHere_i) := fm_dc_of (by decide +kernel)
theorem fmK_sendHere_o : fm_mok fmK_sendHere := ⟨⟨fm_f2_o, fmK_sendHere_dc⟩, fm_tb (List.mem_of_getElem? (i := 306) (by decide +kernel)) rfl, fm_tb (List.mem_of_getElem? (i := 6) (by decide +kernel)) rfl, rfl, by decide +kernel, by decide⟩
def fmK_sendHereAllFor_i (k : Nat) : Option Instr := cond (Nat.blt k 21) (cond (Nat.blt k 10) (cond (Nat.blt k 3) (cond (Nat.blt k 1) (cond (Nat.beq k 0) (some (.iconst 0)) (none)) (cond (Nat.blt k 2) (cond (Nat.beq k 1) (some (.istore_n 2)) (none)) (cond (Nat.beq k 2) (some (.iload_n 2)) (none)))) (cond (Nat.blt k 4) (cond (Nat.beq k 3) (some (.aload_n 0)) (none)) (cond (Nat.blt k 7) (cond (Nat.beq k 4) (some (.getfield 30)) (none)) (cond (Nat.beq k 7) (some (.if_icmp .ge 36)) (none))))) (cond (Nat.blt k 15) (cond (Nat.blt k 11) (cond (Nat.beq k 10) (some (.aload_n 0)) (none)) (cond (Nat.blt k 14) (cond (Nat.beq k 11) (some (.getfield 27)) (none)) (cond (Nat.beq k 14) (some (.iload_n 2)) (none)))) (cond (Nat.blt k 17) (cond (Nat.blt k 16) (cond (Nat.beq k 15) (some (.iaload)) (none)) (cond (Nat.beq k 16) (some (.iload_n 1)) (none))) (cond (Nat.blt k 20) (cond (Nat.beq k 17) (some (.if_icmp .ne 20)) (none)) (cond (Nat.beq k 20) (some (.aload_n 0)) (none)))))) (cond (Nat.blt k 31) (cond (Nat.blt k 26) (cond (Nat.blt k 24) (cond (Nat.beq k 21) (some (.getfield 24)) (none)) (cond (Nat.blt k 25) (cond (Nat.beq k 24) (some (.iload_n 2)) (none)) (cond (Nat.beq k 25) (some (.aload_n 0)) (none)))) (cond (Nat.blt k 29) (cond (Nat.beq k 26) (some (.getfield 30)) (none)) (cond (Nat.blt k 30) (cond (Nat.beq k 29) (some (.iastore)) (none)) (cond (Nat.beq k 30) (some (.aload_n 0)) (none))))) (cond (Nat.blt k 36) (cond (Nat.blt k 34) (cond (Nat.beq k 31) (some (.getfield 27)) (none)) (cond (Nat.blt k 35) (cond (Nat.beq k 34) (some (.iload_n 2)) (none)) (cond (Nat.beq k 35) (some (.iconst (-1))) (none)))) (cond (Nat.blt k 40) (cond (Nat.blt k 37) (cond (Nat.beq k 36) (some (.iastore)) (none)) (cond (Nat.beq k 37) (some (.iinc 2 1)) (none))) (cond (Nat.blt k 43) (cond (Nat.beq k 40) (some (.goto (-38))) (none)) (cond (Nat.beq k 43) (some (.return_)) (none))))))
def fmK_sendHereAllFor : fm_Me := (⟨"FlatModule$FlatCode", "sendHereAllFor", "(I)V"⟩, prog_4_method_4_code, 3, none, 2, fm_f2, fm_cut 44 fmK_sendHereAllFor_i)
theorem fmK_sendHereAllFor_dc : fm_dc prog_4_method_4_code (fm_cut 44 fmK_sendHereAllFor_i) := fm_dc_of (by decide +kernel)
theorem fmK_sendHereAllFor_o : fm_mok fmK_sendHereAllFor := ⟨⟨fm_f2_o, fmK_sendHereAllFor_dc⟩, fm_tb (List.mem_of_getElem? (i := 314) (by decide +kernel)) rfl, fm_tb (List.mem_of_getElem? (i := 6) (by decide +kernel)) rfl, rfl, by decide +kernel, by decide⟩
end
section
/-! METHODS AS DATA, by program (wip/tools/gen_methods.py) -/

def fmL_function_i (k : Nat) : Option Instr := cond (Nat.blt k 8) (cond (Nat.blt k 3) (cond (Nat.blt k 1) (cond (Nat.beq k 0) (some (.aload_n 0)) (none)) (cond (Nat.blt k 2) (cond (Nat.beq k 1) (some (.iload_n 1)) (none)) (cond (Nat.beq k 2) (some (.iload_n 2)) (none)))) (cond (Nat.blt k 4) (cond (Nat.beq k 3) (some (.iload_n 3)) (none)) (cond (Nat.blt k 6) (cond (Nat.beq k 4) (some (.iload 4)) (none)) (cond (Nat.beq k 6) (some (.iload 5)) (none))))) (cond (Nat.blt k 16) (cond (Nat.blt k 11) (cond (Nat.beq k 8) (some (.invokevirtual 7)) (none)) (cond (Nat.blt k 14) (cond (Nat.beq k 11) (some (.goto 7)) (none)) (cond (Nat.beq k 14) (some (.astore 6)) (none)))) (cond (Nat.blt k 18) (cond (Nat.blt k 17) (cond (Nat.beq k 16) (some (.iconst 1)) (none)) (cond (Nat.beq k 17) (some (.ireturn)) (none))) (cond (Nat.blt k 19) (cond (Nat.beq k 18) (some (.iconst 0)) (none)) (cond (Nat.beq k 19) (some (.ireturn)) (none)))))
def fmL_function : fm_Me := (⟨"FlatModuleLaw", "function", "(LFlatModule;IIIII)I"⟩, method_3_code, 7, some .int, 8, fm_f8, fm_cut 20 fmL_function_i)
theorem fmL_function_dc : fm_dc method_3_code (fm_cut 20 fmL_function_i) := fm_dc_of (by decide +kernel)
theorem fmL_function_o : fm_mo fmL_function := ⟨fm_f8_o, fmL_function_dc⟩
def fmL_emit_i (k : Nat) : Option Instr := cond (Nat.blt k 12) (cond (Nat.blt k 5) (cond (Nat.blt k 3) (cond (Nat.blt k 2) (cond (Nat.beq k 0) (some (.aload 4)) (none)) (cond (Nat.beq k 2) (some (.iconst 0)) (none))) (cond (Nat.blt k 4) (cond (Nat.beq k 3) (some (.aload_n 0)) (none)) (cond (Nat.beq k 4) (some (.iload_n 1)) (none)))) (cond (Nat.blt k 7) (cond (Nat.blt k 6) (cond (Nat.beq k 5) (some (.iload_n 2)) (none)) (cond (Nat.beq k 6) (some (.iload_n 3)) (none))) (cond (Nat.blt k 10) (cond (Nat.beq k 7) (some (.invokevirtual 15)) (none)) (cond (Nat.blt k 11) (cond (Nat.beq k 10) (some (.i2l)) (none)) (cond (Nat.beq k 11) (some (.lastore)) (none)))))) (cond (Nat.blt k 19) (cond (Nat.blt k 17) (cond (Nat.blt k 15) (cond (Nat.beq k 12) (some (.goto 11)) (none)) (cond (Nat.beq k 15) (some (.astore 5)) (none))) (cond (Nat.blt k 18) (cond (Nat.beq k 17) (some (.iconst 1)) (none)) (cond (Nat.beq k 18) (some (.ireturn)) (none)))) (cond (Nat.blt k 22) (cond (Nat.blt k 21) (cond (Nat.beq k 19) (some (.astore 5)) (none)) (cond (Nat.beq k 21) (some (.iconst 2)) (none))) (cond (Nat.blt k 23) (cond (Nat.beq k 22) (some (.ireturn)) (none)) (cond (Nat.blt k 24) (cond (Nat.beq k 23) (some (.iconst 0)) (none)) (cond (Nat.beq k 24) (some (.ireturn)) (none))))))
def fmL_emit : fm_Me := (⟨"FlatModuleLaw", "emit", "(LFlatModule;III[J)I"⟩, method_4_code, 6, some .int, 8, fm_f8, fm_cut 25 fmL_emit_i)
theorem fmL_emit_dc : fm_dc method_4_code (fm_cut 25 fmL_emit_i) := fm_dc_of (by decide +kernel)
theorem fmL_emit_o : fm_mo fmL_emit := ⟨fm_f8_o, fmL_emit_dc⟩
def fmL_erase_i (k : Nat) : Option Instr := cond (Nat.blt k 8) (cond (Nat.blt k 2) (cond (Nat.blt k 1) (cond (Nat.beq k 0) (some (.aload_n 0)) (none)) (cond (Nat.beq k 1) (some (.iload_n 1)) (none))) (cond (Nat.blt k 5) (cond (Nat.beq k 2) (some (.invokevirtual 21)) (none)) (cond (Nat.beq k 5) (some (.goto 6)) (none)))) (cond (Nat.blt k 10) (cond (Nat.blt k 9) (cond (Nat.beq k 8) (some (.astore_n 2)) (none)) (cond (Nat.beq k 9) (some (.iconst 1)) (none))) (cond (Nat.blt k 11) (cond (Nat.beq k 10) (some (.ireturn)) (none)) (cond (Nat.blt k 12) (cond (Nat.beq k 11) (some (.iconst 0)) (none)) (cond (Nat.beq k 12) (some (.ireturn)) (none)))))
def fmL_erase : fm_Me := (⟨"FlatModuleLaw", "erase", "(LFlatModule;I)I"⟩, method_5_code, 3, some .int, 8, fm_f8, fm_cut 13 fmL_erase_i)
theorem fmL_erase_dc : fm_dc method_5_code (fm_cut 13 fmL_erase_i) := fm_dc_of (by decide +kernel)
theorem fmL_erase_o : fm_mo fmL_erase := ⟨fm_f8_o, fmL_erase_dc⟩
def fmL_run_i (k : Nat) : Option Instr := cond (Nat.blt k 21) (cond (Nat.blt k 8) (cond (Nat.blt k 4) (cond (Nat.blt k 2) (cond (Nat.beq k 0) (some (.aload 9)) (none)) (cond (Nat.blt k 3) (cond (Nat.beq k 2) (some (.iconst 0)) (none)) (cond (Nat.beq k 3) (some (.aload_n 0)) (none)))) (cond (Nat.blt k 5) (cond (Nat.beq k 4) (some (.iload_n 1)) (none)) (cond (Nat.blt k 6) (cond (Nat.beq k 5) (some (.dload_n 2)) (none)) (cond (Nat.beq k 6) (some (.dload 4)) (none))))) (cond (Nat.blt k 15) (cond (Nat.blt k 10) (cond (Nat.beq k 8) (some (.dload 6)) (none)) (cond (Nat.blt k 12) (cond (Nat.beq k 10) (some (.iload 8)) (none)) (cond (Nat.beq k 12) (some (.invokevirtual 25)) (none)))) (cond (Nat.blt k 16) (cond (Nat.beq k 15) (some (.dastore)) (none)) (cond (Nat.blt k 19) (cond (Nat.beq k 16) (some (.goto 19)) (none)) (cond (Nat.beq k 19) (some (.astore 10)) (none)))))) (cond (Nat.blt k 29) (cond (Nat.blt k 25) (cond (Nat.blt k 22) (cond (Nat.beq k 21) (some (.iconst 1)) (none)) (cond (Nat.blt k 23) (cond (Nat.beq k 22) (some (.ireturn)) (none)) (cond (Nat.beq k 23) (some (.astore 10)) (none)))) (cond (Nat.blt k 26) (cond (Nat.beq k 25) (some (.iconst 2)) (none)) (cond (Nat.blt k 27) (cond (Nat.beq k 26) (some (.ireturn)) (none)) (cond (Nat.beq k 27) (some (.astore 10)) (none))))) (cond (Nat.blt k 33) (cond (Nat.blt k 30) (cond (Nat.beq k 29) (some (.iconst 3)) (none)) (cond (Nat.blt k 31) (cond (Nat.beq k 30) (some (.ireturn)) (none)) (cond (Nat.beq k 31) (some (.astore 10)) (none)))) (cond (Nat.blt k 35) (cond (Nat.blt k 34) (cond (Nat.beq k 33) (some (.iconst 4)) (none)) (cond (Nat.beq k 34) (some (.ireturn)) (none))) (cond (Nat.blt k 36) (cond (Nat.beq k 35) (some (.iconst 0)) (none)) (cond (Nat.beq k 36) (some (.ireturn)) (none))))))
def fmL_run : fm_Me := (⟨"FlatModuleLaw", "run", "(LFlatModule;IDDDI[D)I"⟩, method_6_code, 11, some .int, 8, fm_f8, fm_cut 37 fmL_run_i)
theorem fmL_run_dc : fm_dc method_6_code (fm_cut 37 fmL_run_i) := fm_dc_of (by decide +kernel)
theorem fmL_run_o : fm_mo fmL_run := ⟨fm_f8_o, fmL_run_dc⟩
def fmL_global_i (k : Nat) : Option Instr := cond (Nat.blt k 8) (cond (Nat.blt k 3) (cond (Nat.blt k 1) (cond (Nat.beq k 0) (some (.aload_n 2)) (none)) (cond (Nat.blt k 2) (cond (Nat.beq k 1) (some (.iconst 0)) (none)) (cond (Nat.beq k 2) (some (.aload_n 0)) (none)))) (cond (Nat.blt k 4) (cond (Nat.beq k 3) (some (.iload_n 1)) (none)) (cond (Nat.blt k 7) (cond (Nat.beq k 4) (some (.invokevirtual 33)) (none)) (cond (Nat.beq k 7) (some (.dastore)) (none))))) (cond (Nat.blt k 13) (cond (Nat.blt k 11) (cond (Nat.beq k 8) (some (.goto 6)) (none)) (cond (Nat.blt k 12) (cond (Nat.beq k 11) (some (.astore_n 3)) (none)) (cond (Nat.beq k 12) (some (.iconst 1)) (none)))) (cond (Nat.blt k 14) (cond (Nat.beq k 13) (some (.ireturn)) (none)) (cond (Nat.blt k 15) (cond (Nat.beq k 14) (some (.iconst 0)) (none)) (cond (Nat.beq k 15) (some (.ireturn)) (none)))))
def fmL_global : fm_Me := (⟨"FlatModuleLaw", "global", "(LFlatModule;I[D)I"⟩, method_7_code, 4, some .int, 8, fm_f8, fm_cut 16 fmL_global_i)
theorem fmL_global_dc : fm_dc method_7_code (fm_cut 16 fmL_global_i) := fm_dc_of (by decide +kernel)
theorem fmL_global_o : fm_mo fmL_global := ⟨fm_f8_o, fmL_global_dc⟩
def fmL_law_i (k : Nat) : Option Instr := cond (Nat.blt k 299) (cond (Nat.blt k 164) (cond (Nat.blt k 106) (cond (Nat.blt k 35) (cond (Nat.blt k 19) (cond (Nat.blt k 11) (cond (Nat.blt k 4) (cond (Nat.blt k 3) (cond (Nat.beq k 0) (some (.new 8)) (none)) (cond (Nat.beq k 3) (some (.dup)) (none))) (cond (Nat.blt k 7) (cond (Nat.beq k 4) (some (.invokespecial 37)) (none)) (cond (Nat.blt k 8) (cond (Nat.beq k 7) (some (.astore_n 1)) (none)) (cond (Nat.beq k 8) (some (.new 38)) (none))))) (cond (Nat.blt k 15) (cond (Nat.blt k 12) (cond (Nat.beq k 11) (some (.dup)) (none)) (cond (Nat.beq k 12) (some (.invokespecial 40)) (none))) (cond (Nat.blt k 16) (cond (Nat.beq k 15) (some (.astore_n 2)) (none)) (cond (Nat.blt k 17) (cond (Nat.beq k 16) (some (.iconst 1)) (none)) (cond (Nat.beq k 17) (some (.newarray .long)) (none)))))) (cond (Nat.blt k 26) (cond (Nat.blt k 21) (cond (Nat.blt k 20) (cond (Nat.beq k 19) (some (.astore_n 3)) (none)) (cond (Nat.beq k 20) (some (.iconst 1)) (none))) (cond (Nat.blt k 23) (cond (Nat.beq k 21) (some (.newarray .double)) (none)) (cond (Nat.blt k 25) (cond (Nat.beq k 23) (some (.astore 4)) (none)) (cond (Nat.beq k 25) (some (.iconst 0)) (none))))) (cond (Nat.blt k 31) (cond (Nat.blt k 28) (cond (Nat.beq k 26) (some (.istore 5)) (none)) (cond (Nat.blt k 30) (cond (Nat.beq k 28) (some (.iload 5)) (none)) (cond (Nat.beq k 30) (some (.aload_n 0)) (none)))) (cond (Nat.blt k 32) (cond (Nat.beq k 31) (some (.arraylength)) (none)) (cond (Nat.blt k 34) (cond (Nat.beq k 32) (some (.bipush 6)) (none)) (cond (Nat.beq k 34) (some (.isub)) (none))))))) (cond (Nat.blt k 93) (cond (Nat.blt k 44) (cond (Nat.blt k 39) (cond (Nat.blt k 38) (cond (Nat.beq k 35) (some (.if_icmp .gt 529)) (none)) (cond (Nat.beq k 38) (some (.aload_n 0)) (none))) (cond (Nat.blt k 41) (cond (Nat.beq k 39) (some (.iload 5)) (none)) (cond (Nat.blt k 42) (cond (Nat.beq k 41) (some (.iaload)) (none)) (cond (Nat.beq k 42) (some (.bipush 7)) (none))))) (cond (Nat.blt k 89) (cond (Nat.blt k 45) (cond (Nat.beq k 44) (some (.iand)) (none)) (cond (Nat.blt k 88) (cond (Nat.beq k 45) (some (.tableswitch 513 0 6 #[43, 127, 207, 243, 256, 411, 488])) (none)) (cond (Nat.beq k 88) (some (.aload_n 1)) (none)))) (cond (Nat.blt k 90) (cond (Nat.beq k 89) (some (.aload_n 0)) (none)) (cond (Nat.blt k 92) (cond (Nat.beq k 90) (some (.iload 5)) (none)) (cond (Nat.beq k 92) (some (.iconst 1)) (none)))))) (cond (Nat.blt k 99) (cond (Nat.blt k 95) (cond (Nat.blt k 94) (cond (Nat.beq k 93) (some (.iadd)) (none)) (cond (Nat.beq k 94) (some (.iaload)) (none))) (cond (Nat.blt k 96) (cond (Nat.beq k 95) (some (.aload_n 0)) (none)) (cond (Nat.blt k 98) (cond (Nat.beq k 96) (some (.iload 5)) (none)) (cond (Nat.beq k 98) (some (.iconst 2)) (none))))) (cond (Nat.blt k 102) (cond (Nat.blt k 100) (cond (Nat.beq k 99) (some (.iadd)) (none)) (cond (Nat.blt k 101) (cond (Nat.beq k 100) (some (.iaload)) (none)) (cond (Nat.beq k 101) (some (.aload_n 0)) (none)))) (cond (Nat.blt k 104) (cond (Nat.beq k 102) (some (.iload 5)) (none)) (cond (Nat.blt k 105) (cond (Nat.beq k 104) (some (.iconst 3)) (none)) (cond (Nat.beq k 105) (some (.iadd)) (none)))))))) (cond (Nat.blt k 134) (cond (Nat.blt k 118) (cond (Nat.blt k 112) (cond (Nat.blt k 108) (cond (Nat.blt k 107) (cond (Nat.beq k 106) (some (.iaload)) (none)) (cond (Nat.beq k 107) (some (.aload_n 0)) (none))) (cond (Nat.blt k 110) (cond (Nat.beq k 108) (some (.iload 5)) (none)) (cond (Nat.blt k 111) (cond (Nat.beq k 110) (some (.iconst 4)) (none)) (cond (Nat.beq k 111) (some (.iadd)) (none))))) (cond (Nat.blt k 114) (cond (Nat.blt k 113) (cond (Nat.beq k 112) (some (.iaload)) (none)) (cond (Nat.beq k 113) (some (.aload_n 0)) (none))) (cond (Nat.blt k 116) (cond (Nat.beq k 114) (some (.iload 5)) (none)) (cond (Nat.blt k 117) (cond (Nat.beq k 116) (some (.iconst 5)) (none)) (cond (Nat.beq k 117) (some (.iadd)) (none)))))) (cond (Nat.blt k 126) (cond (Nat.blt k 122) (cond (Nat.blt k 119) (cond (Nat.beq k 118) (some (.iaload)) (none)) (cond (Nat.beq k 119) (some (.invokestatic 41)) (none))) (cond (Nat.blt k 124) (cond (Nat.beq k 122) (some (.istore 6)) (none)) (cond (Nat.blt k 125) (cond (Nat.beq k 124) (some (.aload_n 2)) (none)) (cond (Nat.beq k 125) (some (.aload_n 0)) (none))))) (cond (Nat.blt k 130) (cond (Nat.blt k 128) (cond (Nat.beq k 126) (some (.iload 5)) (none)) (cond (Nat.blt k 129) (cond (Nat.beq k 128) (some (.iconst 1)) (none)) (cond (Nat.beq k 129) (some (.iadd)) (none)))) (cond (Nat.blt k 131) (cond (Nat.beq k 130) (some (.iaload)) (none)) (cond (Nat.blt k 132) (cond (Nat.beq k 131) (some (.aload_n 0)) (none)) (cond (Nat.beq k 132) (some (.iload 5)) (none))))))) (cond (Nat.blt k 147) (cond (Nat.blt k 140) (cond (Nat.blt k 136) (cond (Nat.blt k 135) (cond (Nat.beq k 134) (some (.iconst 2)) (none)) (cond (Nat.beq k 135) (some (.iadd)) (none))) (cond (Nat.blt k 137) (cond (Nat.beq k 136) (some (.iaload)) (none)) (cond (Nat.blt k 138) (cond (Nat.beq k 137) (some (.aload_n 0)) (none)) (cond (Nat.beq k 138) (some (.iload 5)) (none))))) (cond (Nat.blt k 143) (cond (Nat.blt k 141) (cond (Nat.beq k 140) (some (.iconst 3)) (none)) (cond (Nat.blt k 142) (cond (Nat.beq k 141) (some (.iadd)) (none)) (cond (Nat.beq k 142) (some (.iaload)) (none)))) (cond (Nat.blt k 144) (cond (Nat.beq k 143) (some (.aload_n 0)) (none)) (cond (Nat.blt k 146) (cond (Nat.beq k 144) (some (.iload 5)) (none)) (cond (Nat.beq k 146) (some (.iconst 4)) (none)))))) (cond (Nat.blt k 153) (cond (Nat.blt k 149) (cond (Nat.blt k 148) (cond (Nat.beq k 147) (some (.iadd)) (none)) (cond (Nat.beq k 148) (some (.iaload)) (none))) (cond (Nat.blt k 150) (cond (Nat.beq k 149) (some (.aload_n 0)) (none)) (cond (Nat.blt k 152) (cond (Nat.beq k 150) (some (.iload 5)) (none)) (cond (Nat.beq k 152) (some (.iconst 5)) (none))))) (cond (Nat.blt k 158) (cond (Nat.blt k 154) (cond (Nat.beq k 153) (some (.iadd)) (none)) (cond (Nat.blt k 155) (cond (Nat.beq k 154) (some (.iaload)) (none)) (cond (Nat.beq k 155) (some (.invokevirtual 46)) (none)))) (cond (Nat.blt k 159) (cond (Nat.beq k 158) (some (.aload_n 2)) (none)) (cond (Nat.blt k 162) (cond (Nat.beq k 159) (some (.invokevirtual 47)) (none)) (cond (Nat.beq k 162) (some (.iload 6)) (none))))))))) (cond (Nat.blt k 225) (cond (Nat.blt k 192) (cond (Nat.blt k 179) (cond (Nat.blt k 173) (cond (Nat.blt k 168) (cond (Nat.blt k 167) (cond (Nat.beq k 164) (some (.if_icmp .eq 5)) (none)) (cond (Nat.beq k 167) (some (.iconst 0)) (none))) (cond (Nat.blt k 169) (cond (Nat.beq k 168) (some (.ireturn)) (none)) (cond (Nat.blt k 172) (cond (Nat.beq k 169) (some (.goto 389)) (none)) (cond (Nat.beq k 172) (some (.aload_n 1)) (none))))) (cond (Nat.blt k 176) (cond (Nat.blt k 174) (cond (Nat.beq k 173) (some (.aload_n 0)) (none)) (cond (Nat.beq k 174) (some (.iload 5)) (none))) (cond (Nat.blt k 177) (cond (Nat.beq k 176) (some (.iconst 1)) (none)) (cond (Nat.blt k 178) (cond (Nat.beq k 177) (some (.iadd)) (none)) (cond (Nat.beq k 178) (some (.iaload)) (none)))))) (cond (Nat.blt k 185) (cond (Nat.blt k 182) (cond (Nat.blt k 180) (cond (Nat.beq k 179) (some (.aload_n 0)) (none)) (cond (Nat.beq k 180) (some (.iload 5)) (none))) (cond (Nat.blt k 183) (cond (Nat.beq k 182) (some (.iconst 2)) (none)) (cond (Nat.blt k 184) (cond (Nat.beq k 183) (some (.iadd)) (none)) (cond (Nat.beq k 184) (some (.iaload)) (none))))) (cond (Nat.blt k 189) (cond (Nat.blt k 186) (cond (Nat.beq k 185) (some (.aload_n 0)) (none)) (cond (Nat.blt k 188) (cond (Nat.beq k 186) (some (.iload 5)) (none)) (cond (Nat.beq k 188) (some (.iconst 3)) (none)))) (cond (Nat.blt k 190) (cond (Nat.beq k 189) (some (.iadd)) (none)) (cond (Nat.blt k 191) (cond (Nat.beq k 190) (some (.iaload)) (none)) (cond (Nat.beq k 191) (some (.aload_n 3)) (none))))))) (cond (Nat.blt k 208) (cond (Nat.blt k 201) (cond (Nat.blt k 197) (cond (Nat.blt k 195) (cond (Nat.beq k 192) (some (.invokestatic 51)) (none)) (cond (Nat.beq k 195) (some (.istore 6)) (none))) (cond (Nat.blt k 198) (cond (Nat.beq k 197) (some (.aload_n 2)) (none)) (cond (Nat.blt k 199) (cond (Nat.beq k 198) (some (.aload_n 0)) (none)) (cond (Nat.beq k 199) (some (.iload 5)) (none))))) (cond (Nat.blt k 204) (cond (Nat.blt k 202) (cond (Nat.beq k 201) (some (.iconst 1)) (none)) (cond (Nat.blt k 203) (cond (Nat.beq k 202) (some (.iadd)) (none)) (cond (Nat.beq k 203) (some (.iaload)) (none)))) (cond (Nat.blt k 205) (cond (Nat.beq k 204) (some (.aload_n 0)) (none)) (cond (Nat.blt k 207) (cond (Nat.beq k 205) (some (.iload 5)) (none)) (cond (Nat.beq k 207) (some (.iconst 2)) (none)))))) (cond (Nat.blt k 214) (cond (Nat.blt k 210) (cond (Nat.blt k 209) (cond (Nat.beq k 208) (some (.iadd)) (none)) (cond (Nat.beq k 209) (some (.iaload)) (none))) (cond (Nat.blt k 211) (cond (Nat.beq k 210) (some (.aload_n 0)) (none)) (cond (Nat.blt k 213) (cond (Nat.beq k 211) (some (.iload 5)) (none)) (cond (Nat.beq k 213) (some (.iconst 3)) (none))))) (cond (Nat.blt k 219) (cond (Nat.blt k 215) (cond (Nat.beq k 214) (some (.iadd)) (none)) (cond (Nat.blt k 216) (cond (Nat.beq k 215) (some (.iaload)) (none)) (cond (Nat.beq k 216) (some (.invokevirtual 54)) (none)))) (cond (Nat.blt k 221) (cond (Nat.beq k 219) (some (.istore 7)) (none)) (cond (Nat.blt k 222) (cond (Nat.beq k 221) (some (.aload_n 2)) (none)) (cond (Nat.beq k 222) (some (.invokevirtual 47)) (none)))))))) (cond (Nat.blt k 258) (cond (Nat.blt k 242) (cond (Nat.blt k 234) (cond (Nat.blt k 230) (cond (Nat.blt k 227) (cond (Nat.beq k 225) (some (.iload 6)) (none)) (cond (Nat.beq k 227) (some (.if_icmp .eq 5)) (none))) (cond (Nat.blt k 231) (cond (Nat.beq k 230) (some (.iconst 0)) (none)) (cond (Nat.blt k 232) (cond (Nat.beq k 231) (some (.ireturn)) (none)) (cond (Nat.beq k 232) (some (.iload 6)) (none))))) (cond (Nat.blt k 238) (cond (Nat.blt k 237) (cond (Nat.beq k 234) (some (.ifCond .ne 15)) (none)) (cond (Nat.beq k 237) (some (.aload_n 3)) (none))) (cond (Nat.blt k 239) (cond (Nat.beq k 238) (some (.iconst 0)) (none)) (cond (Nat.blt k 240) (cond (Nat.beq k 239) (some (.laload)) (none)) (cond (Nat.beq k 240) (some (.iload 7)) (none)))))) (cond (Nat.blt k 249) (cond (Nat.blt k 244) (cond (Nat.blt k 243) (cond (Nat.beq k 242) (some (.i2l)) (none)) (cond (Nat.beq k 243) (some (.lcmp)) (none))) (cond (Nat.blt k 247) (cond (Nat.beq k 244) (some (.ifCond .eq 5)) (none)) (cond (Nat.blt k 248) (cond (Nat.beq k 247) (some (.iconst 0)) (none)) (cond (Nat.beq k 248) (some (.ireturn)) (none))))) (cond (Nat.blt k 254) (cond (Nat.blt k 252) (cond (Nat.beq k 249) (some (.goto 309)) (none)) (cond (Nat.blt k 253) (cond (Nat.beq k 252) (some (.aload_n 1)) (none)) (cond (Nat.beq k 253) (some (.aload_n 0)) (none)))) (cond (Nat.blt k 256) (cond (Nat.beq k 254) (some (.iload 5)) (none)) (cond (Nat.blt k 257) (cond (Nat.beq k 256) (some (.iconst 1)) (none)) (cond (Nat.beq k 257) (some (.iadd)) (none))))))) (cond (Nat.blt k 275) (cond (Nat.blt k 266) (cond (Nat.blt k 262) (cond (Nat.blt k 259) (cond (Nat.beq k 258) (some (.iaload)) (none)) (cond (Nat.beq k 259) (some (.invokestatic 55)) (none))) (cond (Nat.blt k 264) (cond (Nat.beq k 262) (some (.istore 6)) (none)) (cond (Nat.blt k 265) (cond (Nat.beq k 264) (some (.aload_n 2)) (none)) (cond (Nat.beq k 265) (some (.aload_n 0)) (none))))) (cond (Nat.blt k 270) (cond (Nat.blt k 268) (cond (Nat.beq k 266) (some (.iload 5)) (none)) (cond (Nat.blt k 269) (cond (Nat.beq k 268) (some (.iconst 1)) (none)) (cond (Nat.beq k 269) (some (.iadd)) (none)))) (cond (Nat.blt k 271) (cond (Nat.beq k 270) (some (.iaload)) (none)) (cond (Nat.blt k 274) (cond (Nat.beq k 271) (some (.invokevirtual 58)) (none)) (cond (Nat.beq k 274) (some (.aload_n 2)) (none)))))) (cond (Nat.blt k 285) (cond (Nat.blt k 280) (cond (Nat.blt k 278) (cond (Nat.beq k 275) (some (.invokevirtual 47)) (none)) (cond (Nat.beq k 278) (some (.iload 6)) (none))) (cond (Nat.blt k 283) (cond (Nat.beq k 280) (some (.if_icmp .eq 5)) (none)) (cond (Nat.blt k 284) (cond (Nat.beq k 283) (some (.iconst 0)) (none)) (cond (Nat.beq k 284) (some (.ireturn)) (none))))) (cond (Nat.blt k 292) (cond (Nat.blt k 288) (cond (Nat.beq k 285) (some (.goto 273)) (none)) (cond (Nat.blt k 289) (cond (Nat.beq k 288) (some (.aload_n 1)) (none)) (cond (Nat.beq k 289) (some (.invokevirtual 59)) (none)))) (cond (Nat.blt k 293) (cond (Nat.beq k 292) (some (.aload_n 2)) (none)) (cond (Nat.blt k 296) (cond (Nat.beq k 293) (some (.invokevirtual 62)) (none)) (cond (Nat.beq k 296) (some (.if_icmp .eq 262)) (none)))))))))) (cond (Nat.blt k 423) (cond (Nat.blt k 358) (cond (Nat.blt k 325) (cond (Nat.blt k 311) (cond (Nat.blt k 305) (cond (Nat.blt k 301) (cond (Nat.blt k 300) (cond (Nat.beq k 299) (some (.iconst 0)) (none)) (cond (Nat.beq k 300) (some (.ireturn)) (none))) (cond (Nat.blt k 302) (cond (Nat.beq k 301) (some (.aload_n 1)) (none)) (cond (Nat.blt k 303) (cond (Nat.beq k 302) (some (.aload_n 0)) (none)) (cond (Nat.beq k 303) (some (.iload 5)) (none))))) (cond (Nat.blt k 307) (cond (Nat.blt k 306) (cond (Nat.beq k 305) (some (.iconst 1)) (none)) (cond (Nat.beq k 306) (some (.iadd)) (none))) (cond (Nat.blt k 308) (cond (Nat.beq k 307) (some (.iaload)) (none)) (cond (Nat.blt k 309) (cond (Nat.beq k 308) (some (.aload_n 0)) (none)) (cond (Nat.beq k 309) (some (.iload 5)) (none)))))) (cond (Nat.blt k 318) (cond (Nat.blt k 313) (cond (Nat.blt k 312) (cond (Nat.beq k 311) (some (.iconst 2)) (none)) (cond (Nat.beq k 312) (some (.iadd)) (none))) (cond (Nat.blt k 314) (cond (Nat.beq k 313) (some (.iaload)) (none)) (cond (Nat.blt k 315) (cond (Nat.beq k 314) (some (.i2d)) (none)) (cond (Nat.beq k 315) (some (.ldc2_w 63)) (none))))) (cond (Nat.blt k 322) (cond (Nat.blt k 319) (cond (Nat.beq k 318) (some (.dmul)) (none)) (cond (Nat.blt k 320) (cond (Nat.beq k 319) (some (.aload_n 0)) (none)) (cond (Nat.beq k 320) (some (.iload 5)) (none)))) (cond (Nat.blt k 323) (cond (Nat.beq k 322) (some (.iconst 3)) (none)) (cond (Nat.blt k 324) (cond (Nat.beq k 323) (some (.iadd)) (none)) (cond (Nat.beq k 324) (some (.iaload)) (none))))))) (cond (Nat.blt k 341) (cond (Nat.blt k 333) (cond (Nat.blt k 329) (cond (Nat.blt k 326) (cond (Nat.beq k 325) (some (.i2d)) (none)) (cond (Nat.beq k 326) (some (.ldc2_w 63)) (none))) (cond (Nat.blt k 330) (cond (Nat.beq k 329) (some (.dmul)) (none)) (cond (Nat.blt k 331) (cond (Nat.beq k 330) (some (.aload_n 0)) (none)) (cond (Nat.beq k 331) (some (.iload 5)) (none))))) (cond (Nat.blt k 336) (cond (Nat.blt k 334) (cond (Nat.beq k 333) (some (.iconst 4)) (none)) (cond (Nat.blt k 335) (cond (Nat.beq k 334) (some (.iadd)) (none)) (cond (Nat.beq k 335) (some (.iaload)) (none)))) (cond (Nat.blt k 337) (cond (Nat.beq k 336) (some (.i2d)) (none)) (cond (Nat.blt k 340) (cond (Nat.beq k 337) (some (.ldc2_w 63)) (none)) (cond (Nat.beq k 340) (some (.dmul)) (none)))))) (cond (Nat.blt k 347) (cond (Nat.blt k 344) (cond (Nat.blt k 342) (cond (Nat.beq k 341) (some (.aload_n 0)) (none)) (cond (Nat.beq k 342) (some (.iload 5)) (none))) (cond (Nat.blt k 345) (cond (Nat.beq k 344) (some (.iconst 5)) (none)) (cond (Nat.blt k 346) (cond (Nat.beq k 345) (some (.iadd)) (none)) (cond (Nat.beq k 346) (some (.iaload)) (none))))) (cond (Nat.blt k 354) (cond (Nat.blt k 349) (cond (Nat.beq k 347) (some (.aload 4)) (none)) (cond (Nat.blt k 352) (cond (Nat.beq k 349) (some (.invokestatic 65)) (none)) (cond (Nat.beq k 352) (some (.istore 6)) (none)))) (cond (Nat.blt k 355) (cond (Nat.beq k 354) (some (.aload_n 2)) (none)) (cond (Nat.blt k 356) (cond (Nat.beq k 355) (some (.aload_n 0)) (none)) (cond (Nat.beq k 356) (some (.iload 5)) (none)))))))) (cond (Nat.blt k 386) (cond (Nat.blt k 371) (cond (Nat.blt k 364) (cond (Nat.blt k 360) (cond (Nat.blt k 359) (cond (Nat.beq k 358) (some (.iconst 1)) (none)) (cond (Nat.beq k 359) (some (.iadd)) (none))) (cond (Nat.blt k 361) (cond (Nat.beq k 360) (some (.iaload)) (none)) (cond (Nat.blt k 362) (cond (Nat.beq k 361) (some (.aload_n 0)) (none)) (cond (Nat.beq k 362) (some (.iload 5)) (none))))) (cond (Nat.blt k 366) (cond (Nat.blt k 365) (cond (Nat.beq k 364) (some (.iconst 2)) (none)) (cond (Nat.beq k 365) (some (.iadd)) (none))) (cond (Nat.blt k 367) (cond (Nat.beq k 366) (some (.iaload)) (none)) (cond (Nat.blt k 368) (cond (Nat.beq k 367) (some (.i2d)) (none)) (cond (Nat.beq k 368) (some (.ldc2_w 63)) (none)))))) (cond (Nat.blt k 377) (cond (Nat.blt k 373) (cond (Nat.blt k 372) (cond (Nat.beq k 371) (some (.dmul)) (none)) (cond (Nat.beq k 372) (some (.aload_n 0)) (none))) (cond (Nat.blt k 375) (cond (Nat.beq k 373) (some (.iload 5)) (none)) (cond (Nat.blt k 376) (cond (Nat.beq k 375) (some (.iconst 3)) (none)) (cond (Nat.beq k 376) (some (.iadd)) (none))))) (cond (Nat.blt k 382) (cond (Nat.blt k 378) (cond (Nat.beq k 377) (some (.iaload)) (none)) (cond (Nat.blt k 379) (cond (Nat.beq k 378) (some (.i2d)) (none)) (cond (Nat.beq k 379) (some (.ldc2_w 63)) (none)))) (cond (Nat.blt k 383) (cond (Nat.beq k 382) (some (.dmul)) (none)) (cond (Nat.blt k 384) (cond (Nat.beq k 383) (some (.aload_n 0)) (none)) (cond (Nat.beq k 384) (some (.iload 5)) (none))))))) (cond (Nat.blt k 400) (cond (Nat.blt k 393) (cond (Nat.blt k 388) (cond (Nat.blt k 387) (cond (Nat.beq k 386) (some (.iconst 4)) (none)) (cond (Nat.beq k 387) (some (.iadd)) (none))) (cond (Nat.blt k 389) (cond (Nat.beq k 388) (some (.iaload)) (none)) (cond (Nat.blt k 390) (cond (Nat.beq k 389) (some (.i2d)) (none)) (cond (Nat.beq k 390) (some (.ldc2_w 63)) (none))))) (cond (Nat.blt k 397) (cond (Nat.blt k 394) (cond (Nat.beq k 393) (some (.dmul)) (none)) (cond (Nat.blt k 395) (cond (Nat.beq k 394) (some (.aload_n 0)) (none)) (cond (Nat.beq k 395) (some (.iload 5)) (none)))) (cond (Nat.blt k 398) (cond (Nat.beq k 397) (some (.iconst 5)) (none)) (cond (Nat.blt k 399) (cond (Nat.beq k 398) (some (.iadd)) (none)) (cond (Nat.beq k 399) (some (.iaload)) (none)))))) (cond (Nat.blt k 411) (cond (Nat.blt k 405) (cond (Nat.blt k 403) (cond (Nat.beq k 400) (some (.invokevirtual 68)) (none)) (cond (Nat.beq k 403) (some (.dstore 7)) (none))) (cond (Nat.blt k 406) (cond (Nat.beq k 405) (some (.aload_n 2)) (none)) (cond (Nat.blt k 409) (cond (Nat.beq k 406) (some (.invokevirtual 47)) (none)) (cond (Nat.beq k 409) (some (.iload 6)) (none))))) (cond (Nat.blt k 416) (cond (Nat.blt k 414) (cond (Nat.beq k 411) (some (.if_icmp .eq 5)) (none)) (cond (Nat.blt k 415) (cond (Nat.beq k 414) (some (.iconst 0)) (none)) (cond (Nat.beq k 415) (some (.ireturn)) (none)))) (cond (Nat.blt k 418) (cond (Nat.beq k 416) (some (.iload 6)) (none)) (cond (Nat.blt k 421) (cond (Nat.beq k 418) (some (.ifCond .ne 35)) (none)) (cond (Nat.beq k 421) (some (.aload 4)) (none))))))))) (cond (Nat.blt k 493) (cond (Nat.blt k 457) (cond (Nat.blt k 438) (cond (Nat.blt k 431) (cond (Nat.blt k 425) (cond (Nat.blt k 424) (cond (Nat.beq k 423) (some (.iconst 0)) (none)) (cond (Nat.beq k 424) (some (.daload)) (none))) (cond (Nat.blt k 427) (cond (Nat.beq k 425) (some (.dload 7)) (none)) (cond (Nat.blt k 428) (cond (Nat.beq k 427) (some (.dcmp .l)) (none)) (cond (Nat.beq k 428) (some (.ifCond .eq 25)) (none))))) (cond (Nat.blt k 434) (cond (Nat.blt k 433) (cond (Nat.beq k 431) (some (.aload 4)) (none)) (cond (Nat.beq k 433) (some (.iconst 0)) (none))) (cond (Nat.blt k 435) (cond (Nat.beq k 434) (some (.daload)) (none)) (cond (Nat.blt k 437) (cond (Nat.beq k 435) (some (.aload 4)) (none)) (cond (Nat.beq k 437) (some (.iconst 0)) (none)))))) (cond (Nat.blt k 447) (cond (Nat.blt k 440) (cond (Nat.blt k 439) (cond (Nat.beq k 438) (some (.daload)) (none)) (cond (Nat.beq k 439) (some (.dcmp .l)) (none))) (cond (Nat.blt k 443) (cond (Nat.beq k 440) (some (.ifCond .eq 11)) (none)) (cond (Nat.blt k 445) (cond (Nat.beq k 443) (some (.dload 7)) (none)) (cond (Nat.beq k 445) (some (.dload 7)) (none))))) (cond (Nat.blt k 452) (cond (Nat.blt k 448) (cond (Nat.beq k 447) (some (.dcmp .l)) (none)) (cond (Nat.blt k 451) (cond (Nat.beq k 448) (some (.ifCond .ne 5)) (none)) (cond (Nat.beq k 451) (some (.iconst 0)) (none)))) (cond (Nat.blt k 453) (cond (Nat.beq k 452) (some (.ireturn)) (none)) (cond (Nat.blt k 456) (cond (Nat.beq k 453) (some (.goto 105)) (none)) (cond (Nat.beq k 456) (some (.aload_n 1)) (none))))))) (cond (Nat.blt k 474) (cond (Nat.blt k 463) (cond (Nat.blt k 460) (cond (Nat.blt k 458) (cond (Nat.beq k 457) (some (.aload_n 0)) (none)) (cond (Nat.beq k 458) (some (.iload 5)) (none))) (cond (Nat.blt k 461) (cond (Nat.beq k 460) (some (.iconst 1)) (none)) (cond (Nat.blt k 462) (cond (Nat.beq k 461) (some (.iadd)) (none)) (cond (Nat.beq k 462) (some (.iaload)) (none))))) (cond (Nat.blt k 470) (cond (Nat.blt k 465) (cond (Nat.beq k 463) (some (.aload 4)) (none)) (cond (Nat.blt k 468) (cond (Nat.beq k 465) (some (.invokestatic 69)) (none)) (cond (Nat.beq k 468) (some (.istore 6)) (none)))) (cond (Nat.blt k 471) (cond (Nat.beq k 470) (some (.aload_n 2)) (none)) (cond (Nat.blt k 472) (cond (Nat.beq k 471) (some (.aload_n 0)) (none)) (cond (Nat.beq k 472) (some (.iload 5)) (none)))))) (cond (Nat.blt k 482) (cond (Nat.blt k 476) (cond (Nat.blt k 475) (cond (Nat.beq k 474) (some (.iconst 1)) (none)) (cond (Nat.beq k 475) (some (.iadd)) (none))) (cond (Nat.blt k 477) (cond (Nat.beq k 476) (some (.iaload)) (none)) (cond (Nat.blt k 480) (cond (Nat.beq k 477) (some (.invokevirtual 72)) (none)) (cond (Nat.beq k 480) (some (.dstore 7)) (none))))) (cond (Nat.blt k 488) (cond (Nat.blt k 483) (cond (Nat.beq k 482) (some (.aload_n 2)) (none)) (cond (Nat.blt k 486) (cond (Nat.beq k 483) (some (.invokevirtual 47)) (none)) (cond (Nat.beq k 486) (some (.iload 6)) (none)))) (cond (Nat.blt k 491) (cond (Nat.beq k 488) (some (.if_icmp .eq 5)) (none)) (cond (Nat.blt k 492) (cond (Nat.beq k 491) (some (.iconst 0)) (none)) (cond (Nat.beq k 492) (some (.ireturn)) (none)))))))) (cond (Nat.blt k 530) (cond (Nat.blt k 512) (cond (Nat.blt k 502) (cond (Nat.blt k 498) (cond (Nat.blt k 495) (cond (Nat.beq k 493) (some (.iload 6)) (none)) (cond (Nat.beq k 495) (some (.ifCond .ne 35)) (none))) (cond (Nat.blt k 500) (cond (Nat.beq k 498) (some (.aload 4)) (none)) (cond (Nat.blt k 501) (cond (Nat.beq k 500) (some (.iconst 0)) (none)) (cond (Nat.beq k 501) (some (.daload)) (none))))) (cond (Nat.blt k 508) (cond (Nat.blt k 504) (cond (Nat.beq k 502) (some (.dload 7)) (none)) (cond (Nat.blt k 505) (cond (Nat.beq k 504) (some (.dcmp .l)) (none)) (cond (Nat.beq k 505) (some (.ifCond .eq 25)) (none)))) (cond (Nat.blt k 510) (cond (Nat.beq k 508) (some (.aload 4)) (none)) (cond (Nat.blt k 511) (cond (Nat.beq k 510) (some (.iconst 0)) (none)) (cond (Nat.beq k 511) (some (.daload)) (none)))))) (cond (Nat.blt k 520) (cond (Nat.blt k 515) (cond (Nat.blt k 514) (cond (Nat.beq k 512) (some (.aload 4)) (none)) (cond (Nat.beq k 514) (some (.iconst 0)) (none))) (cond (Nat.blt k 516) (cond (Nat.beq k 515) (some (.daload)) (none)) (cond (Nat.blt k 517) (cond (Nat.beq k 516) (some (.dcmp .l)) (none)) (cond (Nat.beq k 517) (some (.ifCond .eq 11)) (none))))) (cond (Nat.blt k 525) (cond (Nat.blt k 522) (cond (Nat.beq k 520) (some (.dload 7)) (none)) (cond (Nat.blt k 524) (cond (Nat.beq k 522) (some (.dload 7)) (none)) (cond (Nat.beq k 524) (some (.dcmp .l)) (none)))) (cond (Nat.blt k 528) (cond (Nat.beq k 525) (some (.ifCond .ne 5)) (none)) (cond (Nat.blt k 529) (cond (Nat.beq k 528) (some (.iconst 0)) (none)) (cond (Nat.beq k 529) (some (.ireturn)) (none))))))) (cond (Nat.blt k 547) (cond (Nat.blt k 538) (cond (Nat.blt k 534) (cond (Nat.blt k 533) (cond (Nat.beq k 530) (some (.goto 28)) (none)) (cond (Nat.beq k 533) (some (.aload_n 1)) (none))) (cond (Nat.blt k 535) (cond (Nat.beq k 534) (some (.aload_n 0)) (none)) (cond (Nat.blt k 537) (cond (Nat.beq k 535) (some (.iload 5)) (none)) (cond (Nat.beq k 537) (some (.iconst 1)) (none))))) (cond (Nat.blt k 543) (cond (Nat.blt k 539) (cond (Nat.beq k 538) (some (.iadd)) (none)) (cond (Nat.blt k 540) (cond (Nat.beq k 539) (some (.iaload)) (none)) (cond (Nat.beq k 540) (some (.invokevirtual 73)) (none)))) (cond (Nat.blt k 544) (cond (Nat.beq k 543) (some (.aload_n 2)) (none)) (cond (Nat.blt k 545) (cond (Nat.beq k 544) (some (.aload_n 0)) (none)) (cond (Nat.beq k 545) (some (.iload 5)) (none)))))) (cond (Nat.blt k 556) (cond (Nat.blt k 549) (cond (Nat.blt k 548) (cond (Nat.beq k 547) (some (.iconst 1)) (none)) (cond (Nat.beq k 548) (some (.iadd)) (none))) (cond (Nat.blt k 550) (cond (Nat.beq k 549) (some (.iaload)) (none)) (cond (Nat.blt k 553) (cond (Nat.beq k 550) (some (.invokevirtual 77)) (none)) (cond (Nat.beq k 553) (some (.if_icmp .eq 5)) (none))))) (cond (Nat.blt k 561) (cond (Nat.blt k 557) (cond (Nat.beq k 556) (some (.iconst 0)) (none)) (cond (Nat.blt k 558) (cond (Nat.beq k 557) (some (.ireturn)) (none)) (cond (Nat.beq k 558) (some (.iinc 5 6)) (none)))) (cond (Nat.blt k 564) (cond (Nat.beq k 561) (some (.goto (-533))) (none)) (cond (Nat.blt k 565) (cond (Nat.beq k 564) (some (.iconst 1)) (none)) (cond (Nat.beq k 565) (some (.ireturn)) (none))))))))))
def fmL_law : fm_Me := (⟨"FlatModuleLaw", "law", "([I)Z"⟩, code, 9, some .boolean, 8, fm_f8, fm_cut 566 fmL_law_i)
theorem fmL_law_dc : fm_dc code (fm_cut 566 fmL_law_i) := fm_dc_of (by decide +kernel)
theorem fmL_law_o : fm_mo fmL_law := ⟨fm_f8_o, fmL_law_dc⟩
end
section
/-! METHODS AS DATA, by program (wip/tools/gen_methods.py) -/

def fmM_begin_i (k : Nat) : Option Instr := cond (Nat.blt k 12) (cond (Nat.blt k 6) (cond (Nat.blt k 2) (cond (Nat.blt k 1) (cond (Nat.beq k 0) (some (.aload_n 0)) (none)) (cond (Nat.beq k 1) (some (.aload_n 1)) (none))) (cond (Nat.blt k 5) (cond (Nat.beq k 2) (some (.putfield 13)) (none)) (cond (Nat.beq k 5) (some (.aload_n 0)) (none)))) (cond (Nat.blt k 10) (cond (Nat.blt k 7) (cond (Nat.beq k 6) (some (.iconst 0)) (none)) (cond (Nat.beq k 7) (some (.putfield 32)) (none))) (cond (Nat.blt k 11) (cond (Nat.beq k 10) (some (.aload_n 0)) (none)) (cond (Nat.beq k 11) (some (.iconst 0)) (none))))) (cond (Nat.blt k 20) (cond (Nat.blt k 16) (cond (Nat.blt k 15) (cond (Nat.beq k 12) (some (.putfield 36)) (none)) (cond (Nat.beq k 15) (some (.aload_n 0)) (none))) (cond (Nat.blt k 17) (cond (Nat.beq k 16) (some (.iconst 0)) (none)) (cond (Nat.beq k 17) (some (.putfield 39)) (none)))) (cond (Nat.blt k 22) (cond (Nat.blt k 21) (cond (Nat.beq k 20) (some (.aload_n 0)) (none)) (cond (Nat.beq k 21) (some (.iload_n 2)) (none))) (cond (Nat.blt k 25) (cond (Nat.beq k 22) (some (.invokevirtual 42)) (none)) (cond (Nat.beq k 25) (some (.return_)) (none)))))
def fmM_begin : fm_Me := (⟨"FlatModule$Machine", "begin", "([LFlatModule$Function;I)V"⟩, prog_7_method_2_code, 3, none, 5, fm_f5, fm_cut 26 fmM_begin_i)
theorem fmM_begin_dc : fm_dc prog_7_method_2_code (fm_cut 26 fmM_begin_i) := fm_dc_of (by decide +kernel)
theorem fmM_begin_o : fm_mok fmM_begin := ⟨⟨fm_f5_o, fmM_begin_dc⟩, fm_tb (List.mem_of_getElem? (i := 474) (by decide +kernel)) rfl, fm_tb (List.mem_of_getElem? (i := 4) (by decide +kernel)) rfl, rfl, by decide +kernel, by decide⟩
def fmM_pass_i (k : Nat) : Option Instr := cond (Nat.blt k 65) (cond (Nat.blt k 20) (cond (Nat.blt k 10) (cond (Nat.blt k 5) (cond (Nat.blt k 1) (cond (Nat.beq k 0) (some (.iload_n 1)) (none)) (cond (Nat.blt k 2) (cond (Nat.beq k 1) (some (.aload_n 0)) (none)) (cond (Nat.beq k 2) (some (.getfield 13)) (none)))) (cond (Nat.blt k 6) (cond (Nat.beq k 5) (some (.aload_n 0)) (none)) (cond (Nat.blt k 9) (cond (Nat.beq k 6) (some (.getfield 25)) (none)) (cond (Nat.beq k 9) (some (.iconst 0)) (none))))) (cond (Nat.blt k 15) (cond (Nat.blt k 11) (cond (Nat.beq k 10) (some (.iaload)) (none)) (cond (Nat.blt k 12) (cond (Nat.beq k 11) (some (.aaload)) (none)) (cond (Nat.beq k 12) (some (.getfield 46)) (none)))) (cond (Nat.blt k 18) (cond (Nat.beq k 15) (some (.if_icmp .lt 4)) (none)) (cond (Nat.blt k 19) (cond (Nat.beq k 18) (some (.return_)) (none)) (cond (Nat.beq k 19) (some (.aload_n 0)) (none)))))) (cond (Nat.blt k 30) (cond (Nat.blt k 27) (cond (Nat.blt k 23) (cond (Nat.beq k 20) (some (.getfield 13)) (none)) (cond (Nat.blt k 24) (cond (Nat.beq k 23) (some (.aload_n 0)) (none)) (cond (Nat.beq k 24) (some (.getfield 25)) (none)))) (cond (Nat.blt k 28) (cond (Nat.beq k 27) (some (.iconst 0)) (none)) (cond (Nat.blt k 29) (cond (Nat.beq k 28) (some (.iaload)) (none)) (cond (Nat.beq k 29) (some (.aaload)) (none))))) (cond (Nat.blt k 35) (cond (Nat.blt k 33) (cond (Nat.beq k 30) (some (.getfield 49)) (none)) (cond (Nat.blt k 34) (cond (Nat.beq k 33) (some (.iload_n 1)) (none)) (cond (Nat.beq k 34) (some (.iaload)) (none)))) (cond (Nat.blt k 61) (cond (Nat.blt k 60) (cond (Nat.beq k 35) (some (.tableswitch 61 0 2 #[25, 37, 48])) (none)) (cond (Nat.beq k 60) (some (.aload_n 0)) (none))) (cond (Nat.blt k 64) (cond (Nat.beq k 61) (some (.getfield 17)) (none)) (cond (Nat.beq k 64) (some (.iload_n 1)) (none))))))) (cond (Nat.blt k 83) (cond (Nat.blt k 73) (cond (Nat.blt k 68) (cond (Nat.blt k 66) (cond (Nat.beq k 65) (some (.dload_n 2)) (none)) (cond (Nat.blt k 67) (cond (Nat.beq k 66) (some (.d2i)) (none)) (cond (Nat.beq k 67) (some (.i2l)) (none)))) (cond (Nat.blt k 69) (cond (Nat.beq k 68) (some (.lastore)) (none)) (cond (Nat.blt k 72) (cond (Nat.beq k 69) (some (.goto 34)) (none)) (cond (Nat.beq k 72) (some (.aload_n 0)) (none))))) (cond (Nat.blt k 78) (cond (Nat.blt k 76) (cond (Nat.beq k 73) (some (.getfield 17)) (none)) (cond (Nat.blt k 77) (cond (Nat.beq k 76) (some (.iload_n 1)) (none)) (cond (Nat.beq k 77) (some (.dload_n 2)) (none)))) (cond (Nat.blt k 79) (cond (Nat.beq k 78) (some (.d2l)) (none)) (cond (Nat.blt k 80) (cond (Nat.beq k 79) (some (.lastore)) (none)) (cond (Nat.beq k 80) (some (.goto 23)) (none)))))) (cond (Nat.blt k 93) (cond (Nat.blt k 88) (cond (Nat.blt k 84) (cond (Nat.beq k 83) (some (.aload_n 0)) (none)) (cond (Nat.blt k 87) (cond (Nat.beq k 84) (some (.getfield 21)) (none)) (cond (Nat.beq k 87) (some (.iload_n 1)) (none)))) (cond (Nat.blt k 89) (cond (Nat.beq k 88) (some (.dload_n 2)) (none)) (cond (Nat.blt k 92) (cond (Nat.beq k 89) (some (.invokestatic 52)) (none)) (cond (Nat.beq k 92) (some (.dastore)) (none))))) (cond (Nat.blt k 100) (cond (Nat.blt k 96) (cond (Nat.beq k 93) (some (.goto 10)) (none)) (cond (Nat.blt k 97) (cond (Nat.beq k 96) (some (.aload_n 0)) (none)) (cond (Nat.beq k 97) (some (.getfield 21)) (none)))) (cond (Nat.blt k 102) (cond (Nat.blt k 101) (cond (Nat.beq k 100) (some (.iload_n 1)) (none)) (cond (Nat.beq k 101) (some (.dload_n 2)) (none))) (cond (Nat.blt k 103) (cond (Nat.beq k 102) (some (.dastore)) (none)) (cond (Nat.beq k 103) (some (.return_)) (none)))))))
def fmM_pass : fm_Me := (⟨"FlatModule$Machine", "pass", "(ID)V"⟩, prog_7_method_3_code, 4, none, 5, fm_f5, fm_cut 104 fmM_pass_i)
theorem fmM_pass_dc : fm_dc prog_7_method_3_code (fm_cut 104 fmM_pass_i) := fm_dc_of (by decide +kernel)
theorem fmM_pass_o : fm_mok fmM_pass := ⟨⟨fm_f5_o, fmM_pass_dc⟩, fm_tb (List.mem_of_getElem? (i := 485) (by decide +kernel)) rfl, fm_tb (List.mem_of_getElem? (i := 4) (by decide +kernel)) rfl, rfl, by decide +kernel, by decide⟩
def fmM_work_i (k : Nat) : Option Instr := cond (Nat.blt k 26) (cond (Nat.blt k 15) (cond (Nat.blt k 5) (cond (Nat.blt k 1) (cond (Nat.beq k 0) (some (.aload_n 0)) (none)) (cond (Nat.blt k 4) (cond (Nat.beq k 1) (some (.invokevirtual 58)) (none)) (cond (Nat.beq k 4) (some (.aload_n 0)) (none)))) (cond (Nat.blt k 11) (cond (Nat.blt k 8) (cond (Nat.beq k 5) (some (.getfield 39)) (none)) (cond (Nat.beq k 8) (some (.ifCond .le 32)) (none))) (cond (Nat.blt k 12) (cond (Nat.beq k 11) (some (.aload_n 0)) (none)) (cond (Nat.beq k 12) (some (.getfield 32)) (none))))) (cond (Nat.blt k 20) (cond (Nat.blt k 16) (cond (Nat.beq k 15) (some (.iload_n 1)) (none)) (cond (Nat.blt k 19) (cond (Nat.beq k 16) (some (.if_icmp .ge 24)) (none)) (cond (Nat.beq k 19) (some (.aload_n 0)) (none)))) (cond (Nat.blt k 24) (cond (Nat.blt k 21) (cond (Nat.beq k 20) (some (.dup)) (none)) (cond (Nat.beq k 21) (some (.getfield 32)) (none))) (cond (Nat.blt k 25) (cond (Nat.beq k 24) (some (.iconst 1)) (none)) (cond (Nat.beq k 25) (some (.iadd)) (none)))))) (cond (Nat.blt k 41) (cond (Nat.blt k 33) (cond (Nat.blt k 29) (cond (Nat.beq k 26) (some (.putfield 32)) (none)) (cond (Nat.blt k 30) (cond (Nat.beq k 29) (some (.aload_n 0)) (none)) (cond (Nat.beq k 30) (some (.invokevirtual 61)) (none)))) (cond (Nat.blt k 37) (cond (Nat.blt k 34) (cond (Nat.beq k 33) (some (.aload_n 0)) (none)) (cond (Nat.beq k 34) (some (.invokevirtual 58)) (none))) (cond (Nat.blt k 40) (cond (Nat.beq k 37) (some (.goto (-33))) (none)) (cond (Nat.beq k 40) (some (.aload_n 0)) (none))))) (cond (Nat.blt k 50) (cond (Nat.blt k 44) (cond (Nat.beq k 41) (some (.getfield 39)) (none)) (cond (Nat.blt k 47) (cond (Nat.beq k 44) (some (.ifCond .le 11)) (none)) (cond (Nat.beq k 47) (some (.new 64)) (none)))) (cond (Nat.blt k 54) (cond (Nat.blt k 51) (cond (Nat.beq k 50) (some (.dup)) (none)) (cond (Nat.beq k 51) (some (.invokespecial 66)) (none))) (cond (Nat.blt k 55) (cond (Nat.beq k 54) (some (.athrow)) (none)) (cond (Nat.beq k 55) (some (.return_)) (none))))))
def fmM_work : fm_Me := (⟨"FlatModule$Machine", "work", "(I)V"⟩, prog_7_method_4_code, 2, none, 5, fm_f5, fm_cut 56 fmM_work_i)
theorem fmM_work_dc : fm_dc prog_7_method_4_code (fm_cut 56 fmM_work_i) := fm_dc_of (by decide +kernel)
theorem fmM_work_o : fm_mok fmM_work := ⟨⟨fm_f5_o, fmM_work_dc⟩, fm_tb (List.mem_of_getElem? (i := 492) (by decide +kernel)) rfl, fm_tb (List.mem_of_getElem? (i := 4) (by decide +kernel)) rfl, rfl, by decide +kernel, by decide⟩
def fmM_result_i (k : Nat) : Option Instr := cond (Nat.blt k 12) (cond (Nat.blt k 5) (cond (Nat.blt k 1) (cond (Nat.beq k 0) (some (.aload_n 1)) (none)) (cond (Nat.blt k 4) (cond (Nat.beq k 1) (some (.getfield 67)) (none)) (cond (Nat.beq k 4) (some (.iconst 4)) (none)))) (cond (Nat.blt k 8) (cond (Nat.beq k 5) (some (.if_icmp .ne 7)) (none)) (cond (Nat.blt k 9) (cond (Nat.beq k 8) (some (.dconst 0)) (none)) (cond (Nat.beq k 9) (some (.goto 15)) (none))))) (cond (Nat.blt k 17) (cond (Nat.blt k 13) (cond (Nat.beq k 12) (some (.aload_n 0)) (none)) (cond (Nat.blt k 14) (cond (Nat.beq k 13) (some (.aload_n 1)) (none)) (cond (Nat.beq k 14) (some (.getfield 70)) (none)))) (cond (Nat.blt k 21) (cond (Nat.blt k 18) (cond (Nat.beq k 17) (some (.aload_n 1)) (none)) (cond (Nat.beq k 18) (some (.getfield 67)) (none))) (cond (Nat.blt k 24) (cond (Nat.beq k 21) (some (.invokevirtual 73)) (none)) (cond (Nat.beq k 24) (some (.dreturn)) (none)))))
def fmM_result : fm_Me := (⟨"FlatModule$Machine", "result", "(LFlatModule$Function;)D"⟩, prog_7_method_5_code, 2, some .double, 5, fm_f5, fm_cut 25 fmM_result_i)
theorem fmM_result_dc : fm_dc prog_7_method_5_code (fm_cut 25 fmM_result_i) := fm_dc_of (by decide +kernel)
theorem fmM_result_o : fm_mok fmM_result := ⟨⟨fm_f5_o, fmM_result_dc⟩, fm_tb (List.mem_of_getElem? (i := 600) (by decide +kernel)) rfl, fm_tb (List.mem_of_getElem? (i := 4) (by decide +kernel)) rfl, rfl, by decide +kernel, by decide⟩
def fmM_valueOfGlobal_i (k : Nat) : Option Instr := cond (Nat.blt k 5) (cond (Nat.blt k 1) (cond (Nat.beq k 0) (some (.aload_n 0)) (none)) (cond (Nat.blt k 4) (cond (Nat.beq k 1) (some (.sipush 208)) (none)) (cond (Nat.beq k 4) (some (.iload_n 1)) (none)))) (cond (Nat.blt k 7) (cond (Nat.blt k 6) (cond (Nat.beq k 5) (some (.iadd)) (none)) (cond (Nat.beq k 6) (some (.iload_n 1)) (none))) (cond (Nat.blt k 10) (cond (Nat.beq k 7) (some (.invokevirtual 73)) (none)) (cond (Nat.beq k 10) (some (.dreturn)) (none))))
def fmM_valueOfGlobal : fm_Me := (⟨"FlatModule$Machine", "valueOfGlobal", "(I)D"⟩, prog_7_method_6_code, 2, some .double, 5, fm_f5, fm_cut 11 fmM_valueOfGlobal_i)
theorem fmM_valueOfGlobal_dc : fm_dc prog_7_method_6_code (fm_cut 11 fmM_valueOfGlobal_i) := fm_dc_of (by decide +kernel)
theorem fmM_valueOfGlobal_o : fm_mok fmM_valueOfGlobal := ⟨⟨fm_f5_o, fmM_valueOfGlobal_dc⟩, fm_tb (List.mem_of_getElem? (i := 615) (by decide +kernel)) rfl, fm_tb (List.mem_of_getElem? (i := 4) (by decide +kernel)) rfl, rfl, by decide +kernel, by decide⟩
def fmM_valueOf_i (k : Nat) : Option Instr := cond (Nat.blt k 11) (cond (Nat.blt k 5) (cond (Nat.blt k 1) (cond (Nat.beq k 0) (some (.iload_n 2)) (none)) (cond (Nat.blt k 2) (cond (Nat.beq k 1) (some (.iconst 1)) (none)) (cond (Nat.beq k 2) (some (.if_icmp .gt 13)) (none)))) (cond (Nat.blt k 9) (cond (Nat.blt k 6) (cond (Nat.beq k 5) (some (.aload_n 0)) (none)) (cond (Nat.beq k 6) (some (.getfield 17)) (none))) (cond (Nat.blt k 10) (cond (Nat.beq k 9) (some (.iload_n 1)) (none)) (cond (Nat.beq k 10) (some (.laload)) (none))))) (cond (Nat.blt k 16) (cond (Nat.blt k 12) (cond (Nat.beq k 11) (some (.l2d)) (none)) (cond (Nat.blt k 15) (cond (Nat.beq k 12) (some (.goto 9)) (none)) (cond (Nat.beq k 15) (some (.aload_n 0)) (none)))) (cond (Nat.blt k 20) (cond (Nat.blt k 19) (cond (Nat.beq k 16) (some (.getfield 21)) (none)) (cond (Nat.beq k 19) (some (.iload_n 1)) (none))) (cond (Nat.blt k 21) (cond (Nat.beq k 20) (some (.daload)) (none)) (cond (Nat.beq k 21) (some (.dreturn)) (none)))))
def fmM_valueOf : fm_Me := (⟨"FlatModule$Machine", "valueOf", "(II)D"⟩, prog_7_method_7_code, 3, some .double, 5, fm_f5, fm_cut 22 fmM_valueOf_i)
theorem fmM_valueOf_dc : fm_dc prog_7_method_7_code (fm_cut 22 fmM_valueOf_i) := fm_dc_of (by decide +kernel)
theorem fmM_valueOf_o : fm_mok fmM_valueOf := ⟨⟨fm_f5_o, fmM_valueOf_dc⟩, fm_tb (List.mem_of_getElem? (i := 604) (by decide +kernel)) rfl, fm_tb (List.mem_of_getElem? (i := 4) (by decide +kernel)) rfl, rfl, by decide +kernel, by decide⟩
def fmM_enter_i (k : Nat) : Option Instr := cond (Nat.blt k 50) (cond (Nat.blt k 22) (cond (Nat.blt k 11) (cond (Nat.blt k 5) (cond (Nat.blt k 1) (cond (Nat.beq k 0) (some (.aload_n 0)) (none)) (cond (Nat.blt k 4) (cond (Nat.beq k 1) (some (.getfield 25)) (none)) (cond (Nat.beq k 4) (some (.aload_n 0)) (none)))) (cond (Nat.blt k 9) (cond (Nat.blt k 8) (cond (Nat.beq k 5) (some (.getfield 39)) (none)) (cond (Nat.beq k 8) (some (.iload_n 1)) (none))) (cond (Nat.blt k 10) (cond (Nat.beq k 9) (some (.iastore)) (none)) (cond (Nat.beq k 10) (some (.aload_n 0)) (none))))) (cond (Nat.blt k 18) (cond (Nat.blt k 14) (cond (Nat.beq k 11) (some (.getfield 29)) (none)) (cond (Nat.blt k 15) (cond (Nat.beq k 14) (some (.aload_n 0)) (none)) (cond (Nat.beq k 15) (some (.getfield 39)) (none)))) (cond (Nat.blt k 20) (cond (Nat.blt k 19) (cond (Nat.beq k 18) (some (.iconst 0)) (none)) (cond (Nat.beq k 19) (some (.iastore)) (none))) (cond (Nat.blt k 21) (cond (Nat.beq k 20) (some (.aload_n 0)) (none)) (cond (Nat.beq k 21) (some (.aload_n 0)) (none)))))) (cond (Nat.blt k 36) (cond (Nat.blt k 28) (cond (Nat.blt k 25) (cond (Nat.beq k 22) (some (.getfield 39)) (none)) (cond (Nat.blt k 27) (cond (Nat.beq k 25) (some (.bipush 26)) (none)) (cond (Nat.beq k 27) (some (.imul)) (none)))) (cond (Nat.blt k 32) (cond (Nat.blt k 31) (cond (Nat.beq k 28) (some (.putfield 77)) (none)) (cond (Nat.beq k 31) (some (.aload_n 0)) (none))) (cond (Nat.blt k 33) (cond (Nat.beq k 32) (some (.dup)) (none)) (cond (Nat.beq k 33) (some (.getfield 39)) (none))))) (cond (Nat.blt k 42) (cond (Nat.blt k 38) (cond (Nat.blt k 37) (cond (Nat.beq k 36) (some (.iconst 1)) (none)) (cond (Nat.beq k 37) (some (.iadd)) (none))) (cond (Nat.blt k 41) (cond (Nat.beq k 38) (some (.putfield 39)) (none)) (cond (Nat.beq k 41) (some (.aload_n 0)) (none)))) (cond (Nat.blt k 46) (cond (Nat.blt k 43) (cond (Nat.beq k 42) (some (.aload_n 0)) (none)) (cond (Nat.beq k 43) (some (.getfield 36)) (none))) (cond (Nat.blt k 47) (cond (Nat.beq k 46) (some (.aload_n 0)) (none)) (cond (Nat.beq k 47) (some (.getfield 39)) (none))))))) (cond (Nat.blt k 79) (cond (Nat.blt k 63) (cond (Nat.blt k 57) (cond (Nat.blt k 53) (cond (Nat.beq k 50) (some (.invokestatic 80)) (none)) (cond (Nat.blt k 56) (cond (Nat.beq k 53) (some (.putfield 36)) (none)) (cond (Nat.beq k 56) (some (.iconst 0)) (none)))) (cond (Nat.blt k 59) (cond (Nat.blt k 58) (cond (Nat.beq k 57) (some (.istore_n 2)) (none)) (cond (Nat.beq k 58) (some (.iload_n 2)) (none))) (cond (Nat.blt k 60) (cond (Nat.beq k 59) (some (.aload_n 0)) (none)) (cond (Nat.beq k 60) (some (.getfield 13)) (none))))) (cond (Nat.blt k 71) (cond (Nat.blt k 65) (cond (Nat.blt k 64) (cond (Nat.beq k 63) (some (.iload_n 1)) (none)) (cond (Nat.beq k 64) (some (.aaload)) (none))) (cond (Nat.blt k 68) (cond (Nat.beq k 65) (some (.getfield 70)) (none)) (cond (Nat.beq k 68) (some (.if_icmp .ge 33)) (none)))) (cond (Nat.blt k 75) (cond (Nat.blt k 72) (cond (Nat.beq k 71) (some (.aload_n 0)) (none)) (cond (Nat.beq k 72) (some (.getfield 17)) (none))) (cond (Nat.blt k 76) (cond (Nat.beq k 75) (some (.aload_n 0)) (none)) (cond (Nat.beq k 76) (some (.getfield 77)) (none)))))) (cond (Nat.blt k 88) (cond (Nat.blt k 82) (cond (Nat.blt k 80) (cond (Nat.beq k 79) (some (.iload_n 2)) (none)) (cond (Nat.blt k 81) (cond (Nat.beq k 80) (some (.iadd)) (none)) (cond (Nat.beq k 81) (some (.lconst 0)) (none)))) (cond (Nat.blt k 84) (cond (Nat.blt k 83) (cond (Nat.beq k 82) (some (.lastore)) (none)) (cond (Nat.beq k 83) (some (.aload_n 0)) (none))) (cond (Nat.blt k 87) (cond (Nat.beq k 84) (some (.getfield 21)) (none)) (cond (Nat.beq k 87) (some (.aload_n 0)) (none))))) (cond (Nat.blt k 94) (cond (Nat.blt k 92) (cond (Nat.blt k 91) (cond (Nat.beq k 88) (some (.getfield 77)) (none)) (cond (Nat.beq k 91) (some (.iload_n 2)) (none))) (cond (Nat.blt k 93) (cond (Nat.beq k 92) (some (.iadd)) (none)) (cond (Nat.beq k 93) (some (.dconst 0)) (none)))) (cond (Nat.blt k 98) (cond (Nat.blt k 95) (cond (Nat.beq k 94) (some (.dastore)) (none)) (cond (Nat.beq k 95) (some (.iinc 2 1)) (none))) (cond (Nat.blt k 101) (cond (Nat.beq k 98) (some (.goto (-40))) (none)) (cond (Nat.beq k 101) (some (.return_)) (none)))))))
def fmM_enter : fm_Me := (⟨"FlatModule$Machine", "enter", "(I)V"⟩, prog_7_method_8_code, 3, none, 5, fm_f5, fm_cut 102 fmM_enter_i)
theorem fmM_enter_dc : fm_dc prog_7_method_8_code (fm_cut 102 fmM_enter_i) := fm_dc_of (by decide +kernel)
theorem fmM_enter_o : fm_mok fmM_enter := ⟨⟨fm_f5_o, fmM_enter_dc⟩, fm_tb (List.mem_of_getElem? (i := 478) (by decide +kernel)) rfl, fm_tb (List.mem_of_getElem? (i := 4) (by decide +kernel)) rfl, rfl, by decide +kernel, by decide⟩
def fmM_leaveWhatHasEnded_i (k : Nat) : Option Instr := cond (Nat.blt k 40) (cond (Nat.blt k 19) (cond (Nat.blt k 11) (cond (Nat.blt k 4) (cond (Nat.blt k 1) (cond (Nat.beq k 0) (some (.aload_n 0)) (none)) (cond (Nat.beq k 1) (some (.getfield 39)) (none))) (cond (Nat.blt k 7) (cond (Nat.beq k 4) (some (.ifCond .le 77)) (none)) (cond (Nat.blt k 8) (cond (Nat.beq k 7) (some (.aload_n 0)) (none)) (cond (Nat.beq k 8) (some (.getfield 29)) (none))))) (cond (Nat.blt k 16) (cond (Nat.blt k 12) (cond (Nat.beq k 11) (some (.aload_n 0)) (none)) (cond (Nat.blt k 15) (cond (Nat.beq k 12) (some (.getfield 39)) (none)) (cond (Nat.beq k 15) (some (.iconst 1)) (none)))) (cond (Nat.blt k 17) (cond (Nat.beq k 16) (some (.isub)) (none)) (cond (Nat.blt k 18) (cond (Nat.beq k 17) (some (.iaload)) (none)) (cond (Nat.beq k 18) (some (.aload_n 0)) (none)))))) (cond (Nat.blt k 30) (cond (Nat.blt k 23) (cond (Nat.blt k 22) (cond (Nat.beq k 19) (some (.getfield 13)) (none)) (cond (Nat.beq k 22) (some (.aload_n 0)) (none))) (cond (Nat.blt k 26) (cond (Nat.beq k 23) (some (.getfield 25)) (none)) (cond (Nat.blt k 27) (cond (Nat.beq k 26) (some (.aload_n 0)) (none)) (cond (Nat.beq k 27) (some (.getfield 39)) (none))))) (cond (Nat.blt k 33) (cond (Nat.blt k 31) (cond (Nat.beq k 30) (some (.iconst 1)) (none)) (cond (Nat.blt k 32) (cond (Nat.beq k 31) (some (.isub)) (none)) (cond (Nat.beq k 32) (some (.iaload)) (none)))) (cond (Nat.blt k 34) (cond (Nat.beq k 33) (some (.aaload)) (none)) (cond (Nat.blt k 37) (cond (Nat.beq k 34) (some (.getfield 86)) (none)) (cond (Nat.beq k 37) (some (.getfield 90)) (none))))))) (cond (Nat.blt k 61) (cond (Nat.blt k 49) (cond (Nat.blt k 44) (cond (Nat.blt k 43) (cond (Nat.beq k 40) (some (.if_icmp .lt 41)) (none)) (cond (Nat.beq k 43) (some (.aload_n 0)) (none))) (cond (Nat.blt k 45) (cond (Nat.beq k 44) (some (.dup)) (none)) (cond (Nat.blt k 48) (cond (Nat.beq k 45) (some (.getfield 39)) (none)) (cond (Nat.beq k 48) (some (.iconst 1)) (none))))) (cond (Nat.blt k 54) (cond (Nat.blt k 50) (cond (Nat.beq k 49) (some (.isub)) (none)) (cond (Nat.blt k 53) (cond (Nat.beq k 50) (some (.putfield 39)) (none)) (cond (Nat.beq k 53) (some (.aload_n 0)) (none)))) (cond (Nat.blt k 57) (cond (Nat.beq k 54) (some (.getfield 39)) (none)) (cond (Nat.blt k 60) (cond (Nat.beq k 57) (some (.ifCond .le (-57))) (none)) (cond (Nat.beq k 60) (some (.aload_n 0)) (none)))))) (cond (Nat.blt k 70) (cond (Nat.blt k 65) (cond (Nat.blt k 62) (cond (Nat.beq k 61) (some (.aload_n 0)) (none)) (cond (Nat.beq k 62) (some (.getfield 13)) (none))) (cond (Nat.blt k 66) (cond (Nat.beq k 65) (some (.aload_n 0)) (none)) (cond (Nat.blt k 69) (cond (Nat.beq k 66) (some (.getfield 25)) (none)) (cond (Nat.beq k 69) (some (.aload_n 0)) (none))))) (cond (Nat.blt k 75) (cond (Nat.blt k 73) (cond (Nat.beq k 70) (some (.getfield 39)) (none)) (cond (Nat.blt k 74) (cond (Nat.beq k 73) (some (.iaload)) (none)) (cond (Nat.beq k 74) (some (.aaload)) (none)))) (cond (Nat.blt k 78) (cond (Nat.beq k 75) (some (.invokevirtual 95)) (none)) (cond (Nat.blt k 81) (cond (Nat.beq k 78) (some (.goto (-78))) (none)) (cond (Nat.beq k 81) (some (.return_)) (none)))))))
def fmM_leaveWhatHasEnded : fm_Me := (⟨"FlatModule$Machine", "leaveWhatHasEnded", "()V"⟩, prog_7_method_9_code, 1, none, 5, fm_f5, fm_cut 82 fmM_leaveWhatHasEnded_i)
theorem fmM_leaveWhatHasEnded_dc : fm_dc prog_7_method_9_code (fm_cut 82 fmM_leaveWhatHasEnded_i) := fm_dc_of (by decide +kernel)
theorem fmM_leaveWhatHasEnded_o : fm_mok fmM_leaveWhatHasEnded := ⟨⟨fm_f5_o, fmM_leaveWhatHasEnded_dc⟩, fm_tb (List.mem_of_getElem? (i := 496) (by decide +kernel)) rfl, fm_tb (List.mem_of_getElem? (i := 4) (by decide +kernel)) rfl, rfl, by decide +kernel, by decide⟩
def fmM_backToCaller_i (k : Nat) : Option Instr := cond (Nat.blt k 42) (cond (Nat.blt k 18) (cond (Nat.blt k 9) (cond (Nat.blt k 4) (cond (Nat.blt k 1) (cond (Nat.beq k 0) (some (.aload_n 0)) (none)) (cond (Nat.beq k 1) (some (.getfield 77)) (none))) (cond (Nat.blt k 5) (cond (Nat.beq k 4) (some (.aload_n 1)) (none)) (cond (Nat.blt k 8) (cond (Nat.beq k 5) (some (.getfield 70)) (none)) (cond (Nat.beq k 8) (some (.iadd)) (none))))) (cond (Nat.blt k 12) (cond (Nat.blt k 10) (cond (Nat.beq k 9) (some (.istore_n 2)) (none)) (cond (Nat.blt k 11) (cond (Nat.beq k 10) (some (.aload_n 0)) (none)) (cond (Nat.beq k 11) (some (.aload_n 0)) (none)))) (cond (Nat.blt k 15) (cond (Nat.beq k 12) (some (.getfield 77)) (none)) (cond (Nat.blt k 17) (cond (Nat.beq k 15) (some (.bipush 26)) (none)) (cond (Nat.beq k 17) (some (.isub)) (none)))))) (cond (Nat.blt k 30) (cond (Nat.blt k 25) (cond (Nat.blt k 21) (cond (Nat.beq k 18) (some (.putfield 77)) (none)) (cond (Nat.blt k 22) (cond (Nat.beq k 21) (some (.aload_n 1)) (none)) (cond (Nat.beq k 22) (some (.getfield 67)) (none)))) (cond (Nat.blt k 26) (cond (Nat.beq k 25) (some (.iconst 4)) (none)) (cond (Nat.blt k 29) (cond (Nat.beq k 26) (some (.if_icmp .eq 51)) (none)) (cond (Nat.beq k 29) (some (.aload_n 0)) (none))))) (cond (Nat.blt k 37) (cond (Nat.blt k 33) (cond (Nat.beq k 30) (some (.getfield 13)) (none)) (cond (Nat.blt k 34) (cond (Nat.beq k 33) (some (.aload_n 0)) (none)) (cond (Nat.beq k 34) (some (.getfield 25)) (none)))) (cond (Nat.blt k 38) (cond (Nat.beq k 37) (some (.aload_n 0)) (none)) (cond (Nat.blt k 41) (cond (Nat.beq k 38) (some (.getfield 39)) (none)) (cond (Nat.beq k 41) (some (.iconst 1)) (none))))))) (cond (Nat.blt k 60) (cond (Nat.blt k 50) (cond (Nat.blt k 45) (cond (Nat.blt k 43) (cond (Nat.beq k 42) (some (.isub)) (none)) (cond (Nat.blt k 44) (cond (Nat.beq k 43) (some (.iaload)) (none)) (cond (Nat.beq k 44) (some (.aaload)) (none)))) (cond (Nat.blt k 48) (cond (Nat.beq k 45) (some (.getfield 86)) (none)) (cond (Nat.blt k 49) (cond (Nat.beq k 48) (some (.astore_n 3)) (none)) (cond (Nat.beq k 49) (some (.aload_n 0)) (none))))) (cond (Nat.blt k 55) (cond (Nat.blt k 51) (cond (Nat.beq k 50) (some (.iload_n 2)) (none)) (cond (Nat.blt k 52) (cond (Nat.beq k 51) (some (.aload_n 0)) (none)) (cond (Nat.beq k 52) (some (.getfield 77)) (none)))) (cond (Nat.blt k 56) (cond (Nat.beq k 55) (some (.aload_n 3)) (none)) (cond (Nat.blt k 59) (cond (Nat.beq k 56) (some (.getfield 99)) (none)) (cond (Nat.beq k 59) (some (.aload_n 0)) (none)))))) (cond (Nat.blt k 70) (cond (Nat.blt k 67) (cond (Nat.blt k 63) (cond (Nat.beq k 60) (some (.getfield 29)) (none)) (cond (Nat.blt k 64) (cond (Nat.beq k 63) (some (.aload_n 0)) (none)) (cond (Nat.beq k 64) (some (.getfield 39)) (none)))) (cond (Nat.blt k 68) (cond (Nat.beq k 67) (some (.iconst 1)) (none)) (cond (Nat.blt k 69) (cond (Nat.beq k 68) (some (.isub)) (none)) (cond (Nat.beq k 69) (some (.iaload)) (none))))) (cond (Nat.blt k 73) (cond (Nat.blt k 71) (cond (Nat.beq k 70) (some (.iconst 1)) (none)) (cond (Nat.blt k 72) (cond (Nat.beq k 71) (some (.isub)) (none)) (cond (Nat.beq k 72) (some (.iaload)) (none)))) (cond (Nat.blt k 74) (cond (Nat.beq k 73) (some (.iadd)) (none)) (cond (Nat.blt k 77) (cond (Nat.beq k 74) (some (.invokevirtual 102)) (none)) (cond (Nat.beq k 77) (some (.return_)) (none)))))))
def fmM_backToCaller : fm_Me := (⟨"FlatModule$Machine", "backToCaller", "(LFlatModule$Function;)V"⟩, prog_7_method_10_code, 4, none, 5, fm_f5, fm_cut 78 fmM_backToCaller_i)
theorem fmM_backToCaller_dc : fm_dc prog_7_method_10_code (fm_cut 78 fmM_backToCaller_i) := fm_dc_of (by decide +kernel)
theorem fmM_backToCaller_o : fm_mok fmM_backToCaller := ⟨⟨fm_f5_o, fmM_backToCaller_dc⟩, fm_tb (List.mem_of_getElem? (i := 500) (by decide +kernel)) rfl, fm_tb (List.mem_of_getElem? (i := 4) (by decide +kernel)) rfl, rfl, by decide +kernel, by decide⟩
def fmM_step_i (k : Nat) : Option Instr := cond (Nat.blt k 54) (cond (Nat.blt k 30) (cond (Nat.blt k 15) (cond (Nat.blt k 8) (cond (Nat.blt k 4) (cond (Nat.blt k 1) (cond (Nat.beq k 0) (some (.aload_n 0)) (none)) (cond (Nat.beq k 1) (some (.getfield 13)) (none))) (cond (Nat.blt k 5) (cond (Nat.beq k 4) (some (.aload_n 0)) (none)) (cond (Nat.beq k 5) (some (.getfield 25)) (none)))) (cond (Nat.blt k 12) (cond (Nat.blt k 9) (cond (Nat.beq k 8) (some (.aload_n 0)) (none)) (cond (Nat.beq k 9) (some (.getfield 39)) (none))) (cond (Nat.blt k 13) (cond (Nat.beq k 12) (some (.iconst 1)) (none)) (cond (Nat.blt k 14) (cond (Nat.beq k 13) (some (.isub)) (none)) (cond (Nat.beq k 14) (some (.iaload)) (none)))))) (cond (Nat.blt k 21) (cond (Nat.blt k 19) (cond (Nat.blt k 16) (cond (Nat.beq k 15) (some (.aaload)) (none)) (cond (Nat.beq k 16) (some (.getfield 86)) (none))) (cond (Nat.blt k 20) (cond (Nat.beq k 19) (some (.astore_n 1)) (none)) (cond (Nat.beq k 20) (some (.aload_n 0)) (none)))) (cond (Nat.blt k 25) (cond (Nat.blt k 24) (cond (Nat.beq k 21) (some (.getfield 29)) (none)) (cond (Nat.beq k 24) (some (.aload_n 0)) (none))) (cond (Nat.blt k 28) (cond (Nat.beq k 25) (some (.getfield 39)) (none)) (cond (Nat.blt k 29) (cond (Nat.beq k 28) (some (.iconst 1)) (none)) (cond (Nat.beq k 29) (some (.isub)) (none))))))) (cond (Nat.blt k 43) (cond (Nat.blt k 36) (cond (Nat.blt k 32) (cond (Nat.blt k 31) (cond (Nat.beq k 30) (some (.iaload)) (none)) (cond (Nat.beq k 31) (some (.istore_n 2)) (none))) (cond (Nat.blt k 33) (cond (Nat.beq k 32) (some (.aload_n 0)) (none)) (cond (Nat.beq k 33) (some (.getfield 29)) (none)))) (cond (Nat.blt k 40) (cond (Nat.blt k 37) (cond (Nat.beq k 36) (some (.aload_n 0)) (none)) (cond (Nat.beq k 37) (some (.getfield 39)) (none))) (cond (Nat.blt k 41) (cond (Nat.beq k 40) (some (.iconst 1)) (none)) (cond (Nat.blt k 42) (cond (Nat.beq k 41) (some (.isub)) (none)) (cond (Nat.beq k 42) (some (.iload_n 2)) (none)))))) (cond (Nat.blt k 47) (cond (Nat.blt k 45) (cond (Nat.blt k 44) (cond (Nat.beq k 43) (some (.iconst 1)) (none)) (cond (Nat.beq k 44) (some (.iadd)) (none))) (cond (Nat.blt k 46) (cond (Nat.beq k 45) (some (.iastore)) (none)) (cond (Nat.beq k 46) (some (.aload_n 1)) (none)))) (cond (Nat.blt k 51) (cond (Nat.blt k 50) (cond (Nat.beq k 47) (some (.getfield 106)) (none)) (cond (Nat.beq k 50) (some (.iload_n 2)) (none))) (cond (Nat.blt k 52) (cond (Nat.beq k 51) (some (.iaload)) (none)) (cond (Nat.blt k 53) (cond (Nat.beq k 52) (some (.istore_n 3)) (none)) (cond (Nat.beq k 53) (some (.aload_n 1)) (none)))))))) (cond (Nat.blt k 84) (cond (Nat.blt k 70) (cond (Nat.blt k 61) (cond (Nat.blt k 58) (cond (Nat.blt k 57) (cond (Nat.beq k 54) (some (.getfield 109)) (none)) (cond (Nat.beq k 57) (some (.iload_n 2)) (none))) (cond (Nat.blt k 59) (cond (Nat.beq k 58) (some (.iaload)) (none)) (cond (Nat.beq k 59) (some (.istore 4)) (none)))) (cond (Nat.blt k 65) (cond (Nat.blt k 62) (cond (Nat.beq k 61) (some (.aload_n 0)) (none)) (cond (Nat.beq k 62) (some (.getfield 77)) (none))) (cond (Nat.blt k 66) (cond (Nat.beq k 65) (some (.aload_n 1)) (none)) (cond (Nat.blt k 69) (cond (Nat.beq k 66) (some (.getfield 99)) (none)) (cond (Nat.beq k 69) (some (.iload_n 2)) (none)))))) (cond (Nat.blt k 75) (cond (Nat.blt k 72) (cond (Nat.blt k 71) (cond (Nat.beq k 70) (some (.iaload)) (none)) (cond (Nat.beq k 71) (some (.iadd)) (none))) (cond (Nat.blt k 74) (cond (Nat.beq k 72) (some (.istore 5)) (none)) (cond (Nat.beq k 74) (some (.iload_n 3)) (none)))) (cond (Nat.blt k 80) (cond (Nat.blt k 77) (cond (Nat.beq k 75) (some (.bipush 10)) (none)) (cond (Nat.beq k 77) (some (.if_icmp .gt 15)) (none))) (cond (Nat.blt k 81) (cond (Nat.beq k 80) (some (.aload_n 0)) (none)) (cond (Nat.blt k 82) (cond (Nat.beq k 81) (some (.iload_n 3)) (none)) (cond (Nat.beq k 82) (some (.iload 4)) (none))))))) (cond (Nat.blt k 102) (cond (Nat.blt k 93) (cond (Nat.blt k 89) (cond (Nat.blt k 86) (cond (Nat.beq k 84) (some (.iload 5)) (none)) (cond (Nat.beq k 86) (some (.invokevirtual 112)) (none))) (cond (Nat.blt k 92) (cond (Nat.beq k 89) (some (.goto 29)) (none)) (cond (Nat.beq k 92) (some (.iload_n 3)) (none)))) (cond (Nat.blt k 98) (cond (Nat.blt k 95) (cond (Nat.beq k 93) (some (.bipush 20)) (none)) (cond (Nat.beq k 95) (some (.if_icmp .gt 15)) (none))) (cond (Nat.blt k 99) (cond (Nat.beq k 98) (some (.aload_n 0)) (none)) (cond (Nat.blt k 100) (cond (Nat.beq k 99) (some (.iload_n 3)) (none)) (cond (Nat.beq k 100) (some (.iload 4)) (none)))))) (cond (Nat.blt k 111) (cond (Nat.blt k 107) (cond (Nat.blt k 104) (cond (Nat.beq k 102) (some (.iload 5)) (none)) (cond (Nat.beq k 104) (some (.invokevirtual 116)) (none))) (cond (Nat.blt k 110) (cond (Nat.beq k 107) (some (.goto 11)) (none)) (cond (Nat.beq k 110) (some (.aload_n 0)) (none)))) (cond (Nat.blt k 113) (cond (Nat.blt k 112) (cond (Nat.beq k 111) (some (.aload_n 1)) (none)) (cond (Nat.beq k 112) (some (.iload_n 2)) (none))) (cond (Nat.blt k 115) (cond (Nat.beq k 113) (some (.iload 5)) (none)) (cond (Nat.blt k 118) (cond (Nat.beq k 115) (some (.invokevirtual 119)) (none)) (cond (Nat.beq k 118) (some (.return_)) (none))))))))
def fmM_step : fm_Me := (⟨"FlatModule$Machine", "step", "()V"⟩, prog_7_method_11_code, 6, none, 5, fm_f5, fm_cut 119 fmM_step_i)
theorem fmM_step_dc : fm_dc prog_7_method_11_code (fm_cut 119 fmM_step_i) := fm_dc_of (by decide +kernel)
theorem fmM_step_o : fm_mok fmM_step := ⟨⟨fm_f5_o, fmM_step_dc⟩, fm_tb (List.mem_of_getElem? (i := 508) (by decide +kernel)) rfl, fm_tb (List.mem_of_getElem? (i := 4) (by decide +kernel)) rfl, rfl, by decide +kernel, by decide⟩
def fmM_moveValues_i (k : Nat) : Option Instr := cond (Nat.blt k 116) (cond (Nat.blt k 83) (cond (Nat.blt k 71) (cond (Nat.blt k 64) (cond (Nat.blt k 60) (cond (Nat.blt k 1) (cond (Nat.beq k 0) (some (.iload_n 1)) (none)) (cond (Nat.beq k 1) (some (.tableswitch 178 0 10 #[59, 59, 70, 85, 100, 114, 114, 128, 141, 178, 154])) (none))) (cond (Nat.blt k 61) (cond (Nat.beq k 60) (some (.aload_n 0)) (none)) (cond (Nat.beq k 61) (some (.getfield 17)) (none)))) (cond (Nat.blt k 66) (cond (Nat.blt k 65) (cond (Nat.beq k 64) (some (.iload_n 3)) (none)) (cond (Nat.beq k 65) (some (.iload_n 2)) (none))) (cond (Nat.blt k 67) (cond (Nat.beq k 66) (some (.i2l)) (none)) (cond (Nat.blt k 68) (cond (Nat.beq k 67) (some (.lastore)) (none)) (cond (Nat.beq k 68) (some (.goto 111)) (none)))))) (cond (Nat.blt k 77) (cond (Nat.blt k 75) (cond (Nat.blt k 72) (cond (Nat.beq k 71) (some (.aload_n 0)) (none)) (cond (Nat.beq k 72) (some (.getfield 21)) (none))) (cond (Nat.blt k 76) (cond (Nat.beq k 75) (some (.iload_n 3)) (none)) (cond (Nat.beq k 76) (some (.iload_n 2)) (none)))) (cond (Nat.blt k 80) (cond (Nat.blt k 78) (cond (Nat.beq k 77) (some (.i2f)) (none)) (cond (Nat.beq k 78) (some (.ldc 123)) (none))) (cond (Nat.blt k 81) (cond (Nat.beq k 80) (some (.fmul)) (none)) (cond (Nat.blt k 82) (cond (Nat.beq k 81) (some (.f2d)) (none)) (cond (Nat.beq k 82) (some (.dastore)) (none))))))) (cond (Nat.blt k 98) (cond (Nat.blt k 91) (cond (Nat.blt k 87) (cond (Nat.blt k 86) (cond (Nat.beq k 83) (some (.goto 96)) (none)) (cond (Nat.beq k 86) (some (.aload_n 0)) (none))) (cond (Nat.blt k 90) (cond (Nat.beq k 87) (some (.getfield 21)) (none)) (cond (Nat.beq k 90) (some (.iload_n 3)) (none)))) (cond (Nat.blt k 93) (cond (Nat.blt k 92) (cond (Nat.beq k 91) (some (.iload_n 2)) (none)) (cond (Nat.beq k 92) (some (.i2d)) (none))) (cond (Nat.blt k 96) (cond (Nat.beq k 93) (some (.ldc2_w 124)) (none)) (cond (Nat.blt k 97) (cond (Nat.beq k 96) (some (.dmul)) (none)) (cond (Nat.beq k 97) (some (.dastore)) (none)))))) (cond (Nat.blt k 107) (cond (Nat.blt k 102) (cond (Nat.blt k 101) (cond (Nat.beq k 98) (some (.goto 81)) (none)) (cond (Nat.beq k 101) (some (.aload_n 0)) (none))) (cond (Nat.blt k 103) (cond (Nat.beq k 102) (some (.aload_n 0)) (none)) (cond (Nat.blt k 106) (cond (Nat.beq k 103) (some (.getfield 77)) (none)) (cond (Nat.beq k 106) (some (.iload_n 2)) (none))))) (cond (Nat.blt k 109) (cond (Nat.blt k 108) (cond (Nat.beq k 107) (some (.iadd)) (none)) (cond (Nat.beq k 108) (some (.iload_n 3)) (none))) (cond (Nat.blt k 112) (cond (Nat.beq k 109) (some (.invokevirtual 102)) (none)) (cond (Nat.blt k 115) (cond (Nat.beq k 112) (some (.goto 67)) (none)) (cond (Nat.beq k 115) (some (.aload_n 0)) (none)))))))) (cond (Nat.blt k 149) (cond (Nat.blt k 133) (cond (Nat.blt k 122) (cond (Nat.blt k 118) (cond (Nat.blt k 117) (cond (Nat.beq k 116) (some (.iload_n 3)) (none)) (cond (Nat.beq k 117) (some (.aload_n 0)) (none))) (cond (Nat.blt k 121) (cond (Nat.beq k 118) (some (.getfield 77)) (none)) (cond (Nat.beq k 121) (some (.iload_n 2)) (none)))) (cond (Nat.blt k 126) (cond (Nat.blt k 123) (cond (Nat.beq k 122) (some (.iadd)) (none)) (cond (Nat.beq k 123) (some (.invokevirtual 102)) (none))) (cond (Nat.blt k 129) (cond (Nat.beq k 126) (some (.goto 53)) (none)) (cond (Nat.blt k 130) (cond (Nat.beq k 129) (some (.aload_n 0)) (none)) (cond (Nat.beq k 130) (some (.sipush 208)) (none)))))) (cond (Nat.blt k 142) (cond (Nat.blt k 135) (cond (Nat.blt k 134) (cond (Nat.beq k 133) (some (.iload_n 2)) (none)) (cond (Nat.beq k 134) (some (.iadd)) (none))) (cond (Nat.blt k 136) (cond (Nat.beq k 135) (some (.iload_n 3)) (none)) (cond (Nat.blt k 139) (cond (Nat.beq k 136) (some (.invokevirtual 102)) (none)) (cond (Nat.beq k 139) (some (.goto 40)) (none))))) (cond (Nat.blt k 144) (cond (Nat.blt k 143) (cond (Nat.beq k 142) (some (.aload_n 0)) (none)) (cond (Nat.beq k 143) (some (.iload_n 3)) (none))) (cond (Nat.blt k 147) (cond (Nat.beq k 144) (some (.sipush 208)) (none)) (cond (Nat.blt k 148) (cond (Nat.beq k 147) (some (.iload_n 2)) (none)) (cond (Nat.beq k 148) (some (.iadd)) (none))))))) (cond (Nat.blt k 164) (cond (Nat.blt k 159) (cond (Nat.blt k 155) (cond (Nat.blt k 152) (cond (Nat.beq k 149) (some (.invokevirtual 102)) (none)) (cond (Nat.beq k 152) (some (.goto 27)) (none))) (cond (Nat.blt k 156) (cond (Nat.beq k 155) (some (.aload_n 0)) (none)) (cond (Nat.beq k 156) (some (.getfield 17)) (none)))) (cond (Nat.blt k 161) (cond (Nat.blt k 160) (cond (Nat.beq k 159) (some (.iload_n 3)) (none)) (cond (Nat.beq k 160) (some (.iconst 2)) (none))) (cond (Nat.blt k 162) (cond (Nat.beq k 161) (some (.iadd)) (none)) (cond (Nat.blt k 163) (cond (Nat.beq k 162) (some (.laload)) (none)) (cond (Nat.beq k 163) (some (.lconst 0)) (none)))))) (cond (Nat.blt k 171) (cond (Nat.blt k 168) (cond (Nat.blt k 165) (cond (Nat.beq k 164) (some (.lcmp)) (none)) (cond (Nat.beq k 165) (some (.ifCond .ne 14)) (none))) (cond (Nat.blt k 169) (cond (Nat.beq k 168) (some (.aload_n 0)) (none)) (cond (Nat.blt k 170) (cond (Nat.beq k 169) (some (.iload_n 3)) (none)) (cond (Nat.beq k 170) (some (.iconst 1)) (none))))) (cond (Nat.blt k 173) (cond (Nat.blt k 172) (cond (Nat.beq k 171) (some (.iadd)) (none)) (cond (Nat.beq k 172) (some (.iload_n 3)) (none))) (cond (Nat.blt k 176) (cond (Nat.beq k 173) (some (.invokevirtual 102)) (none)) (cond (Nat.blt k 179) (cond (Nat.beq k 176) (some (.goto 3)) (none)) (cond (Nat.beq k 179) (some (.return_)) (none))))))))
def fmM_moveValues : fm_Me := (⟨"FlatModule$Machine", "moveValues", "(III)V"⟩, prog_7_method_12_code, 4, none, 5, fm_f5, fm_cut 180 fmM_moveValues_i)
theorem fmM_moveValues_dc : fm_dc prog_7_method_12_code (fm_cut 180 fmM_moveValues_i) := fm_dc_of (by decide +kernel)
theorem fmM_moveValues_o : fm_mok fmM_moveValues := ⟨⟨fm_f5_o, fmM_moveValues_dc⟩, fm_tb (List.mem_of_getElem? (i := 512) (by decide +kernel)) rfl, fm_tb (List.mem_of_getElem? (i := 4) (by decide +kernel)) rfl, rfl, by decide +kernel, by decide⟩
def fmM_copy_i (k : Nat) : Option Instr := cond (Nat.blt k 12) (cond (Nat.blt k 6) (cond (Nat.blt k 4) (cond (Nat.blt k 1) (cond (Nat.beq k 0) (some (.aload_n 0)) (none)) (cond (Nat.beq k 1) (some (.getfield 17)) (none))) (cond (Nat.blt k 5) (cond (Nat.beq k 4) (some (.iload_n 2)) (none)) (cond (Nat.beq k 5) (some (.aload_n 0)) (none)))) (cond (Nat.blt k 10) (cond (Nat.blt k 9) (cond (Nat.beq k 6) (some (.getfield 17)) (none)) (cond (Nat.beq k 9) (some (.iload_n 1)) (none))) (cond (Nat.blt k 11) (cond (Nat.beq k 10) (some (.laload)) (none)) (cond (Nat.beq k 11) (some (.lastore)) (none))))) (cond (Nat.blt k 18) (cond (Nat.blt k 16) (cond (Nat.blt k 13) (cond (Nat.beq k 12) (some (.aload_n 0)) (none)) (cond (Nat.beq k 13) (some (.getfield 21)) (none))) (cond (Nat.blt k 17) (cond (Nat.beq k 16) (some (.iload_n 2)) (none)) (cond (Nat.beq k 17) (some (.aload_n 0)) (none)))) (cond (Nat.blt k 22) (cond (Nat.blt k 21) (cond (Nat.beq k 18) (some (.getfield 21)) (none)) (cond (Nat.beq k 21) (some (.iload_n 1)) (none))) (cond (Nat.blt k 23) (cond (Nat.beq k 22) (some (.daload)) (none)) (cond (Nat.blt k 24) (cond (Nat.beq k 23) (some (.dastore)) (none)) (cond (Nat.beq k 24) (some (.return_)) (none))))))
def fmM_copy : fm_Me := (⟨"FlatModule$Machine", "copy", "(II)V"⟩, prog_7_method_13_code, 3, none, 5, fm_f5, fm_cut 25 fmM_copy_i)
theorem fmM_copy_dc : fm_dc prog_7_method_13_code (fm_cut 25 fmM_copy_i) := fm_dc_of (by decide +kernel)
theorem fmM_copy_o : fm_mok fmM_copy := ⟨⟨fm_f5_o, fmM_copy_dc⟩, fm_tb (List.mem_of_getElem? (i := 504) (by decide +kernel)) rfl, fm_tb (List.mem_of_getElem? (i := 4) (by decide +kernel)) rfl, rfl, by decide +kernel, by decide⟩
def fmM_compute_i (k : Nat) : Option Instr := cond (Nat.blt k 61) (cond (Nat.blt k 29) (cond (Nat.blt k 12) (cond (Nat.blt k 7) (cond (Nat.blt k 3) (cond (Nat.blt k 1) (cond (Nat.beq k 0) (some (.iload_n 1)) (none)) (cond (Nat.beq k 1) (some (.bipush 20)) (none))) (cond (Nat.blt k 6) (cond (Nat.beq k 3) (some (.if_icmp .ne 17)) (none)) (cond (Nat.beq k 6) (some (.aload_n 0)) (none)))) (cond (Nat.blt k 9) (cond (Nat.blt k 8) (cond (Nat.beq k 7) (some (.iload_n 2)) (none)) (cond (Nat.beq k 8) (some (.iconst 4)) (none))) (cond (Nat.blt k 10) (cond (Nat.beq k 9) (some (.idiv)) (none)) (cond (Nat.blt k 11) (cond (Nat.beq k 10) (some (.iload_n 2)) (none)) (cond (Nat.beq k 11) (some (.iconst 4)) (none)))))) (cond (Nat.blt k 20) (cond (Nat.blt k 14) (cond (Nat.blt k 13) (cond (Nat.beq k 12) (some (.irem)) (none)) (cond (Nat.beq k 13) (some (.iload_n 3)) (none))) (cond (Nat.blt k 17) (cond (Nat.beq k 14) (some (.invokevirtual 126)) (none)) (cond (Nat.beq k 17) (some (.goto 97)) (none)))) (cond (Nat.blt k 23) (cond (Nat.blt k 21) (cond (Nat.beq k 20) (some (.iload_n 1)) (none)) (cond (Nat.beq k 21) (some (.bipush 18)) (none))) (cond (Nat.blt k 26) (cond (Nat.beq k 23) (some (.if_icmp .eq 9)) (none)) (cond (Nat.blt k 27) (cond (Nat.beq k 26) (some (.iload_n 1)) (none)) (cond (Nat.beq k 27) (some (.bipush 19)) (none))))))) (cond (Nat.blt k 44) (cond (Nat.blt k 37) (cond (Nat.blt k 33) (cond (Nat.blt k 32) (cond (Nat.beq k 29) (some (.if_icmp .ne 27)) (none)) (cond (Nat.beq k 32) (some (.aload_n 0)) (none))) (cond (Nat.blt k 36) (cond (Nat.beq k 33) (some (.getfield 17)) (none)) (cond (Nat.beq k 36) (some (.iload_n 3)) (none)))) (cond (Nat.blt k 39) (cond (Nat.blt k 38) (cond (Nat.beq k 37) (some (.aload_n 0)) (none)) (cond (Nat.beq k 38) (some (.iload_n 1)) (none))) (cond (Nat.blt k 40) (cond (Nat.beq k 39) (some (.iload_n 2)) (none)) (cond (Nat.blt k 41) (cond (Nat.beq k 40) (some (.iload_n 3)) (none)) (cond (Nat.beq k 41) (some (.invokevirtual 129)) (none)))))) (cond (Nat.blt k 52) (cond (Nat.blt k 48) (cond (Nat.blt k 47) (cond (Nat.beq k 44) (some (.ifCond .eq 7)) (none)) (cond (Nat.beq k 47) (some (.lconst 1)) (none))) (cond (Nat.blt k 51) (cond (Nat.beq k 48) (some (.goto 4)) (none)) (cond (Nat.beq k 51) (some (.lconst 0)) (none)))) (cond (Nat.blt k 56) (cond (Nat.blt k 53) (cond (Nat.beq k 52) (some (.lastore)) (none)) (cond (Nat.beq k 53) (some (.goto 61)) (none))) (cond (Nat.blt k 57) (cond (Nat.beq k 56) (some (.iload_n 2)) (none)) (cond (Nat.blt k 58) (cond (Nat.beq k 57) (some (.iconst 1)) (none)) (cond (Nat.beq k 58) (some (.if_icmp .gt 31)) (none)))))))) (cond (Nat.blt k 89) (cond (Nat.blt k 74) (cond (Nat.blt k 67) (cond (Nat.blt k 65) (cond (Nat.blt k 62) (cond (Nat.beq k 61) (some (.aload_n 0)) (none)) (cond (Nat.beq k 62) (some (.getfield 17)) (none))) (cond (Nat.blt k 66) (cond (Nat.beq k 65) (some (.iload_n 3)) (none)) (cond (Nat.beq k 66) (some (.iload_n 1)) (none)))) (cond (Nat.blt k 69) (cond (Nat.blt k 68) (cond (Nat.beq k 67) (some (.iload_n 2)) (none)) (cond (Nat.beq k 68) (some (.aload_n 0)) (none))) (cond (Nat.blt k 72) (cond (Nat.beq k 69) (some (.getfield 17)) (none)) (cond (Nat.blt k 73) (cond (Nat.beq k 72) (some (.iload_n 3)) (none)) (cond (Nat.beq k 73) (some (.laload)) (none)))))) (cond (Nat.blt k 80) (cond (Nat.blt k 78) (cond (Nat.blt k 75) (cond (Nat.beq k 74) (some (.aload_n 0)) (none)) (cond (Nat.beq k 75) (some (.getfield 17)) (none))) (cond (Nat.blt k 79) (cond (Nat.beq k 78) (some (.iload_n 3)) (none)) (cond (Nat.beq k 79) (some (.iconst 1)) (none)))) (cond (Nat.blt k 82) (cond (Nat.blt k 81) (cond (Nat.beq k 80) (some (.iadd)) (none)) (cond (Nat.beq k 81) (some (.laload)) (none))) (cond (Nat.blt k 85) (cond (Nat.beq k 82) (some (.invokestatic 133)) (none)) (cond (Nat.blt k 86) (cond (Nat.beq k 85) (some (.lastore)) (none)) (cond (Nat.beq k 86) (some (.goto 28)) (none))))))) (cond (Nat.blt k 102) (cond (Nat.blt k 95) (cond (Nat.blt k 93) (cond (Nat.blt k 90) (cond (Nat.beq k 89) (some (.aload_n 0)) (none)) (cond (Nat.beq k 90) (some (.getfield 21)) (none))) (cond (Nat.blt k 94) (cond (Nat.beq k 93) (some (.iload_n 3)) (none)) (cond (Nat.beq k 94) (some (.iload_n 1)) (none)))) (cond (Nat.blt k 97) (cond (Nat.blt k 96) (cond (Nat.beq k 95) (some (.iload_n 2)) (none)) (cond (Nat.beq k 96) (some (.aload_n 0)) (none))) (cond (Nat.blt k 100) (cond (Nat.beq k 97) (some (.getfield 21)) (none)) (cond (Nat.blt k 101) (cond (Nat.beq k 100) (some (.iload_n 3)) (none)) (cond (Nat.beq k 101) (some (.daload)) (none)))))) (cond (Nat.blt k 108) (cond (Nat.blt k 106) (cond (Nat.blt k 103) (cond (Nat.beq k 102) (some (.aload_n 0)) (none)) (cond (Nat.beq k 103) (some (.getfield 21)) (none))) (cond (Nat.blt k 107) (cond (Nat.beq k 106) (some (.iload_n 3)) (none)) (cond (Nat.beq k 107) (some (.iconst 1)) (none)))) (cond (Nat.blt k 110) (cond (Nat.blt k 109) (cond (Nat.beq k 108) (some (.iadd)) (none)) (cond (Nat.beq k 109) (some (.daload)) (none))) (cond (Nat.blt k 113) (cond (Nat.beq k 110) (some (.invokestatic 137)) (none)) (cond (Nat.blt k 114) (cond (Nat.beq k 113) (some (.dastore)) (none)) (cond (Nat.beq k 114) (some (.return_)) (none))))))))
def fmM_compute : fm_Me := (⟨"FlatModule$Machine", "compute", "(III)V"⟩, prog_7_method_14_code, 4, none, 5, fm_f5, fm_cut 115 fmM_compute_i)
theorem fmM_compute_dc : fm_dc prog_7_method_14_code (fm_cut 115 fmM_compute_i) := fm_dc_of (by decide +kernel)
theorem fmM_compute_o : fm_mok fmM_compute := ⟨⟨fm_f5_o, fmM_compute_dc⟩, fm_tb (List.mem_of_getElem? (i := 518) (by decide +kernel)) rfl, fm_tb (List.mem_of_getElem? (i := 4) (by decide +kernel)) rfl, rfl, by decide +kernel, by decide⟩
def fmM_convert_i (k : Nat) : Option Instr := cond (Nat.blt k 61) (cond (Nat.blt k 31) (cond (Nat.blt k 15) (cond (Nat.blt k 6) (cond (Nat.blt k 2) (cond (Nat.blt k 1) (cond (Nat.beq k 0) (some (.iload_n 2)) (none)) (cond (Nat.beq k 1) (some (.iconst 1)) (none))) (cond (Nat.blt k 5) (cond (Nat.beq k 2) (some (.if_icmp .gt 58)) (none)) (cond (Nat.beq k 5) (some (.iload_n 1)) (none)))) (cond (Nat.blt k 10) (cond (Nat.blt k 7) (cond (Nat.beq k 6) (some (.iconst 1)) (none)) (cond (Nat.beq k 7) (some (.if_icmp .le 34)) (none))) (cond (Nat.blt k 11) (cond (Nat.beq k 10) (some (.aload_n 0)) (none)) (cond (Nat.blt k 14) (cond (Nat.beq k 11) (some (.getfield 17)) (none)) (cond (Nat.beq k 14) (some (.iload_n 3)) (none)))))) (cond (Nat.blt k 24) (cond (Nat.blt k 19) (cond (Nat.blt k 16) (cond (Nat.beq k 15) (some (.iload_n 2)) (none)) (cond (Nat.beq k 16) (some (.ifCond .ne 14)) (none))) (cond (Nat.blt k 20) (cond (Nat.beq k 19) (some (.aload_n 0)) (none)) (cond (Nat.blt k 23) (cond (Nat.beq k 20) (some (.getfield 21)) (none)) (cond (Nat.beq k 23) (some (.iload_n 3)) (none))))) (cond (Nat.blt k 26) (cond (Nat.blt k 25) (cond (Nat.beq k 24) (some (.daload)) (none)) (cond (Nat.beq k 25) (some (.d2i)) (none))) (cond (Nat.blt k 27) (cond (Nat.beq k 26) (some (.i2l)) (none)) (cond (Nat.blt k 30) (cond (Nat.beq k 27) (some (.goto 10)) (none)) (cond (Nat.beq k 30) (some (.aload_n 0)) (none))))))) (cond (Nat.blt k 49) (cond (Nat.blt k 38) (cond (Nat.blt k 35) (cond (Nat.blt k 34) (cond (Nat.beq k 31) (some (.getfield 21)) (none)) (cond (Nat.beq k 34) (some (.iload_n 3)) (none))) (cond (Nat.blt k 36) (cond (Nat.beq k 35) (some (.daload)) (none)) (cond (Nat.blt k 37) (cond (Nat.beq k 36) (some (.d2l)) (none)) (cond (Nat.beq k 37) (some (.lastore)) (none))))) (cond (Nat.blt k 42) (cond (Nat.blt k 41) (cond (Nat.beq k 38) (some (.goto 21)) (none)) (cond (Nat.beq k 41) (some (.iload_n 2)) (none))) (cond (Nat.blt k 45) (cond (Nat.beq k 42) (some (.ifCond .ne 17)) (none)) (cond (Nat.blt k 46) (cond (Nat.beq k 45) (some (.aload_n 0)) (none)) (cond (Nat.beq k 46) (some (.getfield 17)) (none)))))) (cond (Nat.blt k 56) (cond (Nat.blt k 51) (cond (Nat.blt k 50) (cond (Nat.beq k 49) (some (.iload_n 3)) (none)) (cond (Nat.beq k 50) (some (.aload_n 0)) (none))) (cond (Nat.blt k 54) (cond (Nat.beq k 51) (some (.getfield 17)) (none)) (cond (Nat.blt k 55) (cond (Nat.beq k 54) (some (.iload_n 3)) (none)) (cond (Nat.beq k 55) (some (.laload)) (none))))) (cond (Nat.blt k 58) (cond (Nat.blt k 57) (cond (Nat.beq k 56) (some (.l2i)) (none)) (cond (Nat.beq k 57) (some (.i2l)) (none))) (cond (Nat.blt k 59) (cond (Nat.beq k 58) (some (.lastore)) (none)) (cond (Nat.blt k 60) (cond (Nat.beq k 59) (some (.return_)) (none)) (cond (Nat.beq k 60) (some (.iload_n 1)) (none)))))))) (cond (Nat.blt k 93) (cond (Nat.blt k 79) (cond (Nat.blt k 70) (cond (Nat.blt k 65) (cond (Nat.blt k 62) (cond (Nat.beq k 61) (some (.iconst 1)) (none)) (cond (Nat.beq k 62) (some (.if_icmp .gt 35)) (none))) (cond (Nat.blt k 66) (cond (Nat.beq k 65) (some (.aload_n 0)) (none)) (cond (Nat.blt k 69) (cond (Nat.beq k 66) (some (.getfield 21)) (none)) (cond (Nat.beq k 69) (some (.iload_n 3)) (none))))) (cond (Nat.blt k 72) (cond (Nat.blt k 71) (cond (Nat.beq k 70) (some (.iload_n 2)) (none)) (cond (Nat.beq k 71) (some (.iconst 2)) (none))) (cond (Nat.blt k 75) (cond (Nat.beq k 72) (some (.if_icmp .ne 14)) (none)) (cond (Nat.blt k 76) (cond (Nat.beq k 75) (some (.aload_n 0)) (none)) (cond (Nat.beq k 76) (some (.getfield 17)) (none)))))) (cond (Nat.blt k 86) (cond (Nat.blt k 81) (cond (Nat.blt k 80) (cond (Nat.beq k 79) (some (.iload_n 3)) (none)) (cond (Nat.beq k 80) (some (.laload)) (none))) (cond (Nat.blt k 82) (cond (Nat.beq k 81) (some (.l2f)) (none)) (cond (Nat.blt k 83) (cond (Nat.beq k 82) (some (.f2d)) (none)) (cond (Nat.beq k 83) (some (.goto 10)) (none))))) (cond (Nat.blt k 90) (cond (Nat.blt k 87) (cond (Nat.beq k 86) (some (.aload_n 0)) (none)) (cond (Nat.beq k 87) (some (.getfield 17)) (none))) (cond (Nat.blt k 91) (cond (Nat.beq k 90) (some (.iload_n 3)) (none)) (cond (Nat.blt k 92) (cond (Nat.beq k 91) (some (.laload)) (none)) (cond (Nat.beq k 92) (some (.l2d)) (none))))))) (cond (Nat.blt k 111) (cond (Nat.blt k 102) (cond (Nat.blt k 97) (cond (Nat.blt k 94) (cond (Nat.beq k 93) (some (.dastore)) (none)) (cond (Nat.beq k 94) (some (.goto 23)) (none))) (cond (Nat.blt k 98) (cond (Nat.beq k 97) (some (.iload_n 2)) (none)) (cond (Nat.blt k 99) (cond (Nat.beq k 98) (some (.iconst 2)) (none)) (cond (Nat.beq k 99) (some (.if_icmp .ne 18)) (none))))) (cond (Nat.blt k 106) (cond (Nat.blt k 103) (cond (Nat.beq k 102) (some (.aload_n 0)) (none)) (cond (Nat.beq k 103) (some (.getfield 21)) (none))) (cond (Nat.blt k 107) (cond (Nat.beq k 106) (some (.iload_n 3)) (none)) (cond (Nat.blt k 108) (cond (Nat.beq k 107) (some (.aload_n 0)) (none)) (cond (Nat.beq k 108) (some (.getfield 21)) (none)))))) (cond (Nat.blt k 118) (cond (Nat.blt k 113) (cond (Nat.blt k 112) (cond (Nat.beq k 111) (some (.iload_n 3)) (none)) (cond (Nat.beq k 112) (some (.daload)) (none))) (cond (Nat.blt k 116) (cond (Nat.beq k 113) (some (.invokestatic 52)) (none)) (cond (Nat.blt k 117) (cond (Nat.beq k 116) (some (.dastore)) (none)) (cond (Nat.beq k 117) (some (.aload_n 0)) (none))))) (cond (Nat.blt k 122) (cond (Nat.blt k 121) (cond (Nat.beq k 118) (some (.getfield 21)) (none)) (cond (Nat.beq k 121) (some (.iload_n 3)) (none))) (cond (Nat.blt k 123) (cond (Nat.beq k 122) (some (.daload)) (none)) (cond (Nat.blt k 126) (cond (Nat.beq k 123) (some (.invokestatic 141)) (none)) (cond (Nat.beq k 126) (some (.return_)) (none))))))))
def fmM_convert : fm_Me := (⟨"FlatModule$Machine", "convert", "(III)V"⟩, prog_7_method_15_code, 4, none, 5, fm_f5, fm_cut 127 fmM_convert_i)
theorem fmM_convert_dc : fm_dc prog_7_method_15_code (fm_cut 127 fmM_convert_i) := fm_dc_of (by decide +kernel)
theorem fmM_convert_o : fm_mok fmM_convert := ⟨⟨fm_f5_o, fmM_convert_dc⟩, fm_tb (List.mem_of_getElem? (i := 522) (by decide +kernel)) rfl, fm_tb (List.mem_of_getElem? (i := 4) (by decide +kernel)) rfl, rfl, by decide +kernel, by decide⟩
def fmM_holds_i (k : Nat) : Option Instr := cond (Nat.blt k 59) (cond (Nat.blt k 29) (cond (Nat.blt k 16) (cond (Nat.blt k 6) (cond (Nat.blt k 2) (cond (Nat.blt k 1) (cond (Nat.beq k 0) (some (.iload_n 2)) (none)) (cond (Nat.beq k 1) (some (.iconst 1)) (none))) (cond (Nat.blt k 5) (cond (Nat.beq k 2) (some (.if_icmp .gt 59)) (none)) (cond (Nat.beq k 5) (some (.iload_n 1)) (none)))) (cond (Nat.blt k 11) (cond (Nat.blt k 8) (cond (Nat.beq k 6) (some (.bipush 18)) (none)) (cond (Nat.beq k 8) (some (.if_icmp .ne 29)) (none))) (cond (Nat.blt k 12) (cond (Nat.beq k 11) (some (.aload_n 0)) (none)) (cond (Nat.blt k 15) (cond (Nat.beq k 12) (some (.getfield 17)) (none)) (cond (Nat.beq k 15) (some (.iload_n 3)) (none)))))) (cond (Nat.blt k 22) (cond (Nat.blt k 18) (cond (Nat.blt k 17) (cond (Nat.beq k 16) (some (.laload)) (none)) (cond (Nat.beq k 17) (some (.aload_n 0)) (none))) (cond (Nat.blt k 21) (cond (Nat.beq k 18) (some (.getfield 17)) (none)) (cond (Nat.beq k 21) (some (.iload_n 3)) (none)))) (cond (Nat.blt k 24) (cond (Nat.blt k 23) (cond (Nat.beq k 22) (some (.iconst 1)) (none)) (cond (Nat.beq k 23) (some (.iadd)) (none))) (cond (Nat.blt k 25) (cond (Nat.beq k 24) (some (.laload)) (none)) (cond (Nat.blt k 26) (cond (Nat.beq k 25) (some (.lcmp)) (none)) (cond (Nat.beq k 26) (some (.ifCond .ge 7)) (none))))))) (cond (Nat.blt k 44) (cond (Nat.blt k 37) (cond (Nat.blt k 33) (cond (Nat.blt k 30) (cond (Nat.beq k 29) (some (.iconst 1)) (none)) (cond (Nat.beq k 30) (some (.goto 30)) (none))) (cond (Nat.blt k 34) (cond (Nat.beq k 33) (some (.iconst 0)) (none)) (cond (Nat.beq k 34) (some (.goto 26)) (none)))) (cond (Nat.blt k 41) (cond (Nat.blt k 38) (cond (Nat.beq k 37) (some (.aload_n 0)) (none)) (cond (Nat.beq k 38) (some (.getfield 17)) (none))) (cond (Nat.blt k 42) (cond (Nat.beq k 41) (some (.iload_n 3)) (none)) (cond (Nat.blt k 43) (cond (Nat.beq k 42) (some (.laload)) (none)) (cond (Nat.beq k 43) (some (.aload_n 0)) (none)))))) (cond (Nat.blt k 50) (cond (Nat.blt k 48) (cond (Nat.blt k 47) (cond (Nat.beq k 44) (some (.getfield 17)) (none)) (cond (Nat.beq k 47) (some (.iload_n 3)) (none))) (cond (Nat.blt k 49) (cond (Nat.beq k 48) (some (.iconst 1)) (none)) (cond (Nat.beq k 49) (some (.iadd)) (none)))) (cond (Nat.blt k 52) (cond (Nat.blt k 51) (cond (Nat.beq k 50) (some (.laload)) (none)) (cond (Nat.beq k 51) (some (.lcmp)) (none))) (cond (Nat.blt k 55) (cond (Nat.beq k 52) (some (.ifCond .ne 7)) (none)) (cond (Nat.blt k 56) (cond (Nat.beq k 55) (some (.iconst 1)) (none)) (cond (Nat.beq k 56) (some (.goto 4)) (none)))))))) (cond (Nat.blt k 86) (cond (Nat.blt k 73) (cond (Nat.blt k 64) (cond (Nat.blt k 61) (cond (Nat.blt k 60) (cond (Nat.beq k 59) (some (.iconst 0)) (none)) (cond (Nat.beq k 60) (some (.ireturn)) (none))) (cond (Nat.blt k 62) (cond (Nat.beq k 61) (some (.iload_n 1)) (none)) (cond (Nat.beq k 62) (some (.bipush 18)) (none)))) (cond (Nat.blt k 68) (cond (Nat.blt k 67) (cond (Nat.beq k 64) (some (.if_icmp .ne 29)) (none)) (cond (Nat.beq k 67) (some (.aload_n 0)) (none))) (cond (Nat.blt k 71) (cond (Nat.beq k 68) (some (.getfield 21)) (none)) (cond (Nat.blt k 72) (cond (Nat.beq k 71) (some (.iload_n 3)) (none)) (cond (Nat.beq k 72) (some (.daload)) (none)))))) (cond (Nat.blt k 79) (cond (Nat.blt k 77) (cond (Nat.blt k 74) (cond (Nat.beq k 73) (some (.aload_n 0)) (none)) (cond (Nat.beq k 74) (some (.getfield 21)) (none))) (cond (Nat.blt k 78) (cond (Nat.beq k 77) (some (.iload_n 3)) (none)) (cond (Nat.beq k 78) (some (.iconst 1)) (none)))) (cond (Nat.blt k 81) (cond (Nat.blt k 80) (cond (Nat.beq k 79) (some (.iadd)) (none)) (cond (Nat.beq k 80) (some (.daload)) (none))) (cond (Nat.blt k 82) (cond (Nat.beq k 81) (some (.dcmp .g)) (none)) (cond (Nat.blt k 85) (cond (Nat.beq k 82) (some (.ifCond .ge 7)) (none)) (cond (Nat.beq k 85) (some (.iconst 1)) (none))))))) (cond (Nat.blt k 103) (cond (Nat.blt k 94) (cond (Nat.blt k 90) (cond (Nat.blt k 89) (cond (Nat.beq k 86) (some (.goto 30)) (none)) (cond (Nat.beq k 89) (some (.iconst 0)) (none))) (cond (Nat.blt k 93) (cond (Nat.beq k 90) (some (.goto 26)) (none)) (cond (Nat.beq k 93) (some (.aload_n 0)) (none)))) (cond (Nat.blt k 98) (cond (Nat.blt k 97) (cond (Nat.beq k 94) (some (.getfield 21)) (none)) (cond (Nat.beq k 97) (some (.iload_n 3)) (none))) (cond (Nat.blt k 99) (cond (Nat.beq k 98) (some (.daload)) (none)) (cond (Nat.blt k 100) (cond (Nat.beq k 99) (some (.aload_n 0)) (none)) (cond (Nat.beq k 100) (some (.getfield 21)) (none)))))) (cond (Nat.blt k 108) (cond (Nat.blt k 105) (cond (Nat.blt k 104) (cond (Nat.beq k 103) (some (.iload_n 3)) (none)) (cond (Nat.beq k 104) (some (.iconst 1)) (none))) (cond (Nat.blt k 106) (cond (Nat.beq k 105) (some (.iadd)) (none)) (cond (Nat.blt k 107) (cond (Nat.beq k 106) (some (.daload)) (none)) (cond (Nat.beq k 107) (some (.dcmp .l)) (none))))) (cond (Nat.blt k 112) (cond (Nat.blt k 111) (cond (Nat.beq k 108) (some (.ifCond .ne 7)) (none)) (cond (Nat.beq k 111) (some (.iconst 1)) (none))) (cond (Nat.blt k 115) (cond (Nat.beq k 112) (some (.goto 4)) (none)) (cond (Nat.blt k 116) (cond (Nat.beq k 115) (some (.iconst 0)) (none)) (cond (Nat.beq k 116) (some (.ireturn)) (none))))))))
def fmM_holds : fm_Me := (⟨"FlatModule$Machine", "holds", "(III)Z"⟩, prog_7_method_16_code, 4, some .boolean, 5, fm_f5, fm_cut 117 fmM_holds_i)
theorem fmM_holds_dc : fm_dc prog_7_method_16_code (fm_cut 117 fmM_holds_i) := fm_dc_of (by decide +kernel)
theorem fmM_holds_o : fm_mok fmM_holds := ⟨⟨fm_f5_o, fmM_holds_dc⟩, fm_tb (List.mem_of_getElem? (i := 546) (by decide +kernel)) rfl, fm_tb (List.mem_of_getElem? (i := 4) (by decide +kernel)) rfl, rfl, by decide +kernel, by decide⟩
def fmM_goOnElsewhere_i (k : Nat) : Option Instr := cond (Nat.blt k 94) (cond (Nat.blt k 67) (cond (Nat.blt k 53) (cond (Nat.blt k 6) (cond (Nat.blt k 4) (cond (Nat.blt k 1) (cond (Nat.beq k 0) (some (.aload_n 1)) (none)) (cond (Nat.beq k 1) (some (.getfield 106)) (none))) (cond (Nat.blt k 5) (cond (Nat.beq k 4) (some (.iload_n 2)) (none)) (cond (Nat.beq k 5) (some (.iaload)) (none)))) (cond (Nat.blt k 49) (cond (Nat.blt k 48) (cond (Nat.beq k 6) (some (.tableswitch 134 23 29 #[42, 134, 134, 73, 83, 134, 120])) (none)) (cond (Nat.beq k 48) (some (.aload_n 0)) (none))) (cond (Nat.blt k 52) (cond (Nat.beq k 49) (some (.getfield 17)) (none)) (cond (Nat.beq k 52) (some (.iload_n 3)) (none))))) (cond (Nat.blt k 59) (cond (Nat.blt k 55) (cond (Nat.blt k 54) (cond (Nat.beq k 53) (some (.laload)) (none)) (cond (Nat.beq k 54) (some (.lconst 0)) (none))) (cond (Nat.blt k 56) (cond (Nat.beq k 55) (some (.lcmp)) (none)) (cond (Nat.beq k 56) (some (.ifCond .ne 92)) (none)))) (cond (Nat.blt k 63) (cond (Nat.blt k 60) (cond (Nat.beq k 59) (some (.aload_n 0)) (none)) (cond (Nat.beq k 60) (some (.getfield 29)) (none))) (cond (Nat.blt k 64) (cond (Nat.beq k 63) (some (.aload_n 0)) (none)) (cond (Nat.beq k 64) (some (.getfield 39)) (none)))))) (cond (Nat.blt k 79) (cond (Nat.blt k 73) (cond (Nat.blt k 69) (cond (Nat.blt k 68) (cond (Nat.beq k 67) (some (.iconst 1)) (none)) (cond (Nat.beq k 68) (some (.isub)) (none))) (cond (Nat.blt k 70) (cond (Nat.beq k 69) (some (.aload_n 1)) (none)) (cond (Nat.beq k 70) (some (.getfield 145)) (none)))) (cond (Nat.blt k 75) (cond (Nat.blt k 74) (cond (Nat.beq k 73) (some (.iload_n 2)) (none)) (cond (Nat.beq k 74) (some (.iaload)) (none))) (cond (Nat.blt k 76) (cond (Nat.beq k 75) (some (.iastore)) (none)) (cond (Nat.beq k 76) (some (.goto 72)) (none))))) (cond (Nat.blt k 83) (cond (Nat.blt k 81) (cond (Nat.blt k 80) (cond (Nat.beq k 79) (some (.aload_n 0)) (none)) (cond (Nat.beq k 80) (some (.aload_n 1)) (none))) (cond (Nat.blt k 82) (cond (Nat.beq k 81) (some (.iload_n 2)) (none)) (cond (Nat.beq k 82) (some (.iload_n 3)) (none)))) (cond (Nat.blt k 89) (cond (Nat.blt k 86) (cond (Nat.beq k 83) (some (.invokevirtual 148)) (none)) (cond (Nat.beq k 86) (some (.goto 62)) (none))) (cond (Nat.blt k 90) (cond (Nat.beq k 89) (some (.aload_n 0)) (none)) (cond (Nat.blt k 93) (cond (Nat.beq k 90) (some (.getfield 17)) (none)) (cond (Nat.beq k 93) (some (.aload_n 1)) (none)))))))) (cond (Nat.blt k 118) (cond (Nat.blt k 108) (cond (Nat.blt k 100) (cond (Nat.blt k 98) (cond (Nat.blt k 97) (cond (Nat.beq k 94) (some (.getfield 151)) (none)) (cond (Nat.beq k 97) (some (.iload_n 2)) (none))) (cond (Nat.blt k 99) (cond (Nat.beq k 98) (some (.iaload)) (none)) (cond (Nat.beq k 99) (some (.iconst (-1))) (none)))) (cond (Nat.blt k 104) (cond (Nat.blt k 103) (cond (Nat.beq k 100) (some (.if_icmp .ne 7)) (none)) (cond (Nat.beq k 103) (some (.iload_n 3)) (none))) (cond (Nat.blt k 107) (cond (Nat.beq k 104) (some (.goto 6)) (none)) (cond (Nat.beq k 107) (some (.iload_n 3)) (none))))) (cond (Nat.blt k 112) (cond (Nat.blt k 110) (cond (Nat.blt k 109) (cond (Nat.beq k 108) (some (.iconst 1)) (none)) (cond (Nat.beq k 109) (some (.iadd)) (none))) (cond (Nat.blt k 111) (cond (Nat.beq k 110) (some (.laload)) (none)) (cond (Nat.beq k 111) (some (.lconst 0)) (none)))) (cond (Nat.blt k 116) (cond (Nat.blt k 113) (cond (Nat.beq k 112) (some (.lcmp)) (none)) (cond (Nat.beq k 113) (some (.ifCond .eq 35)) (none))) (cond (Nat.blt k 117) (cond (Nat.beq k 116) (some (.aload_n 0)) (none)) (cond (Nat.beq k 117) (some (.aload_n 1)) (none)))))) (cond (Nat.blt k 132) (cond (Nat.blt k 126) (cond (Nat.blt k 120) (cond (Nat.blt k 119) (cond (Nat.beq k 118) (some (.iload_n 2)) (none)) (cond (Nat.beq k 119) (some (.iload_n 3)) (none))) (cond (Nat.blt k 123) (cond (Nat.beq k 120) (some (.invokevirtual 148)) (none)) (cond (Nat.beq k 123) (some (.goto 25)) (none)))) (cond (Nat.blt k 128) (cond (Nat.blt k 127) (cond (Nat.beq k 126) (some (.aload_n 0)) (none)) (cond (Nat.beq k 127) (some (.aload_n 1)) (none))) (cond (Nat.blt k 131) (cond (Nat.beq k 128) (some (.getfield 109)) (none)) (cond (Nat.beq k 131) (some (.iload_n 2)) (none))))) (cond (Nat.blt k 140) (cond (Nat.blt k 134) (cond (Nat.blt k 133) (cond (Nat.beq k 132) (some (.iaload)) (none)) (cond (Nat.beq k 133) (some (.iload_n 3)) (none))) (cond (Nat.blt k 137) (cond (Nat.beq k 134) (some (.invokevirtual 154)) (none)) (cond (Nat.beq k 137) (some (.goto 11)) (none)))) (cond (Nat.blt k 144) (cond (Nat.blt k 143) (cond (Nat.beq k 140) (some (.new 157)) (none)) (cond (Nat.beq k 143) (some (.dup)) (none))) (cond (Nat.blt k 147) (cond (Nat.beq k 144) (some (.invokespecial 159)) (none)) (cond (Nat.blt k 148) (cond (Nat.beq k 147) (some (.athrow)) (none)) (cond (Nat.beq k 148) (some (.return_)) (none))))))))
def fmM_goOnElsewhere : fm_Me := (⟨"FlatModule$Machine", "goOnElsewhere", "(LFlatModule$FlatCode;II)V"⟩, prog_7_method_17_code, 4, none, 5, fm_f5, fm_cut 149 fmM_goOnElsewhere_i)
theorem fmM_goOnElsewhere_dc : fm_dc prog_7_method_17_code (fm_cut 149 fmM_goOnElsewhere_i) := fm_dc_of (by decide +kernel)
theorem fmM_goOnElsewhere_o : fm_mok fmM_goOnElsewhere := ⟨⟨fm_f5_o, fmM_goOnElsewhere_dc⟩, fm_tb (List.mem_of_getElem? (i := 571) (by decide +kernel)) rfl, fm_tb (List.mem_of_getElem? (i := 4) (by decide +kernel)) rfl, rfl, by decide +kernel, by decide⟩
def fmM_jump_i (k : Nat) : Option Instr := cond (Nat.blt k 22) (cond (Nat.blt k 11) (cond (Nat.blt k 5) (cond (Nat.blt k 1) (cond (Nat.beq k 0) (some (.aload_n 1)) (none)) (cond (Nat.blt k 4) (cond (Nat.beq k 1) (some (.getfield 151)) (none)) (cond (Nat.beq k 4) (some (.iload_n 2)) (none)))) (cond (Nat.blt k 7) (cond (Nat.blt k 6) (cond (Nat.beq k 5) (some (.iaload)) (none)) (cond (Nat.beq k 6) (some (.iconst (-1))) (none))) (cond (Nat.blt k 10) (cond (Nat.beq k 7) (some (.if_icmp .eq 19)) (none)) (cond (Nat.beq k 10) (some (.aload_n 0)) (none))))) (cond (Nat.blt k 16) (cond (Nat.blt k 12) (cond (Nat.beq k 11) (some (.iload_n 3)) (none)) (cond (Nat.blt k 13) (cond (Nat.beq k 12) (some (.aload_n 0)) (none)) (cond (Nat.beq k 13) (some (.getfield 77)) (none)))) (cond (Nat.blt k 20) (cond (Nat.blt k 17) (cond (Nat.beq k 16) (some (.aload_n 1)) (none)) (cond (Nat.beq k 17) (some (.getfield 151)) (none))) (cond (Nat.blt k 21) (cond (Nat.beq k 20) (some (.iload_n 2)) (none)) (cond (Nat.beq k 21) (some (.iaload)) (none)))))) (cond (Nat.blt k 35) (cond (Nat.blt k 27) (cond (Nat.blt k 23) (cond (Nat.beq k 22) (some (.iadd)) (none)) (cond (Nat.blt k 26) (cond (Nat.beq k 23) (some (.invokevirtual 102)) (none)) (cond (Nat.beq k 26) (some (.aload_n 0)) (none)))) (cond (Nat.blt k 31) (cond (Nat.blt k 30) (cond (Nat.beq k 27) (some (.getfield 29)) (none)) (cond (Nat.beq k 30) (some (.aload_n 0)) (none))) (cond (Nat.blt k 34) (cond (Nat.beq k 31) (some (.getfield 39)) (none)) (cond (Nat.beq k 34) (some (.iconst 1)) (none))))) (cond (Nat.blt k 40) (cond (Nat.blt k 36) (cond (Nat.beq k 35) (some (.isub)) (none)) (cond (Nat.blt k 37) (cond (Nat.beq k 36) (some (.aload_n 1)) (none)) (cond (Nat.beq k 37) (some (.getfield 145)) (none)))) (cond (Nat.blt k 42) (cond (Nat.blt k 41) (cond (Nat.beq k 40) (some (.iload_n 2)) (none)) (cond (Nat.beq k 41) (some (.iaload)) (none))) (cond (Nat.blt k 43) (cond (Nat.beq k 42) (some (.iastore)) (none)) (cond (Nat.beq k 43) (some (.return_)) (none))))))
def fmM_jump : fm_Me := (⟨"FlatModule$Machine", "jump", "(LFlatModule$FlatCode;II)V"⟩, prog_7_method_18_code, 4, none, 5, fm_f5, fm_cut 44 fmM_jump_i)
theorem fmM_jump_dc : fm_dc prog_7_method_18_code (fm_cut 44 fmM_jump_i) := fm_dc_of (by decide +kernel)
theorem fmM_jump_o : fm_mok fmM_jump := ⟨⟨fm_f5_o, fmM_jump_dc⟩, fm_tb (List.mem_of_getElem? (i := 575) (by decide +kernel)) rfl, fm_tb (List.mem_of_getElem? (i := 4) (by decide +kernel)) rfl, rfl, by decide +kernel, by decide⟩
def fmM_callFunction_i (k : Nat) : Option Instr := cond (Nat.blt k 29) (cond (Nat.blt k 17) (cond (Nat.blt k 9) (cond (Nat.blt k 4) (cond (Nat.blt k 1) (cond (Nat.beq k 0) (some (.aload_n 0)) (none)) (cond (Nat.beq k 1) (some (.getfield 39)) (none))) (cond (Nat.blt k 6) (cond (Nat.beq k 4) (some (.bipush 8)) (none)) (cond (Nat.beq k 6) (some (.if_icmp .ne 11)) (none)))) (cond (Nat.blt k 13) (cond (Nat.blt k 12) (cond (Nat.beq k 9) (some (.new 64)) (none)) (cond (Nat.beq k 12) (some (.dup)) (none))) (cond (Nat.blt k 16) (cond (Nat.beq k 13) (some (.invokespecial 66)) (none)) (cond (Nat.beq k 16) (some (.athrow)) (none))))) (cond (Nat.blt k 23) (cond (Nat.blt k 19) (cond (Nat.blt k 18) (cond (Nat.beq k 17) (some (.aload_n 0)) (none)) (cond (Nat.beq k 18) (some (.iload_n 1)) (none))) (cond (Nat.blt k 22) (cond (Nat.beq k 19) (some (.invokevirtual 42)) (none)) (cond (Nat.beq k 22) (some (.iconst 0)) (none)))) (cond (Nat.blt k 25) (cond (Nat.blt k 24) (cond (Nat.beq k 23) (some (.istore_n 3)) (none)) (cond (Nat.beq k 24) (some (.iload_n 3)) (none))) (cond (Nat.blt k 26) (cond (Nat.beq k 25) (some (.aload_n 0)) (none)) (cond (Nat.beq k 26) (some (.getfield 13)) (none)))))) (cond (Nat.blt k 41) (cond (Nat.blt k 37) (cond (Nat.blt k 31) (cond (Nat.blt k 30) (cond (Nat.beq k 29) (some (.iload_n 1)) (none)) (cond (Nat.beq k 30) (some (.aaload)) (none))) (cond (Nat.blt k 34) (cond (Nat.beq k 31) (some (.getfield 46)) (none)) (cond (Nat.beq k 34) (some (.if_icmp .ge 22)) (none)))) (cond (Nat.blt k 39) (cond (Nat.blt k 38) (cond (Nat.beq k 37) (some (.aload_n 0)) (none)) (cond (Nat.beq k 38) (some (.iload_n 2)) (none))) (cond (Nat.blt k 40) (cond (Nat.beq k 39) (some (.iload_n 3)) (none)) (cond (Nat.beq k 40) (some (.iadd)) (none))))) (cond (Nat.blt k 47) (cond (Nat.blt k 45) (cond (Nat.blt k 42) (cond (Nat.beq k 41) (some (.aload_n 0)) (none)) (cond (Nat.beq k 42) (some (.getfield 77)) (none))) (cond (Nat.blt k 46) (cond (Nat.beq k 45) (some (.iload_n 3)) (none)) (cond (Nat.beq k 46) (some (.iadd)) (none)))) (cond (Nat.blt k 53) (cond (Nat.blt k 50) (cond (Nat.beq k 47) (some (.invokevirtual 102)) (none)) (cond (Nat.beq k 50) (some (.iinc 3 1)) (none))) (cond (Nat.blt k 56) (cond (Nat.beq k 53) (some (.goto (-29))) (none)) (cond (Nat.beq k 56) (some (.return_)) (none))))))
def fmM_callFunction : fm_Me := (⟨"FlatModule$Machine", "callFunction", "(II)V"⟩, prog_7_method_19_code, 4, none, 5, fm_f5, fm_cut 57 fmM_callFunction_i)
theorem fmM_callFunction_dc : fm_dc prog_7_method_19_code (fm_cut 57 fmM_callFunction_i) := fm_dc_of (by decide +kernel)
theorem fmM_callFunction_o : fm_mok fmM_callFunction := ⟨⟨fm_f5_o, fmM_callFunction_dc⟩, fm_tb (List.mem_of_getElem? (i := 579) (by decide +kernel)) rfl, fm_tb (List.mem_of_getElem? (i := 4) (by decide +kernel)) rfl, rfl, by decide +kernel, by decide⟩
end
section
/-! METHODS AS DATA, by program (wip/tools/gen_methods.py) -/

def fmR_open_i (k : Nat) : Option Instr := cond (Nat.blt k 18) (cond (Nat.blt k 7) (cond (Nat.blt k 2) (cond (Nat.blt k 1) (cond (Nat.beq k 0) (some (.aload_n 0)) (none)) (cond (Nat.beq k 1) (some (.iload_n 1)) (none))) (cond (Nat.blt k 5) (cond (Nat.beq k 2) (some (.putfield 9)) (none)) (cond (Nat.blt k 6) (cond (Nat.beq k 5) (some (.aload_n 0)) (none)) (cond (Nat.beq k 6) (some (.iload_n 2)) (none))))) (cond (Nat.blt k 12) (cond (Nat.blt k 10) (cond (Nat.beq k 7) (some (.putfield 15)) (none)) (cond (Nat.blt k 11) (cond (Nat.beq k 10) (some (.aload_n 0)) (none)) (cond (Nat.beq k 11) (some (.iload_n 3)) (none)))) (cond (Nat.blt k 15) (cond (Nat.beq k 12) (some (.putfield 18)) (none)) (cond (Nat.blt k 16) (cond (Nat.beq k 15) (some (.aload_n 0)) (none)) (cond (Nat.beq k 16) (some (.iload 4)) (none)))))) (cond (Nat.blt k 27) (cond (Nat.blt k 22) (cond (Nat.blt k 21) (cond (Nat.beq k 18) (some (.putfield 21)) (none)) (cond (Nat.beq k 21) (some (.aload_n 0)) (none))) (cond (Nat.blt k 23) (cond (Nat.beq k 22) (some (.iconst (-1))) (none)) (cond (Nat.blt k 26) (cond (Nat.beq k 23) (some (.putfield 26)) (none)) (cond (Nat.beq k 26) (some (.aload_n 0)) (none))))) (cond (Nat.blt k 33) (cond (Nat.blt k 29) (cond (Nat.beq k 27) (some (.iload 5)) (none)) (cond (Nat.blt k 32) (cond (Nat.beq k 29) (some (.putfield 29)) (none)) (cond (Nat.beq k 32) (some (.aload_n 0)) (none)))) (cond (Nat.blt k 34) (cond (Nat.beq k 33) (some (.iconst 0)) (none)) (cond (Nat.blt k 37) (cond (Nat.beq k 34) (some (.putfield 33)) (none)) (cond (Nat.beq k 37) (some (.return_)) (none))))))
def fmR_open : fm_Me := (⟨"FlatModule$Frame", "open", "(IIIIZ)V"⟩, prog_5_method_2_code, 6, none, 3, fm_f3, fm_cut 38 fmR_open_i)
theorem fmR_open_dc : fm_dc prog_5_method_2_code (fm_cut 38 fmR_open_i) := fm_dc_of (by decide +kernel)
theorem fmR_open_o : fm_mok fmR_open := ⟨⟨fm_f3_o, fmR_open_dc⟩, fm_tb (List.mem_of_getElem? (i := 247) (by decide +kernel)) rfl, fm_tb (List.mem_of_getElem? (i := 3) (by decide +kernel)) rfl, rfl, by decide +kernel, by decide⟩
def fmR_neededByJump_i (k : Nat) : Option Instr := cond (Nat.blt k 9) (cond (Nat.blt k 4) (cond (Nat.blt k 1) (cond (Nat.beq k 0) (some (.aload_n 0)) (none)) (cond (Nat.beq k 1) (some (.getfield 9)) (none))) (cond (Nat.blt k 6) (cond (Nat.beq k 4) (some (.bipush 22)) (none)) (cond (Nat.beq k 6) (some (.if_icmp .ne 7)) (none)))) (cond (Nat.blt k 13) (cond (Nat.blt k 10) (cond (Nat.beq k 9) (some (.iconst 4)) (none)) (cond (Nat.beq k 10) (some (.goto 7)) (none))) (cond (Nat.blt k 14) (cond (Nat.beq k 13) (some (.aload_n 0)) (none)) (cond (Nat.blt k 17) (cond (Nat.beq k 14) (some (.getfield 15)) (none)) (cond (Nat.beq k 17) (some (.ireturn)) (none)))))
def fmR_neededByJump : fm_Me := (⟨"FlatModule$Frame", "neededByJump", "()I"⟩, prog_5_method_3_code, 1, some .int, 3, fm_f3, fm_cut 18 fmR_neededByJump_i)
theorem fmR_neededByJump_dc : fm_dc prog_5_method_3_code (fm_cut 18 fmR_neededByJump_i) := fm_dc_of (by decide +kernel)
theorem fmR_neededByJump_o : fm_mok fmR_neededByJump := ⟨⟨fm_f3_o, fmR_neededByJump_dc⟩, fm_tb (List.mem_of_getElem? (i := 326) (by decide +kernel)) rfl, fm_tb (List.mem_of_getElem? (i := 3) (by decide +kernel)) rfl, rfl, by decide +kernel, by decide⟩
end
section
/-! METHODS AS DATA, by program (wip/tools/gen_methods.py) -/

def fmU_declare_i (k : Nat) : Option Instr := cond (Nat.blt k 29) (cond (Nat.blt k 13) (cond (Nat.blt k 6) (cond (Nat.blt k 2) (cond (Nat.blt k 1) (cond (Nat.beq k 0) (some (.aload_n 0)) (none)) (cond (Nat.beq k 1) (some (.iconst 1)) (none))) (cond (Nat.blt k 5) (cond (Nat.beq k 2) (some (.putfield 28)) (none)) (cond (Nat.beq k 5) (some (.aload_n 0)) (none)))) (cond (Nat.blt k 10) (cond (Nat.blt k 7) (cond (Nat.beq k 6) (some (.iload_n 1)) (none)) (cond (Nat.beq k 7) (some (.putfield 32)) (none))) (cond (Nat.blt k 11) (cond (Nat.beq k 10) (some (.aload_n 0)) (none)) (cond (Nat.blt k 12) (cond (Nat.beq k 11) (some (.iload_n 1)) (none)) (cond (Nat.beq k 12) (some (.iload_n 2)) (none)))))) (cond (Nat.blt k 20) (cond (Nat.blt k 17) (cond (Nat.blt k 14) (cond (Nat.beq k 13) (some (.iadd)) (none)) (cond (Nat.beq k 14) (some (.putfield 36)) (none))) (cond (Nat.blt k 18) (cond (Nat.beq k 17) (some (.aload_n 0)) (none)) (cond (Nat.beq k 18) (some (.iload 4)) (none)))) (cond (Nat.blt k 24) (cond (Nat.blt k 23) (cond (Nat.beq k 20) (some (.putfield 39)) (none)) (cond (Nat.beq k 23) (some (.aload_n 0)) (none))) (cond (Nat.blt k 25) (cond (Nat.beq k 24) (some (.iconst 0)) (none)) (cond (Nat.blt k 28) (cond (Nat.beq k 25) (some (.putfield 42)) (none)) (cond (Nat.beq k 28) (some (.iconst 0)) (none))))))) (cond (Nat.blt k 47) (cond (Nat.blt k 37) (cond (Nat.blt k 33) (cond (Nat.blt k 31) (cond (Nat.beq k 29) (some (.istore 5)) (none)) (cond (Nat.beq k 31) (some (.iload 5)) (none))) (cond (Nat.blt k 34) (cond (Nat.beq k 33) (some (.aload_n 0)) (none)) (cond (Nat.beq k 34) (some (.getfield 36)) (none)))) (cond (Nat.blt k 41) (cond (Nat.blt k 40) (cond (Nat.beq k 37) (some (.if_icmp .ge 24)) (none)) (cond (Nat.beq k 40) (some (.aload_n 0)) (none))) (cond (Nat.blt k 44) (cond (Nat.beq k 41) (some (.getfield 9)) (none)) (cond (Nat.blt k 46) (cond (Nat.beq k 44) (some (.iload 5)) (none)) (cond (Nat.beq k 46) (some (.iload_n 3)) (none)))))) (cond (Nat.blt k 53) (cond (Nat.blt k 50) (cond (Nat.blt k 48) (cond (Nat.beq k 47) (some (.iconst 2)) (none)) (cond (Nat.beq k 48) (some (.iload 5)) (none))) (cond (Nat.blt k 51) (cond (Nat.beq k 50) (some (.imul)) (none)) (cond (Nat.blt k 52) (cond (Nat.beq k 51) (some (.ishr)) (none)) (cond (Nat.beq k 52) (some (.iconst 3)) (none))))) (cond (Nat.blt k 55) (cond (Nat.blt k 54) (cond (Nat.beq k 53) (some (.iand)) (none)) (cond (Nat.beq k 54) (some (.iastore)) (none))) (cond (Nat.blt k 58) (cond (Nat.beq k 55) (some (.iinc 5 1)) (none)) (cond (Nat.blt k 61) (cond (Nat.beq k 58) (some (.goto (-27))) (none)) (cond (Nat.beq k 61) (some (.return_)) (none)))))))
def fmU_declare : fm_Me := (⟨"FlatModule$Function", "declare", "(IIII)V"⟩, prog_6_method_2_code, 6, none, 4, fm_f4, fm_cut 62 fmU_declare_i)
theorem fmU_declare_dc : fm_dc prog_6_method_2_code (fm_cut 62 fmU_declare_i) := fm_dc_of (by decide +kernel)
theorem fmU_declare_o : fm_mok fmU_declare := ⟨⟨fm_f4_o, fmU_declare_dc⟩, fm_tb (List.mem_of_getElem? (i := 423) (by decide +kernel)) rfl, fm_tb (List.mem_of_getElem? (i := 5) (by decide +kernel)) rfl, rfl, by decide +kernel, by decide⟩
def fmU_append_i (k : Nat) : Option Instr := cond (Nat.blt k 15) (cond (Nat.blt k 8) (cond (Nat.blt k 4) (cond (Nat.blt k 1) (cond (Nat.beq k 0) (some (.aload_n 0)) (none)) (cond (Nat.beq k 1) (some (.getfield 15)) (none))) (cond (Nat.blt k 5) (cond (Nat.beq k 4) (some (.aload_n 0)) (none)) (cond (Nat.beq k 5) (some (.getfield 42)) (none)))) (cond (Nat.blt k 10) (cond (Nat.blt k 9) (cond (Nat.beq k 8) (some (.iload_n 1)) (none)) (cond (Nat.beq k 9) (some (.iastore)) (none))) (cond (Nat.blt k 11) (cond (Nat.beq k 10) (some (.aload_n 0)) (none)) (cond (Nat.blt k 14) (cond (Nat.beq k 11) (some (.getfield 18)) (none)) (cond (Nat.beq k 14) (some (.aload_n 0)) (none)))))) (cond (Nat.blt k 22) (cond (Nat.blt k 19) (cond (Nat.blt k 18) (cond (Nat.beq k 15) (some (.getfield 42)) (none)) (cond (Nat.beq k 18) (some (.iload_n 2)) (none))) (cond (Nat.blt k 20) (cond (Nat.beq k 19) (some (.iastore)) (none)) (cond (Nat.blt k 21) (cond (Nat.beq k 20) (some (.aload_n 0)) (none)) (cond (Nat.beq k 21) (some (.dup)) (none))))) (cond (Nat.blt k 26) (cond (Nat.blt k 25) (cond (Nat.beq k 22) (some (.getfield 42)) (none)) (cond (Nat.beq k 25) (some (.iconst 1)) (none))) (cond (Nat.blt k 27) (cond (Nat.beq k 26) (some (.iadd)) (none)) (cond (Nat.blt k 30) (cond (Nat.beq k 27) (some (.putfield 42)) (none)) (cond (Nat.beq k 30) (some (.return_)) (none))))))
def fmU_append : fm_Me := (⟨"FlatModule$Function", "append", "(II)V"⟩, prog_6_method_3_code, 3, none, 4, fm_f4, fm_cut 31 fmU_append_i)
theorem fmU_append_dc : fm_dc prog_6_method_3_code (fm_cut 31 fmU_append_i) := fm_dc_of (by decide +kernel)
theorem fmU_append_o : fm_mok fmU_append := ⟨⟨fm_f4_o, fmU_append_dc⟩, fm_tb (List.mem_of_getElem? (i := 454) (by decide +kernel)) rfl, fm_tb (List.mem_of_getElem? (i := 5) (by decide +kernel)) rfl, rfl, by decide +kernel, by decide⟩
end
section
/-! the references of the graph: all of them final but Checker.functions (a) and Machine.functions (b) -/
def fm_Pm (s : Nat) : Nat × Nat := ([(25, 0), (26, 0), (27, 0), (28, 0), (29, 0), (30, 0), (31, 0), (32, 0), (33, 0), (34, 0), (35, 0), (36, 0), (37, 0), (38, 0), (39, 0), (0, 0), (0, 0), (0, 0), (0, 0), (0, 0), (40, 0), (41, 0), (42, 0), (43, 0), (44, 0), (45, 0), (46, 0), (47, 0)] : List (Nat × Nat)).getD s (0, 0)
def fm_P (a b : Nat × Nat) : Nat → Nat → Nat → Nat × Nat := fun k i s =>
  cond (Nat.blt k 6) (cond (Nat.beq k 0) (cond (Nat.beq s 0) (1, 0) (cond (Nat.beq s 1) (13, 0) (18, 0))) (cond (Nat.beq k 1) (2, s) (cond (Nat.beq k 2) (cond (Nat.beq s 5) (3, i) (cond (Nat.beq s 6) (4, i) (cond (Nat.beq s 7) (5, i) (6, i)))) (0, 0))))
  (cond (Nat.beq k 6) (cond (Nat.beq s 1) (7, i) (cond (Nat.beq s 2) (8, i) (cond (Nat.beq s 3) (9, i) (cond (Nat.beq s 4) (10, i) (cond (Nat.beq s 5) (11, i) (12, i))))))
  (cond (Nat.beq k 13) (cond (Nat.beq s 0) (cond (Nat.beq i 0) a (0, 0)) (cond (Nat.beq s 3) (15, 0) (16, 0)))
  (cond (Nat.beq k 16) (17, s)
  (cond (Nat.beq k 18) (cond (Nat.beq s 2) (cond (Nat.beq i 0) b (0, 0)) (cond (Nat.beq s 3) (20, 0) (cond (Nat.beq s 4) (21, 0) (cond (Nat.beq s 7) (22, 0) (23, 0)))))
  (cond (Nat.beq k 24) (fm_Pm s) (0, 0))))))
abbrev fm_MI : Type := Nat → Nat → Nat → Int32
abbrev fm_MJ : Type := Nat → Nat → Nat → Int64
abbrev fm_MG : Type := Nat → Nat → Nat → UInt64
theorem fm_gRe {E : fm_Ev} {d : Nat} {u : fm_Me} (O : fm_mo u) {pc : Nat} {lo : List (Nat × fm_V)} {st : List fm_V} {M M0 : fm_M} {P : Prop} {v v0 : Option fm_V} (h : fm_rt? u (pc, lo, st, M) = some (P, v)) (hg : P) (hv : v0 = v) (hM : M0 = M) : fm_Go E d u 0 (pc, lo, st, M) (fm_Zr E v0 M0) := by
  rw [hv, hM]
  exact fm_gR O h hg
def fm_let {α : Type} {β : Sort _} (x : α) (f : α → β) : β := f x
theorem fm_letE {α β : Type} (x : α) (f : α → β) : fm_let x f = f x := rfl
theorem fm_letP {α : Type} {x : α} {f : α → Prop} (h : fm_let x f) : f x := h
end
section
/-! THE WORDS OF CALLS, by program (wip/tools/gen_links.py) -/
theorem fm_tbP {w : Cond} (h : w ∈ k2_sels lw_privs) (hg : goodWord w = true) : w ∈ fm_TB := List.mem_filter.mpr ⟨List.mem_append_left _ h, hg⟩
theorem fk_8_59 : fm_lv 8 59 fmF_check.1 := ⟨fm_tb (List.mem_of_getElem? (i := 232) (by decide +kernel)) rfl, fm_tb (List.mem_of_getElem? (i := 233) (by decide +kernel)) rfl, fm_tb (List.mem_of_getElem? (i := 234) (by decide +kernel)) rfl⟩
theorem fn_F_check : fm_np fmF_check.1 0 := by unfold fm_np; decide +kernel
theorem fk_0_63 : fm_lv 0 63 fmC_firstFault.1 := ⟨fm_tb (List.mem_of_getElem? (i := 236) (by decide +kernel)) rfl, fm_tb (List.mem_of_getElem? (i := 237) (by decide +kernel)) rfl, fm_tb (List.mem_of_getElem? (i := 238) (by decide +kernel)) rfl⟩
theorem fn_C_firstFault : fm_np fmC_firstFault.1 2 := by unfold fm_np; decide +kernel
theorem fk_1_41 : fm_lv 1 41 fmC_subject.1 := ⟨fm_tb (List.mem_of_getElem? (i := 240) (by decide +kernel)) rfl, fm_tb (List.mem_of_getElem? (i := 242) (by decide +kernel)) rfl, fm_tbP (List.mem_of_getElem? (i := 0) (by decide +kernel)) rfl⟩
theorem fn_C_subject : fm_np fmC_subject.1 0 := by unfold fm_np; decide +kernel
theorem fk_1_57 : fm_lv 1 57 fmR_open.1 := ⟨fm_tb (List.mem_of_getElem? (i := 244) (by decide +kernel)) rfl, fm_tb (List.mem_of_getElem? (i := 245) (by decide +kernel)) rfl, fm_tb (List.mem_of_getElem? (i := 246) (by decide +kernel)) rfl⟩
theorem fn_R_open : fm_np fmR_open.1 5 := by unfold fm_np; decide +kernel
theorem fk_1_67 : fm_lv 1 67 fmC_instruction.1 := ⟨fm_tb (List.mem_of_getElem? (i := 248) (by decide +kernel)) rfl, fm_tb (List.mem_of_getElem? (i := 250) (by decide +kernel)) rfl, fm_tbP (List.mem_of_getElem? (i := 1) (by decide +kernel)) rfl⟩
theorem fn_C_instruction : fm_np fmC_instruction.1 2 := by unfold fm_np; decide +kernel
theorem fk_1_74 : fm_lv 1 74 fmC_isAsSaid.1 := ⟨fm_tb (List.mem_of_getElem? (i := 252) (by decide +kernel)) rfl, fm_tb (List.mem_of_getElem? (i := 254) (by decide +kernel)) rfl, fm_tbP (List.mem_of_getElem? (i := 2) (by decide +kernel)) rfl⟩
theorem fn_C_isAsSaid : fm_np fmC_isAsSaid.1 2 := by unfold fm_np; decide +kernel
theorem fk_1_78 : fm_lv 1 78 fmC_moveValues.1 := ⟨fm_tb (List.mem_of_getElem? (i := 259) (by decide +kernel)) rfl, fm_tb (List.mem_of_getElem? (i := 261) (by decide +kernel)) rfl, fm_tbP (List.mem_of_getElem? (i := 3) (by decide +kernel)) rfl⟩
theorem fn_C_moveValues : fm_np fmC_moveValues.1 2 := by unfold fm_np; decide +kernel
theorem fk_1_100 : fm_lv 1 100 fmC_addRow.1 := ⟨fm_tb (List.mem_of_getElem? (i := 263) (by decide +kernel)) rfl, fm_tb (List.mem_of_getElem? (i := 265) (by decide +kernel)) rfl, fm_tbP (List.mem_of_getElem? (i := 4) (by decide +kernel)) rfl⟩
theorem fn_C_addRow : fm_np fmC_addRow.1 2 := by unfold fm_np; decide +kernel
theorem fk_1_125 : fm_lv 1 125 fmC_isLive.1 := ⟨fm_tb (List.mem_of_getElem? (i := 267) (by decide +kernel)) rfl, fm_tb (List.mem_of_getElem? (i := 269) (by decide +kernel)) rfl, fm_tbP (List.mem_of_getElem? (i := 5) (by decide +kernel)) rfl⟩
theorem fn_C_isLive : fm_np fmC_isLive.1 0 := by unfold fm_np; decide +kernel
theorem fk_1_181 : fm_lv 1 181 fmK_add.1 := ⟨fm_tb (List.mem_of_getElem? (i := 271) (by decide +kernel)) rfl, fm_tb (List.mem_of_getElem? (i := 272) (by decide +kernel)) rfl, fm_tb (List.mem_of_getElem? (i := 273) (by decide +kernel)) rfl⟩
theorem fn_K_add : fm_np fmK_add.1 3 := by unfold fm_np; decide +kernel
theorem fk_1_105 : fm_lv 1 105 fmC_put.1 := ⟨fm_tb (List.mem_of_getElem? (i := 275) (by decide +kernel)) rfl, fm_tb (List.mem_of_getElem? (i := 277) (by decide +kernel)) rfl, fm_tbP (List.mem_of_getElem? (i := 6) (by decide +kernel)) rfl⟩
theorem fn_C_put : fm_np fmC_put.1 1 := by unfold fm_np; decide +kernel
theorem fk_1_109 : fm_lv 1 109 fmC_take.1 := ⟨fm_tb (List.mem_of_getElem? (i := 279) (by decide +kernel)) rfl, fm_tb (List.mem_of_getElem? (i := 281) (by decide +kernel)) rfl, fm_tbP (List.mem_of_getElem? (i := 7) (by decide +kernel)) rfl⟩
theorem fn_C_take : fm_np fmC_take.1 1 := by unfold fm_np; decide +kernel
theorem fk_1_81 : fm_lv 1 81 fmC_compute.1 := ⟨fm_tb (List.mem_of_getElem? (i := 283) (by decide +kernel)) rfl, fm_tb (List.mem_of_getElem? (i := 285) (by decide +kernel)) rfl, fm_tbP (List.mem_of_getElem? (i := 8) (by decide +kernel)) rfl⟩
theorem fn_C_compute : fm_np fmC_compute.1 2 := by unfold fm_np; decide +kernel
theorem fk_1_84 : fm_lv 1 84 fmC_nest.1 := ⟨fm_tb (List.mem_of_getElem? (i := 287) (by decide +kernel)) rfl, fm_tb (List.mem_of_getElem? (i := 289) (by decide +kernel)) rfl, fm_tbP (List.mem_of_getElem? (i := 9) (by decide +kernel)) rfl⟩
theorem fn_C_nest : fm_np fmC_nest.1 2 := by unfold fm_np; decide +kernel
theorem fk_1_113 : fm_lv 1 113 fmC_openFrame.1 := ⟨fm_tb (List.mem_of_getElem? (i := 291) (by decide +kernel)) rfl, fm_tb (List.mem_of_getElem? (i := 293) (by decide +kernel)) rfl, fm_tbP (List.mem_of_getElem? (i := 10) (by decide +kernel)) rfl⟩
theorem fn_C_openFrame : fm_np fmC_openFrame.1 2 := by unfold fm_np; decide +kernel
theorem fk_1_119 : fm_lv 1 119 fmC_turnToElse.1 := ⟨fm_tb (List.mem_of_getElem? (i := 295) (by decide +kernel)) rfl, fm_tb (List.mem_of_getElem? (i := 297) (by decide +kernel)) rfl, fm_tbP (List.mem_of_getElem? (i := 11) (by decide +kernel)) rfl⟩
theorem fn_C_turnToElse : fm_np fmC_turnToElse.1 0 := by unfold fm_np; decide +kernel
theorem fk_1_132 : fm_lv 1 132 fmC_takeJustWhatIsGiven.1 := ⟨fm_tb (List.mem_of_getElem? (i := 299) (by decide +kernel)) rfl, fm_tb (List.mem_of_getElem? (i := 301) (by decide +kernel)) rfl, fm_tbP (List.mem_of_getElem? (i := 12) (by decide +kernel)) rfl⟩
theorem fn_C_takeJustWhatIsGiven : fm_np fmC_takeJustWhatIsGiven.1 0 := by unfold fm_np; decide +kernel
theorem fk_1_138 : fm_lv 1 138 fmK_sendHere.1 := ⟨fm_tb (List.mem_of_getElem? (i := 303) (by decide +kernel)) rfl, fm_tb (List.mem_of_getElem? (i := 304) (by decide +kernel)) rfl, fm_tb (List.mem_of_getElem? (i := 305) (by decide +kernel)) rfl⟩
theorem fn_K_sendHere : fm_np fmK_sendHere.1 1 := by unfold fm_np; decide +kernel
theorem fk_1_122 : fm_lv 1 122 fmC_closeFrame.1 := ⟨fm_tb (List.mem_of_getElem? (i := 307) (by decide +kernel)) rfl, fm_tb (List.mem_of_getElem? (i := 309) (by decide +kernel)) rfl, fm_tbP (List.mem_of_getElem? (i := 13) (by decide +kernel)) rfl⟩
theorem fn_C_closeFrame : fm_np fmC_closeFrame.1 0 := by unfold fm_np; decide +kernel
theorem fk_1_147 : fm_lv 1 147 fmK_sendHereAllFor.1 := ⟨fm_tb (List.mem_of_getElem? (i := 311) (by decide +kernel)) rfl, fm_tb (List.mem_of_getElem? (i := 312) (by decide +kernel)) rfl, fm_tb (List.mem_of_getElem? (i := 313) (by decide +kernel)) rfl⟩
theorem fn_K_sendHereAllFor : fm_np fmK_sendHereAllFor.1 1 := by unfold fm_np; decide +kernel
theorem fk_1_87 : fm_lv 1 87 fmC_leave.1 := ⟨fm_tb (List.mem_of_getElem? (i := 315) (by decide +kernel)) rfl, fm_tb (List.mem_of_getElem? (i := 317) (by decide +kernel)) rfl, fm_tbP (List.mem_of_getElem? (i := 14) (by decide +kernel)) rfl⟩
theorem fn_C_leave : fm_np fmC_leave.1 2 := by unfold fm_np; decide +kernel
theorem fk_1_153 : fm_lv 1 153 fmC_jump.1 := ⟨fm_tb (List.mem_of_getElem? (i := 319) (by decide +kernel)) rfl, fm_tb (List.mem_of_getElem? (i := 321) (by decide +kernel)) rfl, fm_tbP (List.mem_of_getElem? (i := 15) (by decide +kernel)) rfl⟩
theorem fn_C_jump : fm_np fmC_jump.1 2 := by unfold fm_np; decide +kernel
theorem fk_1_159 : fm_lv 1 159 fmR_neededByJump.1 := ⟨fm_tb (List.mem_of_getElem? (i := 323) (by decide +kernel)) rfl, fm_tb (List.mem_of_getElem? (i := 324) (by decide +kernel)) rfl, fm_tb (List.mem_of_getElem? (i := 325) (by decide +kernel)) rfl⟩
theorem fn_R_neededByJump : fm_np fmR_neededByJump.1 0 := by unfold fm_np; decide +kernel
theorem fk_1_156 : fm_lv 1 156 fmC_die.1 := ⟨fm_tb (List.mem_of_getElem? (i := 327) (by decide +kernel)) rfl, fm_tb (List.mem_of_getElem? (i := 329) (by decide +kernel)) rfl, fm_tbP (List.mem_of_getElem? (i := 16) (by decide +kernel)) rfl⟩
theorem fn_C_die : fm_np fmC_die.1 0 := by unfold fm_np; decide +kernel
theorem fk_1_163 : fm_lv 1 163 fmC_callFunction.1 := ⟨fm_tb (List.mem_of_getElem? (i := 331) (by decide +kernel)) rfl, fm_tb (List.mem_of_getElem? (i := 333) (by decide +kernel)) rfl, fm_tbP (List.mem_of_getElem? (i := 17) (by decide +kernel)) rfl⟩
theorem fn_C_callFunction : fm_np fmC_callFunction.1 1 := by unfold fm_np; decide +kernel
theorem fk_1_71 : fm_lv 1 71 fmC_endOfCode.1 := ⟨fm_tb (List.mem_of_getElem? (i := 335) (by decide +kernel)) rfl, fm_tb (List.mem_of_getElem? (i := 337) (by decide +kernel)) rfl, fm_tbP (List.mem_of_getElem? (i := 18) (by decide +kernel)) rfl⟩
theorem fn_C_endOfCode : fm_np fmC_endOfCode.1 0 := by unfold fm_np; decide +kernel
theorem fk_8_73 : fm_lv 8 73 fmF_count.1 := ⟨fm_tb (List.mem_of_getElem? (i := 339) (by decide +kernel)) rfl, fm_tb (List.mem_of_getElem? (i := 340) (by decide +kernel)) rfl, fm_tb (List.mem_of_getElem? (i := 341) (by decide +kernel)) rfl⟩
theorem fn_F_count : fm_np fmF_count.1 1 := by unfold fm_np; decide +kernel
theorem fk_0_87 : fm_lv 0 87 fmF_functionsThere.1 := ⟨fm_tb (List.mem_of_getElem? (i := 343) (by decide +kernel)) rfl, fm_tb (List.mem_of_getElem? (i := 345) (by decide +kernel)) rfl, fm_tbP (List.mem_of_getElem? (i := 19) (by decide +kernel)) rfl⟩
theorem fn_F_functionsThere : fm_np fmF_functionsThere.1 0 := by unfold fm_np; decide +kernel
theorem fk_0_30 : fm_lst 0 30 fmF_isWithin.1 := ⟨fm_tb (List.mem_of_getElem? (i := 347) (by decide +kernel)) rfl, fm_tb (List.mem_of_getElem? (i := 257) (by decide +kernel)) rfl⟩
theorem fn_F_isWithin : fm_np fmF_isWithin.1 2 := by unfold fm_np; decide +kernel
theorem fk_8_41 : fm_lst 8 41 fmL_function.1 := ⟨fm_tb (List.mem_of_getElem? (i := 348) (by decide +kernel)) rfl, fm_tb (List.mem_of_getElem? (i := 349) (by decide +kernel)) rfl⟩
theorem fn_L_function : fm_np fmL_function.1 6 := by unfold fm_np; decide +kernel
theorem fk_8_7 : fm_lv 8 7 fmF_function.1 := ⟨fm_tb (List.mem_of_getElem? (i := 352) (by decide +kernel)) rfl, fm_tb (List.mem_of_getElem? (i := 353) (by decide +kernel)) rfl, fm_tb (List.mem_of_getElem? (i := 354) (by decide +kernel)) rfl⟩
theorem fn_F_function : fm_np fmF_function.1 5 := by unfold fm_np; decide +kernel
theorem fk_0_37 : fm_lv 0 37 fmU_declare.1 := ⟨fm_tb (List.mem_of_getElem? (i := 420) (by decide +kernel)) rfl, fm_tb (List.mem_of_getElem? (i := 421) (by decide +kernel)) rfl, fm_tb (List.mem_of_getElem? (i := 422) (by decide +kernel)) rfl⟩
theorem fn_U_declare : fm_np fmU_declare.1 4 := by unfold fm_np; decide +kernel
theorem fk_8_51 : fm_lst 8 51 fmL_emit.1 := ⟨fm_tb (List.mem_of_getElem? (i := 424) (by decide +kernel)) rfl, fm_tb (List.mem_of_getElem? (i := 425) (by decide +kernel)) rfl⟩
theorem fn_L_emit : fm_np fmL_emit.1 5 := by unfold fm_np; decide +kernel
theorem fk_8_15 : fm_lv 8 15 fmF_emit.1 := ⟨fm_tb (List.mem_of_getElem? (i := 428) (by decide +kernel)) rfl, fm_tb (List.mem_of_getElem? (i := 429) (by decide +kernel)) rfl, fm_tb (List.mem_of_getElem? (i := 430) (by decide +kernel)) rfl⟩
theorem fn_F_emit : fm_np fmF_emit.1 3 := by unfold fm_np; decide +kernel
theorem fk_0_45 : fm_lv 0 45 fmF_isThere.1 := ⟨fm_tb (List.mem_of_getElem? (i := 432) (by decide +kernel)) rfl, fm_tb (List.mem_of_getElem? (i := 434) (by decide +kernel)) rfl, fm_tbP (List.mem_of_getElem? (i := 21) (by decide +kernel)) rfl⟩
theorem fn_F_isThere : fm_np fmF_isThere.1 1 := by unfold fm_np; decide +kernel
theorem fk_0_56 : fm_lv 0 56 fmU_append.1 := ⟨fm_tb (List.mem_of_getElem? (i := 451) (by decide +kernel)) rfl, fm_tb (List.mem_of_getElem? (i := 452) (by decide +kernel)) rfl, fm_tb (List.mem_of_getElem? (i := 453) (by decide +kernel)) rfl⟩
theorem fn_U_append : fm_np fmU_append.1 2 := by unfold fm_np; decide +kernel
theorem fk_8_55 : fm_lst 8 55 fmL_erase.1 := ⟨fm_tb (List.mem_of_getElem? (i := 455) (by decide +kernel)) rfl, fm_tb (List.mem_of_getElem? (i := 456) (by decide +kernel)) rfl⟩
theorem fn_L_erase : fm_np fmL_erase.1 2 := by unfold fm_np; decide +kernel
theorem fk_8_21 : fm_lv 8 21 fmF_erase.1 := ⟨fm_tb (List.mem_of_getElem? (i := 458) (by decide +kernel)) rfl, fm_tb (List.mem_of_getElem? (i := 459) (by decide +kernel)) rfl, fm_tb (List.mem_of_getElem? (i := 460) (by decide +kernel)) rfl⟩
theorem fn_F_erase : fm_np fmF_erase.1 1 := by unfold fm_np; decide +kernel
theorem fk_8_65 : fm_lst 8 65 fmL_run.1 := ⟨fm_tb (List.mem_of_getElem? (i := 462) (by decide +kernel)) rfl, fm_tb (List.mem_of_getElem? (i := 463) (by decide +kernel)) rfl⟩
theorem fn_L_run : fm_np fmL_run.1 7 := by unfold fm_np; decide +kernel
theorem fk_8_25 : fm_lv 8 25 fmF_run.1 := ⟨fm_tb (List.mem_of_getElem? (i := 467) (by decide +kernel)) rfl, fm_tb (List.mem_of_getElem? (i := 468) (by decide +kernel)) rfl, fm_tb (List.mem_of_getElem? (i := 469) (by decide +kernel)) rfl⟩
theorem fn_F_run : fm_np fmF_run.1 5 := by unfold fm_np; decide +kernel
theorem fk_0_67 : fm_lv 0 67 fmM_begin.1 := ⟨fm_tb (List.mem_of_getElem? (i := 471) (by decide +kernel)) rfl, fm_tb (List.mem_of_getElem? (i := 472) (by decide +kernel)) rfl, fm_tb (List.mem_of_getElem? (i := 473) (by decide +kernel)) rfl⟩
theorem fn_M_begin : fm_np fmM_begin.1 2 := by unfold fm_np; decide +kernel
theorem fk_5_42 : fm_lv 5 42 fmM_enter.1 := ⟨fm_tb (List.mem_of_getElem? (i := 475) (by decide +kernel)) rfl, fm_tb (List.mem_of_getElem? (i := 477) (by decide +kernel)) rfl, fm_tbP (List.mem_of_getElem? (i := 22) (by decide +kernel)) rfl⟩
theorem fn_M_enter : fm_np fmM_enter.1 1 := by unfold fm_np; decide +kernel
theorem fk_0_71 : fm_lv 0 71 fmM_pass.1 := ⟨fm_tb (List.mem_of_getElem? (i := 482) (by decide +kernel)) rfl, fm_tb (List.mem_of_getElem? (i := 483) (by decide +kernel)) rfl, fm_tb (List.mem_of_getElem? (i := 484) (by decide +kernel)) rfl⟩
theorem fn_M_pass : fm_np fmM_pass.1 2 := by unfold fm_np; decide +kernel
theorem fk_5_52 : fm_lst 5 52 fmA_asFloat.1 := ⟨fm_tb (List.mem_of_getElem? (i := 486) (by decide +kernel)) rfl, fm_tb (List.mem_of_getElem? (i := 487) (by decide +kernel)) rfl⟩
theorem fn_A_asFloat : fm_np fmA_asFloat.1 1 := by unfold fm_np; decide +kernel
theorem fk_0_75 : fm_lv 0 75 fmM_work.1 := ⟨fm_tb (List.mem_of_getElem? (i := 489) (by decide +kernel)) rfl, fm_tb (List.mem_of_getElem? (i := 490) (by decide +kernel)) rfl, fm_tb (List.mem_of_getElem? (i := 491) (by decide +kernel)) rfl⟩
theorem fn_M_work : fm_np fmM_work.1 1 := by unfold fm_np; decide +kernel
theorem fk_5_58 : fm_lv 5 58 fmM_leaveWhatHasEnded.1 := ⟨fm_tb (List.mem_of_getElem? (i := 493) (by decide +kernel)) rfl, fm_tb (List.mem_of_getElem? (i := 495) (by decide +kernel)) rfl, fm_tbP (List.mem_of_getElem? (i := 23) (by decide +kernel)) rfl⟩
theorem fn_M_leaveWhatHasEnded : fm_np fmM_leaveWhatHasEnded.1 0 := by unfold fm_np; decide +kernel
theorem fk_5_95 : fm_lv 5 95 fmM_backToCaller.1 := ⟨fm_tb (List.mem_of_getElem? (i := 497) (by decide +kernel)) rfl, fm_tb (List.mem_of_getElem? (i := 499) (by decide +kernel)) rfl, fm_tbP (List.mem_of_getElem? (i := 24) (by decide +kernel)) rfl⟩
theorem fn_M_backToCaller : fm_np fmM_backToCaller.1 1 := by unfold fm_np; decide +kernel
theorem fk_5_102 : fm_lv 5 102 fmM_copy.1 := ⟨fm_tb (List.mem_of_getElem? (i := 501) (by decide +kernel)) rfl, fm_tb (List.mem_of_getElem? (i := 503) (by decide +kernel)) rfl, fm_tbP (List.mem_of_getElem? (i := 25) (by decide +kernel)) rfl⟩
theorem fn_M_copy : fm_np fmM_copy.1 2 := by unfold fm_np; decide +kernel
theorem fk_5_61 : fm_lv 5 61 fmM_step.1 := ⟨fm_tb (List.mem_of_getElem? (i := 505) (by decide +kernel)) rfl, fm_tb (List.mem_of_getElem? (i := 507) (by decide +kernel)) rfl, fm_tbP (List.mem_of_getElem? (i := 26) (by decide +kernel)) rfl⟩
theorem fn_M_step : fm_np fmM_step.1 0 := by unfold fm_np; decide +kernel
theorem fk_5_112 : fm_lv 5 112 fmM_moveValues.1 := ⟨fm_tb (List.mem_of_getElem? (i := 509) (by decide +kernel)) rfl, fm_tb (List.mem_of_getElem? (i := 511) (by decide +kernel)) rfl, fm_tbP (List.mem_of_getElem? (i := 27) (by decide +kernel)) rfl⟩
theorem fn_M_moveValues : fm_np fmM_moveValues.1 3 := by unfold fm_np; decide +kernel
theorem fk_5_116 : fm_lv 5 116 fmM_compute.1 := ⟨fm_tb (List.mem_of_getElem? (i := 515) (by decide +kernel)) rfl, fm_tb (List.mem_of_getElem? (i := 517) (by decide +kernel)) rfl, fm_tbP (List.mem_of_getElem? (i := 28) (by decide +kernel)) rfl⟩
theorem fn_M_compute : fm_np fmM_compute.1 3 := by unfold fm_np; decide +kernel
theorem fk_5_126 : fm_lv 5 126 fmM_convert.1 := ⟨fm_tb (List.mem_of_getElem? (i := 519) (by decide +kernel)) rfl, fm_tb (List.mem_of_getElem? (i := 521) (by decide +kernel)) rfl, fm_tbP (List.mem_of_getElem? (i := 29) (by decide +kernel)) rfl⟩
theorem fn_M_convert : fm_np fmM_convert.1 3 := by unfold fm_np; decide +kernel
theorem fk_5_141 : fm_lst 5 141 fmA_trapIfTooLarge.1 := ⟨fm_tb (List.mem_of_getElem? (i := 523) (by decide +kernel)) rfl, fm_tb (List.mem_of_getElem? (i := 524) (by decide +kernel)) rfl⟩
theorem fn_A_trapIfTooLarge : fm_np fmA_trapIfTooLarge.1 1 := by unfold fm_np; decide +kernel
theorem fk_5_129 : fm_lv 5 129 fmM_holds.1 := ⟨fm_tb (List.mem_of_getElem? (i := 543) (by decide +kernel)) rfl, fm_tb (List.mem_of_getElem? (i := 545) (by decide +kernel)) rfl, fm_tbP (List.mem_of_getElem? (i := 30) (by decide +kernel)) rfl⟩
theorem fn_M_holds : fm_np fmM_holds.1 3 := by unfold fm_np; decide +kernel
theorem fk_5_133 : fm_lst 5 133 fmA_ofWholes.1 := ⟨fm_tb (List.mem_of_getElem? (i := 547) (by decide +kernel)) rfl, fm_tb (List.mem_of_getElem? (i := 548) (by decide +kernel)) rfl⟩
theorem fn_A_ofWholes : fm_np fmA_ofWholes.1 4 := by unfold fm_np; decide +kernel
theorem fk_7_9 : fm_lst 7 9 fmA_wholeOutcome.1 := ⟨fm_tb (List.mem_of_getElem? (i := 550) (by decide +kernel)) rfl, fm_tb (List.mem_of_getElem? (i := 551) (by decide +kernel)) rfl⟩
theorem fn_A_wholeOutcome : fm_np fmA_wholeOutcome.1 4 := by unfold fm_np; decide +kernel
theorem fk_7_15 : fm_lst 7 15 fmA_divisor.1 := ⟨fm_tb (List.mem_of_getElem? (i := 553) (by decide +kernel)) rfl, fm_tb (List.mem_of_getElem? (i := 554) (by decide +kernel)) rfl⟩
theorem fn_A_divisor : fm_np fmA_divisor.1 1 := by unfold fm_np; decide +kernel
theorem fk_5_137 : fm_lst 5 137 fmA_ofFractions.1 := ⟨fm_tb (List.mem_of_getElem? (i := 556) (by decide +kernel)) rfl, fm_tb (List.mem_of_getElem? (i := 557) (by decide +kernel)) rfl⟩
theorem fn_A_ofFractions : fm_np fmA_ofFractions.1 4 := by unfold fm_np; decide +kernel
theorem fk_7_22 : fm_lst 7 22 fmA_isEndless.1 := ⟨fm_tb (List.mem_of_getElem? (i := 559) (by decide +kernel)) rfl, fm_tb (List.mem_of_getElem? (i := 560) (by decide +kernel)) rfl⟩
theorem fn_A_isEndless : fm_np fmA_isEndless.1 1 := by unfold fm_np; decide +kernel
theorem fk_7_26 : fm_lst 7 26 fmA_fractionOutcome.1 := ⟨fm_tb (List.mem_of_getElem? (i := 564) (by decide +kernel)) rfl, fm_tb (List.mem_of_getElem? (i := 565) (by decide +kernel)) rfl⟩
theorem fn_A_fractionOutcome : fm_np fmA_fractionOutcome.1 3 := by unfold fm_np; decide +kernel
theorem fk_7_30 : fm_lst 7 30 fmA_trapIfTooLarge.1 := ⟨fm_tb (List.mem_of_getElem? (i := 567) (by decide +kernel)) rfl, fm_tb (List.mem_of_getElem? (i := 524) (by decide +kernel)) rfl⟩
theorem fk_5_119 : fm_lv 5 119 fmM_goOnElsewhere.1 := ⟨fm_tb (List.mem_of_getElem? (i := 568) (by decide +kernel)) rfl, fm_tb (List.mem_of_getElem? (i := 570) (by decide +kernel)) rfl, fm_tbP (List.mem_of_getElem? (i := 31) (by decide +kernel)) rfl⟩
theorem fn_M_goOnElsewhere : fm_np fmM_goOnElsewhere.1 3 := by unfold fm_np; decide +kernel
theorem fk_5_148 : fm_lv 5 148 fmM_jump.1 := ⟨fm_tb (List.mem_of_getElem? (i := 572) (by decide +kernel)) rfl, fm_tb (List.mem_of_getElem? (i := 574) (by decide +kernel)) rfl, fm_tbP (List.mem_of_getElem? (i := 32) (by decide +kernel)) rfl⟩
theorem fn_M_jump : fm_np fmM_jump.1 3 := by unfold fm_np; decide +kernel
theorem fk_5_154 : fm_lv 5 154 fmM_callFunction.1 := ⟨fm_tb (List.mem_of_getElem? (i := 576) (by decide +kernel)) rfl, fm_tb (List.mem_of_getElem? (i := 578) (by decide +kernel)) rfl, fm_tbP (List.mem_of_getElem? (i := 33) (by decide +kernel)) rfl⟩
theorem fn_M_callFunction : fm_np fmM_callFunction.1 2 := by unfold fm_np; decide +kernel
theorem fk_0_79 : fm_lv 0 79 fmM_result.1 := ⟨fm_tb (List.mem_of_getElem? (i := 597) (by decide +kernel)) rfl, fm_tb (List.mem_of_getElem? (i := 598) (by decide +kernel)) rfl, fm_tb (List.mem_of_getElem? (i := 599) (by decide +kernel)) rfl⟩
theorem fn_M_result : fm_np fmM_result.1 1 := by unfold fm_np; decide +kernel
theorem fk_5_73 : fm_lv 5 73 fmM_valueOf.1 := ⟨fm_tb (List.mem_of_getElem? (i := 601) (by decide +kernel)) rfl, fm_tb (List.mem_of_getElem? (i := 603) (by decide +kernel)) rfl, fm_tbP (List.mem_of_getElem? (i := 34) (by decide +kernel)) rfl⟩
theorem fn_M_valueOf : fm_np fmM_valueOf.1 2 := by unfold fm_np; decide +kernel
theorem fk_8_69 : fm_lst 8 69 fmL_global.1 := ⟨fm_tb (List.mem_of_getElem? (i := 605) (by decide +kernel)) rfl, fm_tb (List.mem_of_getElem? (i := 606) (by decide +kernel)) rfl⟩
theorem fn_L_global : fm_np fmL_global.1 3 := by unfold fm_np; decide +kernel
theorem fk_8_33 : fm_lv 8 33 fmF_global.1 := ⟨fm_tb (List.mem_of_getElem? (i := 608) (by decide +kernel)) rfl, fm_tb (List.mem_of_getElem? (i := 609) (by decide +kernel)) rfl, fm_tb (List.mem_of_getElem? (i := 610) (by decide +kernel)) rfl⟩
theorem fn_F_global : fm_np fmF_global.1 1 := by unfold fm_np; decide +kernel
theorem fk_0_83 : fm_lv 0 83 fmM_valueOfGlobal.1 := ⟨fm_tb (List.mem_of_getElem? (i := 612) (by decide +kernel)) rfl, fm_tb (List.mem_of_getElem? (i := 613) (by decide +kernel)) rfl, fm_tb (List.mem_of_getElem? (i := 614) (by decide +kernel)) rfl⟩
theorem fn_M_valueOfGlobal : fm_np fmM_valueOfGlobal.1 1 := by unfold fm_np; decide +kernel
theorem fk_8_47 : fm_lv 8 47 fmD_thrown.1 := ⟨fm_tb (List.mem_of_getElem? (i := 723) (by decide +kernel)) rfl, fm_tb (List.mem_of_getElem? (i := 724) (by decide +kernel)) rfl, fm_tb (List.mem_of_getElem? (i := 725) (by decide +kernel)) rfl⟩
theorem fn_D_thrown : fm_np fmD_thrown.1 0 := by unfold fm_np; decide +kernel
theorem fk_8_46 : fm_lv 8 46 fmD_function.1 := ⟨fm_tb (List.mem_of_getElem? (i := 727) (by decide +kernel)) rfl, fm_tb (List.mem_of_getElem? (i := 728) (by decide +kernel)) rfl, fm_tb (List.mem_of_getElem? (i := 729) (by decide +kernel)) rfl⟩
theorem fn_D_function : fm_np fmD_function.1 5 := by unfold fm_np; decide +kernel
theorem fk_6_86 : fm_lst 6 86 fmD_in.1 := ⟨fm_tb (List.mem_of_getElem? (i := 731) (by decide +kernel)) rfl, fm_tb (List.mem_of_getElem? (i := 732) (by decide +kernel)) rfl⟩
theorem fn_D_in : fm_np fmD_in.1 3 := by unfold fm_np; decide +kernel
theorem fk_6_90 : fm_lv 6 90 fmD_bad.1 := ⟨fm_tb (List.mem_of_getElem? (i := 734) (by decide +kernel)) rfl, fm_tb (List.mem_of_getElem? (i := 736) (by decide +kernel)) rfl, fm_tbP (List.mem_of_getElem? (i := 35) (by decide +kernel)) rfl⟩
theorem fn_D_bad : fm_np fmD_bad.1 1 := by unfold fm_np; decide +kernel
theorem fk_8_54 : fm_lv 8 54 fmD_emit.1 := ⟨fm_tb (List.mem_of_getElem? (i := 738) (by decide +kernel)) rfl, fm_tb (List.mem_of_getElem? (i := 739) (by decide +kernel)) rfl, fm_tb (List.mem_of_getElem? (i := 740) (by decide +kernel)) rfl⟩
theorem fn_D_emit : fm_np fmD_emit.1 3 := by unfold fm_np; decide +kernel
theorem fk_6_98 : fm_lv 6 98 fmD_isFunction.1 := ⟨fm_tb (List.mem_of_getElem? (i := 742) (by decide +kernel)) rfl, fm_tb (List.mem_of_getElem? (i := 744) (by decide +kernel)) rfl, fm_tbP (List.mem_of_getElem? (i := 36) (by decide +kernel)) rfl⟩
theorem fn_D_isFunction : fm_np fmD_isFunction.1 1 := by unfold fm_np; decide +kernel
theorem fk_8_58 : fm_lv 8 58 fmD_erase.1 := ⟨fm_tb (List.mem_of_getElem? (i := 746) (by decide +kernel)) rfl, fm_tb (List.mem_of_getElem? (i := 747) (by decide +kernel)) rfl, fm_tb (List.mem_of_getElem? (i := 748) (by decide +kernel)) rfl⟩
theorem fn_D_erase : fm_np fmD_erase.1 1 := by unfold fm_np; decide +kernel
theorem fk_8_62 : fm_lv 8 62 fmD_check.1 := ⟨fm_tb (List.mem_of_getElem? (i := 750) (by decide +kernel)) rfl, fm_tb (List.mem_of_getElem? (i := 751) (by decide +kernel)) rfl, fm_tb (List.mem_of_getElem? (i := 752) (by decide +kernel)) rfl⟩
theorem fn_D_check : fm_np fmD_check.1 0 := by unfold fm_np; decide +kernel
theorem fk_6_158 : fm_lv 6 158 fmD_checkFunction.1 := ⟨fm_tb (List.mem_of_getElem? (i := 754) (by decide +kernel)) rfl, fm_tb (List.mem_of_getElem? (i := 756) (by decide +kernel)) rfl, fm_tbP (List.mem_of_getElem? (i := 37) (by decide +kernel)) rfl⟩
theorem fn_D_checkFunction : fm_np fmD_checkFunction.1 1 := by unfold fm_np; decide +kernel
theorem fk_6_125 : fm_lv 6 125 fmD_begin.1 := ⟨fm_tb (List.mem_of_getElem? (i := 758) (by decide +kernel)) rfl, fm_tb (List.mem_of_getElem? (i := 760) (by decide +kernel)) rfl, fm_tbP (List.mem_of_getElem? (i := 38) (by decide +kernel)) rfl⟩
theorem fn_D_begin : fm_np fmD_begin.1 2 := by unfold fm_np; decide +kernel
theorem fk_6_155 : fm_lv 6 155 fmD_checkOne.1 := ⟨fm_tb (List.mem_of_getElem? (i := 762) (by decide +kernel)) rfl, fm_tb (List.mem_of_getElem? (i := 764) (by decide +kernel)) rfl, fm_tbP (List.mem_of_getElem? (i := 39) (by decide +kernel)) rfl⟩
theorem fn_D_checkOne : fm_np fmD_checkOne.1 3 := by unfold fm_np; decide +kernel
theorem fk_6_119 : fm_lv 6 119 fmD_put.1 := ⟨fm_tb (List.mem_of_getElem? (i := 766) (by decide +kernel)) rfl, fm_tb (List.mem_of_getElem? (i := 768) (by decide +kernel)) rfl, fm_tbP (List.mem_of_getElem? (i := 40) (by decide +kernel)) rfl⟩
theorem fn_D_put : fm_np fmD_put.1 1 := by unfold fm_np; decide +kernel
theorem fk_6_132 : fm_lv 6 132 fmD_checkLocal.1 := ⟨fm_tb (List.mem_of_getElem? (i := 770) (by decide +kernel)) rfl, fm_tb (List.mem_of_getElem? (i := 772) (by decide +kernel)) rfl, fm_tbP (List.mem_of_getElem? (i := 41) (by decide +kernel)) rfl⟩
theorem fn_D_checkLocal : fm_np fmD_checkLocal.1 3 := by unfold fm_np; decide +kernel
theorem fk_6_115 : fm_lv 6 115 fmD_wrong.1 := ⟨fm_tb (List.mem_of_getElem? (i := 774) (by decide +kernel)) rfl, fm_tb (List.mem_of_getElem? (i := 776) (by decide +kernel)) rfl, fm_tbP (List.mem_of_getElem? (i := 42) (by decide +kernel)) rfl⟩
theorem fn_D_wrong : fm_np fmD_wrong.1 1 := by unfold fm_np; decide +kernel
theorem fk_6_111 : fm_lv 6 111 fmD_take.1 := ⟨fm_tb (List.mem_of_getElem? (i := 778) (by decide +kernel)) rfl, fm_tb (List.mem_of_getElem? (i := 780) (by decide +kernel)) rfl, fm_tbP (List.mem_of_getElem? (i := 43) (by decide +kernel)) rfl⟩
theorem fn_D_take : fm_np fmD_take.1 1 := by unfold fm_np; decide +kernel
theorem fk_6_136 : fm_lv 6 136 fmD_checkGlobal.1 := ⟨fm_tb (List.mem_of_getElem? (i := 782) (by decide +kernel)) rfl, fm_tb (List.mem_of_getElem? (i := 784) (by decide +kernel)) rfl, fm_tbP (List.mem_of_getElem? (i := 44) (by decide +kernel)) rfl⟩
theorem fn_D_checkGlobal : fm_np fmD_checkGlobal.1 2 := by unfold fm_np; decide +kernel
theorem fk_6_139 : fm_lv 6 139 fmD_choose.1 := ⟨fm_tb (List.mem_of_getElem? (i := 786) (by decide +kernel)) rfl, fm_tb (List.mem_of_getElem? (i := 788) (by decide +kernel)) rfl, fm_tbP (List.mem_of_getElem? (i := 45) (by decide +kernel)) rfl⟩
theorem fn_D_choose : fm_np fmD_choose.1 0 := by unfold fm_np; decide +kernel
theorem fk_6_142 : fm_lv 6 142 fmD_two.1 := ⟨fm_tb (List.mem_of_getElem? (i := 790) (by decide +kernel)) rfl, fm_tb (List.mem_of_getElem? (i := 792) (by decide +kernel)) rfl, fm_tbP (List.mem_of_getElem? (i := 46) (by decide +kernel)) rfl⟩
theorem fn_D_two : fm_np fmD_two.1 2 := by unfold fm_np; decide +kernel
theorem fk_6_145 : fm_lv 6 145 fmD_checkFrame.1 := ⟨fm_tb (List.mem_of_getElem? (i := 794) (by decide +kernel)) rfl, fm_tb (List.mem_of_getElem? (i := 796) (by decide +kernel)) rfl, fm_tbP (List.mem_of_getElem? (i := 47) (by decide +kernel)) rfl⟩
theorem fn_D_checkFrame : fm_np fmD_checkFrame.1 2 := by unfold fm_np; decide +kernel
theorem fk_6_129 : fm_lv 6 129 fmD_finish.1 := ⟨fm_tb (List.mem_of_getElem? (i := 798) (by decide +kernel)) rfl, fm_tb (List.mem_of_getElem? (i := 800) (by decide +kernel)) rfl, fm_tbP (List.mem_of_getElem? (i := 48) (by decide +kernel)) rfl⟩
theorem fn_D_finish : fm_np fmD_finish.1 0 := by unfold fm_np; decide +kernel
theorem fk_6_148 : fm_lv 6 148 fmD_jump.1 := ⟨fm_tb (List.mem_of_getElem? (i := 802) (by decide +kernel)) rfl, fm_tb (List.mem_of_getElem? (i := 804) (by decide +kernel)) rfl, fm_tbP (List.mem_of_getElem? (i := 49) (by decide +kernel)) rfl⟩
theorem fn_D_jump : fm_np fmD_jump.1 2 := by unfold fm_np; decide +kernel
theorem fk_6_122 : fm_lv 6 122 fmD_die.1 := ⟨fm_tb (List.mem_of_getElem? (i := 806) (by decide +kernel)) rfl, fm_tb (List.mem_of_getElem? (i := 808) (by decide +kernel)) rfl, fm_tbP (List.mem_of_getElem? (i := 50) (by decide +kernel)) rfl⟩
theorem fn_D_die : fm_np fmD_die.1 0 := by unfold fm_np; decide +kernel
theorem fk_6_152 : fm_lv 6 152 fmD_checkCall.1 := ⟨fm_tb (List.mem_of_getElem? (i := 810) (by decide +kernel)) rfl, fm_tb (List.mem_of_getElem? (i := 812) (by decide +kernel)) rfl, fm_tbP (List.mem_of_getElem? (i := 51) (by decide +kernel)) rfl⟩
theorem fn_D_checkCall : fm_np fmD_checkCall.1 1 := by unfold fm_np; decide +kernel
theorem fk_8_68 : fm_lv 8 68 fmD_run.1 := ⟨fm_tb (List.mem_of_getElem? (i := 814) (by decide +kernel)) rfl, fm_tb (List.mem_of_getElem? (i := 815) (by decide +kernel)) rfl, fm_tb (List.mem_of_getElem? (i := 816) (by decide +kernel)) rfl⟩
theorem fn_D_run : fm_np fmD_run.1 5 := by unfold fm_np; decide +kernel
theorem fk_6_232 : fm_lv 6 232 fmD_pass.1 := ⟨fm_tb (List.mem_of_getElem? (i := 818) (by decide +kernel)) rfl, fm_tb (List.mem_of_getElem? (i := 820) (by decide +kernel)) rfl, fm_tbP (List.mem_of_getElem? (i := 52) (by decide +kernel)) rfl⟩
theorem fn_D_pass : fm_np fmD_pass.1 3 := by unfold fm_np; decide +kernel
theorem fk_6_172 : fm_lv 6 172 fmD_push.1 := ⟨fm_tb (List.mem_of_getElem? (i := 822) (by decide +kernel)) rfl, fm_tb (List.mem_of_getElem? (i := 824) (by decide +kernel)) rfl, fm_tbP (List.mem_of_getElem? (i := 53) (by decide +kernel)) rfl⟩
theorem fn_D_push : fm_np fmD_push.1 3 := by unfold fm_np; decide +kernel
theorem fk_6_219 : fm_lv 6 219 fmD_enter.1 := ⟨fm_tb (List.mem_of_getElem? (i := 826) (by decide +kernel)) rfl, fm_tb (List.mem_of_getElem? (i := 828) (by decide +kernel)) rfl, fm_tbP (List.mem_of_getElem? (i := 54) (by decide +kernel)) rfl⟩
theorem fn_D_enter : fm_np fmD_enter.1 1 := by unfold fm_np; decide +kernel
theorem fk_6_236 : fm_lv 6 236 fmD_go.1 := ⟨fm_tb (List.mem_of_getElem? (i := 830) (by decide +kernel)) rfl, fm_tb (List.mem_of_getElem? (i := 832) (by decide +kernel)) rfl, fm_tbP (List.mem_of_getElem? (i := 55) (by decide +kernel)) rfl⟩
theorem fn_D_go : fm_np fmD_go.1 1 := by unfold fm_np; decide +kernel
theorem fk_6_216 : fm_lv 6 216 fmD_leave.1 := ⟨fm_tb (List.mem_of_getElem? (i := 834) (by decide +kernel)) rfl, fm_tb (List.mem_of_getElem? (i := 836) (by decide +kernel)) rfl, fm_tbP (List.mem_of_getElem? (i := 56) (by decide +kernel)) rfl⟩
theorem fn_D_leave : fm_np fmD_leave.1 1 := by unfold fm_np; decide +kernel
theorem fk_6_190 : fm_lv 6 190 fmD_keep.1 := ⟨fm_tb (List.mem_of_getElem? (i := 838) (by decide +kernel)) rfl, fm_tb (List.mem_of_getElem? (i := 840) (by decide +kernel)) rfl, fm_tbP (List.mem_of_getElem? (i := 57) (by decide +kernel)) rfl⟩
theorem fn_D_keep : fm_np fmD_keep.1 2 := by unfold fm_np; decide +kernel
theorem fk_6_228 : fm_lv 6 228 fmD_perform.1 := ⟨fm_tb (List.mem_of_getElem? (i := 842) (by decide +kernel)) rfl, fm_tb (List.mem_of_getElem? (i := 844) (by decide +kernel)) rfl, fm_tbP (List.mem_of_getElem? (i := 58) (by decide +kernel)) rfl⟩
theorem fn_D_perform : fm_np fmD_perform.1 4 := by unfold fm_np; decide +kernel
theorem fk_6_204 : fm_lv 6 204 fmD_choice.1 := ⟨fm_tb (List.mem_of_getElem? (i := 848) (by decide +kernel)) rfl, fm_tb (List.mem_of_getElem? (i := 850) (by decide +kernel)) rfl, fm_tbP (List.mem_of_getElem? (i := 59) (by decide +kernel)) rfl⟩
theorem fn_D_choice : fm_np fmD_choice.1 0 := by unfold fm_np; decide +kernel
theorem fk_6_207 : fm_lv 6 207 fmD_convert.1 := ⟨fm_tb (List.mem_of_getElem? (i := 852) (by decide +kernel)) rfl, fm_tb (List.mem_of_getElem? (i := 854) (by decide +kernel)) rfl, fm_tbP (List.mem_of_getElem? (i := 60) (by decide +kernel)) rfl⟩
theorem fn_D_convert : fm_np fmD_convert.1 2 := by unfold fm_np; decide +kernel
theorem fk_6_180 : fm_lst 6 180 fmD_large.1 := ⟨fm_tb (List.mem_of_getElem? (i := 856) (by decide +kernel)) rfl, fm_tb (List.mem_of_getElem? (i := 857) (by decide +kernel)) rfl⟩
theorem fn_D_large : fm_np fmD_large.1 1 := by unfold fm_np; decide +kernel
theorem fk_6_210 : fm_lv 6 210 fmD_openFrame.1 := ⟨fm_tb (List.mem_of_getElem? (i := 861) (by decide +kernel)) rfl, fm_tb (List.mem_of_getElem? (i := 863) (by decide +kernel)) rfl, fm_tbP (List.mem_of_getElem? (i := 61) (by decide +kernel)) rfl⟩
theorem fn_D_openFrame : fm_np fmD_openFrame.1 1 := by unfold fm_np; decide +kernel
theorem fk_6_194 : fm_lv 6 194 fmD_endOf.1 := ⟨fm_tb (List.mem_of_getElem? (i := 865) (by decide +kernel)) rfl, fm_tb (List.mem_of_getElem? (i := 867) (by decide +kernel)) rfl, fm_tbP (List.mem_of_getElem? (i := 62) (by decide +kernel)) rfl⟩
theorem fn_D_endOf : fm_np fmD_endOf.1 3 := by unfold fm_np; decide +kernel
theorem fk_6_213 : fm_lv 6 213 fmD_jumpTo.1 := ⟨fm_tb (List.mem_of_getElem? (i := 869) (by decide +kernel)) rfl, fm_tb (List.mem_of_getElem? (i := 871) (by decide +kernel)) rfl, fm_tbP (List.mem_of_getElem? (i := 63) (by decide +kernel)) rfl⟩
theorem fn_D_jumpTo : fm_np fmD_jumpTo.1 2 := by unfold fm_np; decide +kernel
theorem fk_6_222 : fm_lv 6 222 fmD_arithmetic.1 := ⟨fm_tb (List.mem_of_getElem? (i := 873) (by decide +kernel)) rfl, fm_tb (List.mem_of_getElem? (i := 875) (by decide +kernel)) rfl, fm_tbP (List.mem_of_getElem? (i := 64) (by decide +kernel)) rfl⟩
theorem fn_D_arithmetic : fm_np fmD_arithmetic.1 2 := by unfold fm_np; decide +kernel
theorem fk_6_168 : fm_lv 6 168 fmD_fractions.1 := ⟨fm_tb (List.mem_of_getElem? (i := 877) (by decide +kernel)) rfl, fm_tb (List.mem_of_getElem? (i := 879) (by decide +kernel)) rfl, fm_tbP (List.mem_of_getElem? (i := 65) (by decide +kernel)) rfl⟩
theorem fn_D_fractions : fm_np fmD_fractions.1 4 := by unfold fm_np; decide +kernel
theorem fk_6_176 : fm_lst 6 176 fmD_small.1 := ⟨fm_tb (List.mem_of_getElem? (i := 881) (by decide +kernel)) rfl, fm_tb (List.mem_of_getElem? (i := 882) (by decide +kernel)) rfl⟩
theorem fn_D_small : fm_np fmD_small.1 3 := by unfold fm_np; decide +kernel
theorem fk_6_239 : fm_lst 6 239 fmD_told.1 := ⟨fm_tb (List.mem_of_getElem? (i := 884) (by decide +kernel)) rfl, fm_tb (List.mem_of_getElem? (i := 885) (by decide +kernel)) rfl⟩
theorem fn_D_told : fm_np fmD_told.1 3 := by unfold fm_np; decide +kernel
theorem fk_8_72 : fm_lv 8 72 fmD_global.1 := ⟨fm_tb (List.mem_of_getElem? (i := 887) (by decide +kernel)) rfl, fm_tb (List.mem_of_getElem? (i := 888) (by decide +kernel)) rfl, fm_tb (List.mem_of_getElem? (i := 889) (by decide +kernel)) rfl⟩
theorem fn_D_global : fm_np fmD_global.1 1 := by unfold fm_np; decide +kernel
theorem fk_8_77 : fm_lv 8 77 fmD_count.1 := ⟨fm_tb (List.mem_of_getElem? (i := 891) (by decide +kernel)) rfl, fm_tb (List.mem_of_getElem? (i := 892) (by decide +kernel)) rfl, fm_tb (List.mem_of_getElem? (i := 893) (by decide +kernel)) rfl⟩
theorem fn_D_count : fm_np fmD_count.1 1 := by unfold fm_np; decide +kernel
theorem fn_F_isWithin0 : Cond.static fmF_isWithin.1 ∈ fm_TB := fm_tb (List.mem_of_getElem? (i := 257) (by decide +kernel)) rfl
end
section
/-! calls that make nothing, and Math.max -/
section R0
variable {E : fm_Ev} {d n : Nat} {u u' : fm_Me} {Z : (Nat → Prop) → List Frame → Array Value → State → Nat → Nat → State → Prop}
theorem fm_cV0 (O : fm_mo u) (O' : fm_mok u') {pc ix kd i : Nat} {lo : List (Nat × fm_V)} {as rest : List fm_V} {M M1 : fm_M} {v : Option fm_V} (hi : u.2.2.2.2.2.2 pc = some (.invokevirtual ix)) (hlk : fm_lv u.2.2.2.2.1 ix u'.1) (hkd : fm_is kd u'.2.2.2.2.1 = true) (h7 : u'.2.2.2.2.1 < 7)
    (hn : fm_np u'.1 as.length) (hrest : fm_wd rest ≤ 8) (K : fm_Ct E d u' 0 (.inr (.inr (.inr (.inr (kd, i)))) :: as) M v M1)
    (k : fm_Go E (d + 1) u n (pc + 3, lo, v.toList ++ rest, M1) Z) : fm_Go E (d + 1) u n (pc, lo, as.reverse ++ .inr (.inr (.inr (.inr (kd, i)))) :: rest, M) Z := by
  have := fm_cV (n1 := 0) O O' hi hlk hkd h7 hn hrest K k
  rwa [Nat.zero_add] at this
theorem fm_cS0 (O : fm_mo u) (O' : fm_mok u') {pc ix : Nat} {lo : List (Nat × fm_V)} {as rest : List fm_V} {M M1 : fm_M} {v : Option fm_V} (hi : u.2.2.2.2.2.2 pc = some (.invokestatic ix)) (hlk : fm_lst u.2.2.2.2.1 ix u'.1)
    (hn : fm_np u'.1 as.length) (hrest : fm_wd rest ≤ 8) (K : fm_Ct E d u' 0 as M v M1)
    (k : fm_Go E (d + 1) u n (pc + 3, lo, v.toList ++ rest, M1) Z) : fm_Go E (d + 1) u n (pc, lo, as.reverse ++ rest, M) Z := by
  have := fm_cS (n1 := 0) O O' hi hlk hn hrest K k
  rwa [Nat.zero_add] at this
theorem fm_cN0 (O : fm_mo u) (O' : fm_mok u') {pc : Nat} {lo : List (Nat × fm_V)} {as rest : List fm_V} {M M1 : fm_M} {v : Option fm_V} (hi : u.2.2.2.2.2.2 pc = some (.invokestatic 93)) (hoc : u.2.2.2.2.1 = 1) (hy : u'.1 = ⟨"FlatModule", "isWithin", "(II)Z"⟩) (hsw : Cond.static u'.1 ∈ fm_TB)
    (hn : fm_np u'.1 as.length) (hrest : fm_wd rest ≤ 8) (K : fm_Ct E d u' 0 as M v M1)
    (k : fm_Go E (d + 1) u n (pc + 3, lo, v.toList ++ rest, M1) Z) : fm_Go E (d + 1) u n (pc, lo, as.reverse ++ rest, M) Z := by
  have := fm_cN (n1 := 0) O O' hi hoc hy hsw hn hrest K k
  rwa [Nat.zero_add] at this
/-- fewer locals, in another order -/
theorem fm_gL {C : fm_C} (_ : fm_mo u) (ks : List Nat) {l' : List (Nat × fm_V)} (h : ks.filterMap (fun k => C.2.1[k]?) = l') (k : fm_Go E d u n (C.1, l', C.2.2.1, C.2.2.2) Z) : fm_Go E d u n C Z := by
  intro p e R s m args below meth c A cells slots X hr hA h1 h2 h3 h4 H locs ls hP hS hl hv
  subst h
  have hsub : ∀ q ∈ ks.filterMap (fun k => C.2.1[k]?), q ∈ C.2.1 := by
    intro q hq
    obtain ⟨j, -, hj⟩ := List.mem_filterMap.mp hq
    exact List.mem_of_getElem? hj
  refine k p e R s m args below meth c A cells slots X hr hA h1 h2 h3 h4 H locs ls hP hS ⟨hl.1, hl.2.1, fun q hq => ?_⟩ ⟨fun q hq => hv.1 q (hsub q hq), hv.2.1, hv.2.2⟩
  obtain ⟨z, hz, rfl⟩ := List.mem_map.mp hq
  exact hl.2.2 _ (List.mem_map.mpr ⟨z, hsub z hz, rfl⟩)
theorem fm_gM (O : fm_mo u) {pc ix : Nat} {lo : List (Nat × fm_V)} {x y : Int32} {rest : List fm_V} {M : fm_M} (hi : u.2.2.2.2.2.2 pc = some (.invokestatic ix)) (hlk : Cond.methodLink (fm_cn u.2.2.2.2.1) ix Lib.Math.max.name ∈ fm_TB ∧ Cond.static Lib.Math.max.name ∈ fm_TB ∧ Cond.initialized "java/lang/Math" ∈ fm_TB ∧ Cond.code Lib.Math.max.name Lib.Math.max.code 2 (some .int) ∈ fm_TB)
    (hrest : fm_wd rest ≤ 8) (k : fm_Go E (d + 1) u n (pc + 3, lo, .inl (if x < y then y else x) :: rest, M) Z) : fm_Go E (d + 1) u n (pc, lo, .inl y :: .inl x :: rest, M) Z := by
  intro p e R s m args below meth c A cells slots X hr hA h1 h2 h3 h4
  have kk := k p e R s m args below meth c A cells slots X hr hA h1 h2 h3 h4
  obtain ⟨hx, hb, hml, hown, hts, hK, hD, -⟩ := X
  obtain ⟨len, hd, hln⟩ := O.2 pc _ hi
  rw [hln rfl] at hd
  intro H locs ls hP hS hl hv
  refine va_mmax hx hb (hml.trans hl.1.symm) hown (hts _ hlk.1) (hts _ hlk.2.1) (hts _ hlk.2.2.1) (hts _ hlk.2.2.2) (by omega) (by rw [fm_wd_cat]; omega) (by omega) (by omega) hd (kk H locs ls hP hS hl ⟨hv.1, ?_, hv.2.2⟩)
  exact List.forall_mem_cons.mpr ⟨trivial, fun w hw => hv.2.1 w (List.mem_cons_of_mem _ (List.mem_cons_of_mem _ hw))⟩
end R0
end
section
/-! LEAVES, by program (wip/tools/walk.py, gen_c1.py) -/
def fmF_isWithin_f (x : Int32) (mo : Int32) : Int32 :=
  if x < 0 then 0 else (if mo < x then 0 else 1)
theorem fmF_isWithin_e (x : Int32) (mo : Int32) : fmF_isWithin_f x mo = if x < 0 then 0 else (if mo < x then 0 else 1) := rfl
set_option maxRecDepth 100000 in
set_option maxHeartbeats 4000000 in
theorem fmF_isWithin_c {E : fm_Ev} (hl : E.1.stackTraces = false) {d : Nat} (hd : 0 ≤ d) (I : fm_MI) (J : fm_MJ) (G : fm_MG) (pa : Nat × Nat) (pb : Nat × Nat) (x : Int32) (mo : Int32) : fm_Ct E d fmF_isWithin 0 [.inl x, .inl mo] (I, J, G, fm_P pa pb) (some (.inl (fmF_isWithin_f x mo))) (I, J, G, fm_P pa pb) := by
  refine fm_ct fmF_isWithin_o hl (Nat.le_of_ble_eq_true rfl) ?_
  have O := fmF_isWithin_o.1
  have he := fmF_isWithin_e x mo
  refine fm_gr O 1 (C' := (1, [(0, .inl x), (1, .inl mo)], [.inl x], (I, J, G, fm_P pa pb))) rfl ?_
  refine fm_gb O rfl (fun h => ?_) (fun h => ?_)
  · have h1 : x < 0 := h
    have he := he.trans (if_pos h1)
    refine fm_gr O 1 (C' := (14, [(0, .inl x), (1, .inl mo)], [.inl 0], (I, J, G, fm_P pa pb))) rfl ?_
    exact fm_gRe O rfl (Or.inl rfl) (by first | rw [he] | rfl) (by first | rw [he] | rfl)
  · have h1 : ¬ x < 0 := h
    have he := he.trans (if_neg h1)
    refine fm_gr O 2 (C' := (6, [(0, .inl x), (1, .inl mo)], [.inl mo, .inl x], (I, J, G, fm_P pa pb))) rfl ?_
    refine fm_gb O rfl (fun h => ?_) (fun h => ?_)
    · have h2 : mo < x := h
      have he := he.trans (if_pos h2)
      refine fm_gr O 1 (C' := (14, [(0, .inl x), (1, .inl mo)], [.inl 0], (I, J, G, fm_P pa pb))) rfl ?_
      exact fm_gRe O rfl (Or.inl rfl) (by first | rw [he] | rfl) (by first | rw [he] | rfl)
    · have h2 : ¬ mo < x := h
      have he := he.trans (if_neg h2)
      refine fm_gr O 2 (C' := (14, [(0, .inl x), (1, .inl mo)], [.inl 1], (I, J, G, fm_P pa pb))) rfl ?_
      exact fm_gRe O rfl (Or.inr rfl) (by first | rw [he] | rfl) (by first | rw [he] | rfl)
def fmK_add_f (I : fm_MI) (f : Nat) (op : Int32) (aa : Int32) (rg : Int32) : Int32 × fm_MI :=
  (I 6 f 0, fm_u (fm_u (fm_u (fm_u (fm_u (fm_u (fm_u I 7 f ((I 6 f 0).toNatClampNeg) op) 8 f ((I 6 f 0).toNatClampNeg) aa) 9 f ((I 6 f 0).toNatClampNeg) rg) 10 f ((I 6 f 0).toNatClampNeg) (-1)) 11 f ((I 6 f 0).toNatClampNeg) (-1)) 12 f ((I 6 f 0).toNatClampNeg) (-1)) 6 f 0 ((I 6 f 0) + 1))
theorem fmK_add_e (I : fm_MI) (f : Nat) (op : Int32) (aa : Int32) (rg : Int32) : fmK_add_f I f op aa rg = (I 6 f 0, fm_u (fm_u (fm_u (fm_u (fm_u (fm_u (fm_u I 7 f ((I 6 f 0).toNatClampNeg) op) 8 f ((I 6 f 0).toNatClampNeg) aa) 9 f ((I 6 f 0).toNatClampNeg) rg) 10 f ((I 6 f 0).toNatClampNeg) (-1)) 11 f ((I 6 f 0).toNatClampNeg) (-1)) 12 f ((I 6 f 0).toNatClampNeg) (-1)) 6 f 0 ((I 6 f 0) + 1)) := rfl
def fmK_add_p (I : fm_MI) (f : Nat) : Prop :=
  (vp_in (I 6 f 0) 40) ∧ ((vp_in (I 6 f 0) 40) ∧ ((vp_in (I 6 f 0) 40) ∧ ((vp_in (I 6 f 0) 40) ∧ ((vp_in (I 6 f 0) 40) ∧ (vp_in (I 6 f 0) 40)))))
set_option maxRecDepth 100000 in
set_option maxHeartbeats 4000000 in
theorem fmK_add_c {E : fm_Ev} (hl : E.1.stackTraces = false) {d : Nat} (hd : 0 ≤ d) (I : fm_MI) (J : fm_MJ) (G : fm_MG) (pa : Nat × Nat) (pb : Nat × Nat) (f : Nat) (op : Int32) (aa : Int32) (rg : Int32) (hp : fmK_add_p I f) : fm_Ct E d fmK_add 0 [.inr (.inr (.inr (.inr (6, f)))), .inl op, .inl aa, .inl rg] (I, J, G, fm_P pa pb) (some (.inl ((fmK_add_f I f op aa rg).1))) ((fmK_add_f I f op aa rg).2, J, G, fm_P pa pb) := by
  refine fm_ct fmK_add_o hl (Nat.le_of_ble_eq_true rfl) ?_
  have O := fmK_add_o.1
  unfold fmK_add_p at hp
  have he := fmK_add_e I f op aa rg
  refine fm_gr O 7 (C' := (13, [(4, .inl (I 6 f 0)), (0, .inr (.inr (.inr (.inr (6, f))))), (1, .inl op), (2, .inl aa), (3, .inl rg)], [.inl op, .inl (I 6 f 0), .inr (.inr (.inr (.inr (7, f))))], (I, J, G, fm_P pa pb))) rfl ?_
  refine fm_gg O rfl hp.1 ?_
  have hp := hp.2
  refine fm_gr O 4 (C' := (21, [(4, .inl (I 6 f 0)), (0, .inr (.inr (.inr (.inr (6, f))))), (1, .inl op), (2, .inl aa), (3, .inl rg)], [.inl aa, .inl (I 6 f 0), .inr (.inr (.inr (.inr (8, f))))], (fm_u I 7 f ((I 6 f 0).toNatClampNeg) op, J, G, fm_P pa pb))) rfl ?_
  refine fm_gg O rfl hp.1 ?_
  have hp := hp.2
  refine fm_gr O 4 (C' := (29, [(4, .inl (I 6 f 0)), (0, .inr (.inr (.inr (.inr (6, f))))), (1, .inl op), (2, .inl aa), (3, .inl rg)], [.inl rg, .inl (I 6 f 0), .inr (.inr (.inr (.inr (9, f))))], (fm_u (fm_u I 7 f ((I 6 f 0).toNatClampNeg) op) 8 f ((I 6 f 0).toNatClampNeg) aa, J, G, fm_P pa pb))) rfl ?_
  refine fm_gg O rfl hp.1 ?_
  have hp := hp.2
  refine fm_gr O 4 (C' := (37, [(4, .inl (I 6 f 0)), (0, .inr (.inr (.inr (.inr (6, f))))), (1, .inl op), (2, .inl aa), (3, .inl rg)], [.inl (-1), .inl (I 6 f 0), .inr (.inr (.inr (.inr (10, f))))], (fm_u (fm_u (fm_u I 7 f ((I 6 f 0).toNatClampNeg) op) 8 f ((I 6 f 0).toNatClampNeg) aa) 9 f ((I 6 f 0).toNatClampNeg) rg, J, G, fm_P pa pb))) rfl ?_
  refine fm_gg O rfl hp.1 ?_
  have hp := hp.2
  refine fm_gr O 4 (C' := (45, [(4, .inl (I 6 f 0)), (0, .inr (.inr (.inr (.inr (6, f))))), (1, .inl op), (2, .inl aa), (3, .inl rg)], [.inl (-1), .inl (I 6 f 0), .inr (.inr (.inr (.inr (11, f))))], (fm_u (fm_u (fm_u (fm_u I 7 f ((I 6 f 0).toNatClampNeg) op) 8 f ((I 6 f 0).toNatClampNeg) aa) 9 f ((I 6 f 0).toNatClampNeg) rg) 10 f ((I 6 f 0).toNatClampNeg) (-1), J, G, fm_P pa pb))) rfl ?_
  refine fm_gg O rfl hp.1 ?_
  have hp := hp.2
  refine fm_gr O 4 (C' := (53, [(4, .inl (I 6 f 0)), (0, .inr (.inr (.inr (.inr (6, f))))), (1, .inl op), (2, .inl aa), (3, .inl rg)], [.inl (-1), .inl (I 6 f 0), .inr (.inr (.inr (.inr (12, f))))], (fm_u (fm_u (fm_u (fm_u (fm_u I 7 f ((I 6 f 0).toNatClampNeg) op) 8 f ((I 6 f 0).toNatClampNeg) aa) 9 f ((I 6 f 0).toNatClampNeg) rg) 10 f ((I 6 f 0).toNatClampNeg) (-1)) 11 f ((I 6 f 0).toNatClampNeg) (-1), J, G, fm_P pa pb))) rfl ?_
  refine fm_gg O rfl hp ?_
  refine fm_gr O 7 (C' := (66, [(4, .inl (I 6 f 0)), (0, .inr (.inr (.inr (.inr (6, f))))), (1, .inl op), (2, .inl aa), (3, .inl rg)], [.inl (I 6 f 0)], (fm_u (fm_u (fm_u (fm_u (fm_u (fm_u (fm_u I 7 f ((I 6 f 0).toNatClampNeg) op) 8 f ((I 6 f 0).toNatClampNeg) aa) 9 f ((I 6 f 0).toNatClampNeg) rg) 10 f ((I 6 f 0).toNatClampNeg) (-1)) 11 f ((I 6 f 0).toNatClampNeg) (-1)) 12 f ((I 6 f 0).toNatClampNeg) (-1)) 6 f 0 ((I 6 f 0) + 1), J, G, fm_P pa pb))) rfl ?_
  exact fm_gRe O rfl trivial (by first | rw [he] | rfl) (by first | rw [he] | rfl)
def fmK_sendHere_f (I : fm_MI) (f : Nat) (rw : Int32) : fm_MI :=
  if rw = (-1) then I else (fm_u I 11 f rw.toNatClampNeg (I 6 f 0))
theorem fmK_sendHere_e (I : fm_MI) (f : Nat) (rw : Int32) : fmK_sendHere_f I f rw = if rw = (-1) then I else (fm_u I 11 f rw.toNatClampNeg (I 6 f 0)) := rfl
def fmK_sendHere_p (rw : Int32) : Prop :=
  (rw = (-1) → True) ∧ (¬ rw = (-1) → vp_in rw 40)
set_option maxRecDepth 100000 in
set_option maxHeartbeats 4000000 in
theorem fmK_sendHere_c {E : fm_Ev} (hl : E.1.stackTraces = false) {d : Nat} (hd : 0 ≤ d) (I : fm_MI) (J : fm_MJ) (G : fm_MG) (pa : Nat × Nat) (pb : Nat × Nat) (f : Nat) (rw : Int32) (hp : fmK_sendHere_p rw) : fm_Ct E d fmK_sendHere 0 [.inr (.inr (.inr (.inr (6, f)))), .inl rw] (I, J, G, fm_P pa pb) none (fmK_sendHere_f I f rw, J, G, fm_P pa pb) := by
  refine fm_ct fmK_sendHere_o hl (Nat.le_of_ble_eq_true rfl) ?_
  have O := fmK_sendHere_o.1
  unfold fmK_sendHere_p at hp
  have he := fmK_sendHere_e I f rw
  refine fm_gr O 2 (C' := (2, [(0, .inr (.inr (.inr (.inr (6, f))))), (1, .inl rw)], [.inl (-1), .inl rw], (I, J, G, fm_P pa pb))) rfl ?_
  refine fm_gb O rfl (fun h => ?_) (fun h => ?_)
  · have h1 : rw = (-1) := h
    have he := he.trans (if_pos h1)
    exact fm_gRe O rfl trivial (by first | rw [he] | rfl) (by first | rw [he] | rfl)
  · have h1 : ¬ rw = (-1) := h
    have he := he.trans (if_neg h1)
    have hp := hp.2 h1
    refine fm_gr O 5 (C' := (14, [(0, .inr (.inr (.inr (.inr (6, f))))), (1, .inl rw)], [.inl (I 6 f 0), .inl rw, .inr (.inr (.inr (.inr (11, f))))], (I, J, G, fm_P pa pb))) rfl ?_
    refine fm_gg O rfl hp ?_
    exact fm_gRe O rfl trivial (by first | rw [he] | rfl) (by first | rw [he] | rfl)
def fmR_open_f (I : fm_MI) (i : Nat) (kd : Int32) (gv : Int32) (hg : Int32) (rw : Int32) (lv : Int32) : fm_MI :=
  fm_u (fm_u (fm_u (fm_u (fm_u (fm_u (fm_u I 17 i 0 kd) 17 i 1 gv) 17 i 2 hg) 17 i 3 rw) 17 i 4 (-1)) 17 i 5 lv) 17 i 6 0
theorem fmR_open_e (I : fm_MI) (i : Nat) (kd : Int32) (gv : Int32) (hg : Int32) (rw : Int32) (lv : Int32) : fmR_open_f I i kd gv hg rw lv = fm_u (fm_u (fm_u (fm_u (fm_u (fm_u (fm_u I 17 i 0 kd) 17 i 1 gv) 17 i 2 hg) 17 i 3 rw) 17 i 4 (-1)) 17 i 5 lv) 17 i 6 0 := rfl
def fmR_open_p (lv : Int32) : Prop :=
  lv = 0 ∨ lv = 1
set_option maxRecDepth 100000 in
set_option maxHeartbeats 4000000 in
theorem fmR_open_c {E : fm_Ev} (hl : E.1.stackTraces = false) {d : Nat} (hd : 0 ≤ d) (I : fm_MI) (J : fm_MJ) (G : fm_MG) (pa : Nat × Nat) (pb : Nat × Nat) (i : Nat) (kd : Int32) (gv : Int32) (hg : Int32) (rw : Int32) (lv : Int32) (hp : fmR_open_p lv) : fm_Ct E d fmR_open 0 [.inr (.inr (.inr (.inr (17, i)))), .inl kd, .inl gv, .inl hg, .inl rw, .inl lv] (I, J, G, fm_P pa pb) none (fmR_open_f I i kd gv hg rw lv, J, G, fm_P pa pb) := by
  refine fm_ct fmR_open_o hl (Nat.le_of_ble_eq_true rfl) ?_
  have O := fmR_open_o.1
  unfold fmR_open_p at hp
  have he := fmR_open_e I i kd gv hg rw lv
  refine fm_gr O 17 (C' := (29, [(0, .inr (.inr (.inr (.inr (17, i))))), (1, .inl kd), (2, .inl gv), (3, .inl hg), (4, .inl rw), (5, .inl lv)], [.inl lv, .inr (.inr (.inr (.inr (17, i))))], (fm_u (fm_u (fm_u (fm_u (fm_u I 17 i 0 kd) 17 i 1 gv) 17 i 2 hg) 17 i 3 rw) 17 i 4 (-1), J, G, fm_P pa pb))) rfl ?_
  refine fm_gg O rfl hp ?_
  refine fm_gr O 2 (C' := (34, [(0, .inr (.inr (.inr (.inr (17, i))))), (1, .inl kd), (2, .inl gv), (3, .inl hg), (4, .inl rw), (5, .inl lv)], [.inl 0, .inr (.inr (.inr (.inr (17, i))))], (fm_u (fm_u (fm_u (fm_u (fm_u (fm_u I 17 i 0 kd) 17 i 1 gv) 17 i 2 hg) 17 i 3 rw) 17 i 4 (-1)) 17 i 5 lv, J, G, fm_P pa pb))) rfl ?_
  refine fm_gg O rfl (Or.inl rfl) ?_
  exact fm_gRe O rfl trivial (by first | rw [he] | rfl) (by first | rw [he] | rfl)
def fmR_neededByJump_f (I : fm_MI) (i : Nat) : Int32 :=
  if (I 17 i 0) = 22 then 4 else (I 17 i 1)
theorem fmR_neededByJump_e (I : fm_MI) (i : Nat) : fmR_neededByJump_f I i = if (I 17 i 0) = 22 then 4 else (I 17 i 1) := rfl
set_option maxRecDepth 100000 in
set_option maxHeartbeats 4000000 in
theorem fmR_neededByJump_c {E : fm_Ev} (hl : E.1.stackTraces = false) {d : Nat} (hd : 0 ≤ d) (I : fm_MI) (J : fm_MJ) (G : fm_MG) (pa : Nat × Nat) (pb : Nat × Nat) (i : Nat) : fm_Ct E d fmR_neededByJump 0 [.inr (.inr (.inr (.inr (17, i))))] (I, J, G, fm_P pa pb) (some (.inl (fmR_neededByJump_f I i))) (I, J, G, fm_P pa pb) := by
  refine fm_ct fmR_neededByJump_o hl (Nat.le_of_ble_eq_true rfl) ?_
  have O := fmR_neededByJump_o.1
  have he := fmR_neededByJump_e I i
  refine fm_gr O 3 (C' := (6, [(0, .inr (.inr (.inr (.inr (17, i)))))], [.inl 22, .inl (I 17 i 0)], (I, J, G, fm_P pa pb))) rfl ?_
  refine fm_gb O rfl (fun h => ?_) (fun h => ?_)
  · have h1 : (I 17 i 0) = 22 := h
    have he := he.trans (if_pos h1)
    refine fm_gr O 2 (C' := (17, [(0, .inr (.inr (.inr (.inr (17, i)))))], [.inl 4], (I, J, G, fm_P pa pb))) rfl ?_
    exact fm_gRe O rfl trivial (by first | rw [he] | rfl) (by first | rw [he] | rfl)
  · have h1 : ¬ (I 17 i 0) = 22 := h
    have he := he.trans (if_neg h1)
    refine fm_gr O 2 (C' := (17, [(0, .inr (.inr (.inr (.inr (17, i)))))], [.inl (I 17 i 1)], (I, J, G, fm_P pa pb))) rfl ?_
    exact fm_gRe O rfl trivial (by first | rw [he] | rfl) (by first | rw [he] | rfl)
def fmU_append_f (I : fm_MI) (f : Nat) (op : Int32) (aa : Int32) : fm_MI :=
  fm_u (fm_u (fm_u I 4 f ((I 2 f 4).toNatClampNeg) op) 5 f ((I 2 f 4).toNatClampNeg) aa) 2 f 4 ((I 2 f 4) + 1)
theorem fmU_append_e (I : fm_MI) (f : Nat) (op : Int32) (aa : Int32) : fmU_append_f I f op aa = fm_u (fm_u (fm_u I 4 f ((I 2 f 4).toNatClampNeg) op) 5 f ((I 2 f 4).toNatClampNeg) aa) 2 f 4 ((I 2 f 4) + 1) := rfl
def fmU_append_p (I : fm_MI) (f : Nat) : Prop :=
  (vp_in (I 2 f 4) 40) ∧ (vp_in (I 2 f 4) 40)
set_option maxRecDepth 100000 in
set_option maxHeartbeats 4000000 in
theorem fmU_append_c {E : fm_Ev} (hl : E.1.stackTraces = false) {d : Nat} (hd : 0 ≤ d) (I : fm_MI) (J : fm_MJ) (G : fm_MG) (pa : Nat × Nat) (pb : Nat × Nat) (f : Nat) (op : Int32) (aa : Int32) (hp : fmU_append_p I f) : fm_Ct E d fmU_append 0 [.inr (.inr (.inr (.inr (2, f)))), .inl op, .inl aa] (I, J, G, fm_P pa pb) none (fmU_append_f I f op aa, J, G, fm_P pa pb) := by
  refine fm_ct fmU_append_o hl (Nat.le_of_ble_eq_true rfl) ?_
  have O := fmU_append_o.1
  unfold fmU_append_p at hp
  have he := fmU_append_e I f op aa
  refine fm_gr O 5 (C' := (9, [(0, .inr (.inr (.inr (.inr (2, f))))), (1, .inl op), (2, .inl aa)], [.inl op, .inl (I 2 f 4), .inr (.inr (.inr (.inr (4, f))))], (I, J, G, fm_P pa pb))) rfl ?_
  refine fm_gg O rfl hp.1 ?_
  have hp := hp.2
  refine fm_gr O 5 (C' := (19, [(0, .inr (.inr (.inr (.inr (2, f))))), (1, .inl op), (2, .inl aa)], [.inl aa, .inl (I 2 f 4), .inr (.inr (.inr (.inr (5, f))))], (fm_u I 4 f ((I 2 f 4).toNatClampNeg) op, J, G, fm_P pa pb))) rfl ?_
  refine fm_gg O rfl hp ?_
  refine fm_gr O 6 (C' := (30, [(0, .inr (.inr (.inr (.inr (2, f))))), (1, .inl op), (2, .inl aa)], [], (fm_u (fm_u (fm_u I 4 f ((I 2 f 4).toNatClampNeg) op) 5 f ((I 2 f 4).toNatClampNeg) aa) 2 f 4 ((I 2 f 4) + 1), J, G, fm_P pa pb))) rfl ?_
  exact fm_gRe O rfl trivial (by first | rw [he] | rfl) (by first | rw [he] | rfl)
def fmC_subject_p (I : fm_MI) : Prop :=
  vp_in (I 13 0 1) 4
set_option maxRecDepth 100000 in
set_option maxHeartbeats 4000000 in
theorem fmC_subject_c {E : fm_Ev} (hl : E.1.stackTraces = false) {d : Nat} (hd : 0 ≤ d) (I : fm_MI) (J : fm_MJ) (G : fm_MG) (pb : Nat × Nat) (hp : fmC_subject_p I) : fm_Ct E d fmC_subject 0 [.inr (.inr (.inr (.inr (13, 0))))] (I, J, G, fm_P (1, 0) pb) (some (.inr (.inr (.inr (.inr (2, (I 13 0 1).toNatClampNeg)))))) (I, J, G, fm_P (1, 0) pb) := by
  refine fm_ct fmC_subject_o hl (Nat.le_of_ble_eq_true rfl) ?_
  have O := fmC_subject_o.1
  unfold fmC_subject_p at hp
  have he : True := trivial
  refine fm_gr O 4 (C' := (8, [(0, .inr (.inr (.inr (.inr (13, 0)))))], [.inl (I 13 0 1), .inr (.inr (.inr (.inr (1, 0))))], (I, J, G, fm_P (1, 0) pb))) rfl ?_
  refine fm_gg O rfl hp ?_
  exact fm_gRe O rfl trivial rfl rfl
def fmC_isLive_f (I : fm_MI) : Int32 :=
  if (I 17 ((I 13 0 6).toNatClampNeg) 5) = 0 then 0 else (if (I 17 ((I 13 0 6).toNatClampNeg) 6) = 0 then 1 else 0)
theorem fmC_isLive_e (I : fm_MI) : fmC_isLive_f I = if (I 17 ((I 13 0 6).toNatClampNeg) 5) = 0 then 0 else (if (I 17 ((I 13 0 6).toNatClampNeg) 6) = 0 then 1 else 0) := rfl
def fmC_isLive_p (I : fm_MI) : Prop :=
  (vp_in (I 13 0 6) 9) ∧ (((I 17 ((I 13 0 6).toNatClampNeg) 5) = 0 → True) ∧ (¬ (I 17 ((I 13 0 6).toNatClampNeg) 5) = 0 → vp_in (I 13 0 6) 9))
set_option maxRecDepth 100000 in
set_option maxHeartbeats 4000000 in
theorem fmC_isLive_c {E : fm_Ev} (hl : E.1.stackTraces = false) {d : Nat} (hd : 0 ≤ d) (I : fm_MI) (J : fm_MJ) (G : fm_MG) (pb : Nat × Nat) (hp : fmC_isLive_p I) : fm_Ct E d fmC_isLive 0 [.inr (.inr (.inr (.inr (13, 0))))] (I, J, G, fm_P (1, 0) pb) (some (.inl (fmC_isLive_f I))) (I, J, G, fm_P (1, 0) pb) := by
  refine fm_ct fmC_isLive_o hl (Nat.le_of_ble_eq_true rfl) ?_
  have O := fmC_isLive_o.1
  unfold fmC_isLive_p at hp
  have he := fmC_isLive_e I
  refine fm_gr O 4 (C' := (8, [(0, .inr (.inr (.inr (.inr (13, 0)))))], [.inl (I 13 0 6), .inr (.inr (.inr (.inr (16, 0))))], (I, J, G, fm_P (1, 0) pb))) rfl ?_
  refine fm_gg O rfl hp.1 ?_
  have hp := hp.2
  refine fm_gr O 1 (C' := (12, [(0, .inr (.inr (.inr (.inr (13, 0)))))], [.inl (I 17 ((I 13 0 6).toNatClampNeg) 5)], (I, J, G, fm_P (1, 0) pb))) rfl ?_
  refine fm_gb O rfl (fun h => ?_) (fun h => ?_)
  · have h1 : (I 17 ((I 13 0 6).toNatClampNeg) 5) = 0 := h
    have he := he.trans (if_pos h1)
    refine fm_gr O 1 (C' := (35, [(0, .inr (.inr (.inr (.inr (13, 0)))))], [.inl 0], (I, J, G, fm_P (1, 0) pb))) rfl ?_
    exact fm_gRe O rfl (Or.inl rfl) (by first | rw [he] | rfl) (by first | rw [he] | rfl)
  · have h1 : ¬ (I 17 ((I 13 0 6).toNatClampNeg) 5) = 0 := h
    have he := he.trans (if_neg h1)
    have hp := hp.2 h1
    refine fm_gr O 4 (C' := (23, [(0, .inr (.inr (.inr (.inr (13, 0)))))], [.inl (I 13 0 6), .inr (.inr (.inr (.inr (16, 0))))], (I, J, G, fm_P (1, 0) pb))) rfl ?_
    refine fm_gg O rfl hp ?_
    refine fm_gr O 1 (C' := (27, [(0, .inr (.inr (.inr (.inr (13, 0)))))], [.inl (I 17 ((I 13 0 6).toNatClampNeg) 6)], (I, J, G, fm_P (1, 0) pb))) rfl ?_
    refine fm_gb O rfl (fun h => ?_) (fun h => ?_)
    · have h2 : (I 17 ((I 13 0 6).toNatClampNeg) 6) = 0 := h
      have he := he.trans (if_pos h2)
      refine fm_gr O 2 (C' := (35, [(0, .inr (.inr (.inr (.inr (13, 0)))))], [.inl 1], (I, J, G, fm_P (1, 0) pb))) rfl ?_
      exact fm_gRe O rfl (Or.inr rfl) (by first | rw [he] | rfl) (by first | rw [he] | rfl)
    · have h2 : ¬ (I 17 ((I 13 0 6).toNatClampNeg) 6) = 0 := h
      have he := he.trans (if_neg h2)
      refine fm_gr O 1 (C' := (35, [(0, .inr (.inr (.inr (.inr (13, 0)))))], [.inl 0], (I, J, G, fm_P (1, 0) pb))) rfl ?_
      exact fm_gRe O rfl (Or.inl rfl) (by first | rw [he] | rfl) (by first | rw [he] | rfl)
def fmC_die_f (I : fm_MI) : fm_MI :=
  fm_u (fm_u I 13 0 4 (I 17 ((I 13 0 6).toNatClampNeg) 2)) 17 ((I 13 0 6).toNatClampNeg) 6 1
theorem fmC_die_e (I : fm_MI) : fmC_die_f I = fm_u (fm_u I 13 0 4 (I 17 ((I 13 0 6).toNatClampNeg) 2)) 17 ((I 13 0 6).toNatClampNeg) 6 1 := rfl
def fmC_die_p (I : fm_MI) : Prop :=
  (vp_in (I 13 0 6) 9) ∧ (vp_in (I 13 0 6) 9)
set_option maxRecDepth 100000 in
set_option maxHeartbeats 4000000 in
theorem fmC_die_c {E : fm_Ev} (hl : E.1.stackTraces = false) {d : Nat} (hd : 0 ≤ d) (I : fm_MI) (J : fm_MJ) (G : fm_MG) (pb : Nat × Nat) (hp : fmC_die_p I) : fm_Ct E d fmC_die 0 [.inr (.inr (.inr (.inr (13, 0))))] (I, J, G, fm_P (1, 0) pb) none (fmC_die_f I, J, G, fm_P (1, 0) pb) := by
  refine fm_ct fmC_die_o hl (Nat.le_of_ble_eq_true rfl) ?_
  have O := fmC_die_o.1
  unfold fmC_die_p at hp
  have he := fmC_die_e I
  refine fm_gr O 5 (C' := (9, [(0, .inr (.inr (.inr (.inr (13, 0)))))], [.inl (I 13 0 6), .inr (.inr (.inr (.inr (16, 0)))), .inr (.inr (.inr (.inr (13, 0))))], (I, J, G, fm_P (1, 0) pb))) rfl ?_
  refine fm_gg O rfl hp.1 ?_
  have hp := hp.2
  refine fm_gr O 6 (C' := (24, [(0, .inr (.inr (.inr (.inr (13, 0)))))], [.inl (I 13 0 6), .inr (.inr (.inr (.inr (16, 0))))], (fm_u I 13 0 4 (I 17 ((I 13 0 6).toNatClampNeg) 2), J, G, fm_P (1, 0) pb))) rfl ?_
  refine fm_gg O rfl hp ?_
  refine fm_gr O 1 (C' := (26, [(0, .inr (.inr (.inr (.inr (13, 0)))))], [.inl 1, .inr (.inr (.inr (.inr (17, (I 13 0 6).toNatClampNeg))))], (fm_u I 13 0 4 (I 17 ((I 13 0 6).toNatClampNeg) 2), J, G, fm_P (1, 0) pb))) rfl ?_
  refine fm_gg O rfl (Or.inr rfl) ?_
  exact fm_gRe O rfl trivial (by first | rw [he] | rfl) (by first | rw [he] | rfl)
def fmC_take_f (I : fm_MI) (w : Int32) : Int32 × fm_MI :=
  if (I 13 0 2) = 0 then (if w = 4 then ((w, I)) else (if (I 13 0 4) = (I 17 ((I 13 0 6).toNatClampNeg) 2) then (if (I 17 ((I 13 0 6).toNatClampNeg) 6) = 0 then ((w, fm_u I 13 0 2 2)) else ((w, I))) else (if (I 15 0 (((I 13 0 4) - 1).toNatClampNeg)) = 5 then ((w, fm_u I 13 0 4 ((I 13 0 4) - 1))) else (if w = 5 then ((I 15 0 (((I 13 0 4) - 1).toNatClampNeg), fm_u I 13 0 4 ((I 13 0 4) - 1))) else (if w = (I 15 0 (((I 13 0 4) - 1).toNatClampNeg)) then ((I 15 0 (((I 13 0 4) - 1).toNatClampNeg), fm_u I 13 0 4 ((I 13 0 4) - 1))) else ((I 15 0 (((I 13 0 4) - 1).toNatClampNeg), fm_u (fm_u I 13 0 4 ((I 13 0 4) - 1)) 13 0 2 3))))))) else ((w, I))
theorem fmC_take_e (I : fm_MI) (w : Int32) : fmC_take_f I w = if (I 13 0 2) = 0 then (if w = 4 then ((w, I)) else (if (I 13 0 4) = (I 17 ((I 13 0 6).toNatClampNeg) 2) then (if (I 17 ((I 13 0 6).toNatClampNeg) 6) = 0 then ((w, fm_u I 13 0 2 2)) else ((w, I))) else (if (I 15 0 (((I 13 0 4) - 1).toNatClampNeg)) = 5 then ((w, fm_u I 13 0 4 ((I 13 0 4) - 1))) else (if w = 5 then ((I 15 0 (((I 13 0 4) - 1).toNatClampNeg), fm_u I 13 0 4 ((I 13 0 4) - 1))) else (if w = (I 15 0 (((I 13 0 4) - 1).toNatClampNeg)) then ((I 15 0 (((I 13 0 4) - 1).toNatClampNeg), fm_u I 13 0 4 ((I 13 0 4) - 1))) else ((I 15 0 (((I 13 0 4) - 1).toNatClampNeg), fm_u (fm_u I 13 0 4 ((I 13 0 4) - 1)) 13 0 2 3))))))) else ((w, I)) := rfl
def fmC_take_p (I : fm_MI) (w : Int32) : Prop :=
  ((I 13 0 2) = 0 → (w = 4 → True) ∧ (¬ w = 4 → (vp_in (I 13 0 6) 9) ∧ (((I 13 0 4) = (I 17 ((I 13 0 6).toNatClampNeg) 2) → vp_in (I 13 0 6) 9) ∧ (¬ (I 13 0 4) = (I 17 ((I 13 0 6).toNatClampNeg) 2) → vp_in ((I 13 0 4) - 1) 20)))) ∧ (¬ (I 13 0 2) = 0 → True)
set_option maxRecDepth 100000 in
set_option maxHeartbeats 4000000 in
theorem fmC_take_c {E : fm_Ev} (hl : E.1.stackTraces = false) {d : Nat} (hd : 0 ≤ d) (I : fm_MI) (J : fm_MJ) (G : fm_MG) (pb : Nat × Nat) (w : Int32) (hp : fmC_take_p I w) : fm_Ct E d fmC_take 0 [.inr (.inr (.inr (.inr (13, 0)))), .inl w] (I, J, G, fm_P (1, 0) pb) (some (.inl ((fmC_take_f I w).1))) ((fmC_take_f I w).2, J, G, fm_P (1, 0) pb) := by
  refine fm_ct fmC_take_o hl (Nat.le_of_ble_eq_true rfl) ?_
  have O := fmC_take_o.1
  unfold fmC_take_p at hp
  have he := fmC_take_e I w
  refine fm_gr O 2 (C' := (4, [(0, .inr (.inr (.inr (.inr (13, 0))))), (1, .inl w)], [.inl (I 13 0 2)], (I, J, G, fm_P (1, 0) pb))) rfl ?_
  refine fm_gb O rfl (fun h => ?_) (fun h => ?_)
  · have h1 : (I 13 0 2) = 0 := h
    have he := he.trans (if_pos h1)
    have hp := hp.1 h1
    refine fm_gr O 2 (C' := (9, [(0, .inr (.inr (.inr (.inr (13, 0))))), (1, .inl w)], [.inl 4, .inl w], (I, J, G, fm_P (1, 0) pb))) rfl ?_
    refine fm_gb O rfl (fun h => ?_) (fun h => ?_)
    · have h2 : w = 4 := h
      have he := he.trans (if_pos h2)
      refine fm_gr O 1 (C' := (13, [(0, .inr (.inr (.inr (.inr (13, 0))))), (1, .inl w)], [.inl w], (I, J, G, fm_P (1, 0) pb))) rfl ?_
      exact fm_gRe O rfl trivial (by first | rw [he] | rfl) (by first | rw [he] | rfl)
    · have h2 : ¬ w = 4 := h
      have he := he.trans (if_neg h2)
      have hp := hp.2 h2
      refine fm_gr O 6 (C' := (26, [(0, .inr (.inr (.inr (.inr (13, 0))))), (1, .inl w)], [.inl (I 13 0 6), .inr (.inr (.inr (.inr (16, 0)))), .inl (I 13 0 4)], (I, J, G, fm_P (1, 0) pb))) rfl ?_
      refine fm_gg O rfl hp.1 ?_
      have hp := hp.2
      refine fm_gr O 1 (C' := (30, [(0, .inr (.inr (.inr (.inr (13, 0))))), (1, .inl w)], [.inl (I 17 ((I 13 0 6).toNatClampNeg) 2), .inl (I 13 0 4)], (I, J, G, fm_P (1, 0) pb))) rfl ?_
      refine fm_gb O rfl (fun h => ?_) (fun h => ?_)
      · have h3 : (I 13 0 4) = (I 17 ((I 13 0 6).toNatClampNeg) 2) := h
        have he := he.trans (if_pos h3)
        have hp := hp.1 h3
        refine fm_gr O 4 (C' := (41, [(0, .inr (.inr (.inr (.inr (13, 0))))), (1, .inl w)], [.inl (I 13 0 6), .inr (.inr (.inr (.inr (16, 0))))], (I, J, G, fm_P (1, 0) pb))) rfl ?_
        refine fm_gg O rfl hp ?_
        refine fm_gr O 1 (C' := (45, [(0, .inr (.inr (.inr (.inr (13, 0))))), (1, .inl w)], [.inl (I 17 ((I 13 0 6).toNatClampNeg) 6)], (I, J, G, fm_P (1, 0) pb))) rfl ?_
        refine fm_gb O rfl (fun h => ?_) (fun h => ?_)
        · have h4 : (I 17 ((I 13 0 6).toNatClampNeg) 6) = 0 := h
          have he := he.trans (if_pos h4)
          refine fm_gr O 4 (C' := (54, [(0, .inr (.inr (.inr (.inr (13, 0))))), (1, .inl w)], [.inl w], (fm_u I 13 0 2 2, J, G, fm_P (1, 0) pb))) rfl ?_
          exact fm_gRe O rfl trivial (by first | rw [he] | rfl) (by first | rw [he] | rfl)
        · have h4 : ¬ (I 17 ((I 13 0 6).toNatClampNeg) 6) = 0 := h
          have he := he.trans (if_neg h4)
          refine fm_gr O 1 (C' := (54, [(0, .inr (.inr (.inr (.inr (13, 0))))), (1, .inl w)], [.inl w], (I, J, G, fm_P (1, 0) pb))) rfl ?_
          exact fm_gRe O rfl trivial (by first | rw [he] | rfl) (by first | rw [he] | rfl)
      · have h3 : ¬ (I 13 0 4) = (I 17 ((I 13 0 6).toNatClampNeg) 2) := h
        have he := he.trans (if_neg h3)
        have hp := hp.2 h3
        refine fm_gr O 10 (C' := (73, [(0, .inr (.inr (.inr (.inr (13, 0))))), (1, .inl w)], [.inl ((I 13 0 4) - 1), .inr (.inr (.inr (.inr (15, 0))))], (fm_u I 13 0 4 ((I 13 0 4) - 1), J, G, fm_P (1, 0) pb))) rfl ?_
        refine fm_gg O rfl hp ?_
        refine fm_gr O 3 (C' := (77, [(2, .inl (I 15 0 (((I 13 0 4) - 1).toNatClampNeg))), (0, .inr (.inr (.inr (.inr (13, 0))))), (1, .inl w)], [.inl 5, .inl (I 15 0 (((I 13 0 4) - 1).toNatClampNeg))], (fm_u I 13 0 4 ((I 13 0 4) - 1), J, G, fm_P (1, 0) pb))) rfl ?_
        refine fm_gb O rfl (fun h => ?_) (fun h => ?_)
        · have h4 : (I 15 0 (((I 13 0 4) - 1).toNatClampNeg)) = 5 := h
          have he := he.trans (if_pos h4)
          refine fm_gr O 1 (C' := (81, [(2, .inl (I 15 0 (((I 13 0 4) - 1).toNatClampNeg))), (0, .inr (.inr (.inr (.inr (13, 0))))), (1, .inl w)], [.inl w], (fm_u I 13 0 4 ((I 13 0 4) - 1), J, G, fm_P (1, 0) pb))) rfl ?_
          exact fm_gRe O rfl trivial (by first | rw [he] | rfl) (by first | rw [he] | rfl)
        · have h4 : ¬ (I 15 0 (((I 13 0 4) - 1).toNatClampNeg)) = 5 := h
          have he := he.trans (if_neg h4)
          refine fm_gr O 2 (C' := (84, [(2, .inl (I 15 0 (((I 13 0 4) - 1).toNatClampNeg))), (0, .inr (.inr (.inr (.inr (13, 0))))), (1, .inl w)], [.inl 5, .inl w], (fm_u I 13 0 4 ((I 13 0 4) - 1), J, G, fm_P (1, 0) pb))) rfl ?_
          refine fm_gb O rfl (fun h => ?_) (fun h => ?_)
          · have h5 : w = 5 := h
            have he := he.trans (if_pos h5)
            refine fm_gr O 1 (C' := (98, [(2, .inl (I 15 0 (((I 13 0 4) - 1).toNatClampNeg))), (0, .inr (.inr (.inr (.inr (13, 0))))), (1, .inl w)], [.inl (I 15 0 (((I 13 0 4) - 1).toNatClampNeg))], (fm_u I 13 0 4 ((I 13 0 4) - 1), J, G, fm_P (1, 0) pb))) rfl ?_
            exact fm_gRe O rfl trivial (by first | rw [he] | rfl) (by first | rw [he] | rfl)
          · have h5 : ¬ w = 5 := h
            have he := he.trans (if_neg h5)
            refine fm_gr O 2 (C' := (89, [(2, .inl (I 15 0 (((I 13 0 4) - 1).toNatClampNeg))), (0, .inr (.inr (.inr (.inr (13, 0))))), (1, .inl w)], [.inl (I 15 0 (((I 13 0 4) - 1).toNatClampNeg)), .inl w], (fm_u I 13 0 4 ((I 13 0 4) - 1), J, G, fm_P (1, 0) pb))) rfl ?_
            refine fm_gb O rfl (fun h => ?_) (fun h => ?_)
            · have h6 : w = (I 15 0 (((I 13 0 4) - 1).toNatClampNeg)) := h
              have he := he.trans (if_pos h6)
              refine fm_gr O 1 (C' := (98, [(2, .inl (I 15 0 (((I 13 0 4) - 1).toNatClampNeg))), (0, .inr (.inr (.inr (.inr (13, 0))))), (1, .inl w)], [.inl (I 15 0 (((I 13 0 4) - 1).toNatClampNeg))], (fm_u I 13 0 4 ((I 13 0 4) - 1), J, G, fm_P (1, 0) pb))) rfl ?_
              exact fm_gRe O rfl trivial (by first | rw [he] | rfl) (by first | rw [he] | rfl)
            · have h6 : ¬ w = (I 15 0 (((I 13 0 4) - 1).toNatClampNeg)) := h
              have he := he.trans (if_neg h6)
              refine fm_gr O 4 (C' := (98, [(2, .inl (I 15 0 (((I 13 0 4) - 1).toNatClampNeg))), (0, .inr (.inr (.inr (.inr (13, 0))))), (1, .inl w)], [.inl (I 15 0 (((I 13 0 4) - 1).toNatClampNeg))], (fm_u (fm_u I 13 0 4 ((I 13 0 4) - 1)) 13 0 2 3, J, G, fm_P (1, 0) pb))) rfl ?_
              exact fm_gRe O rfl trivial (by first | rw [he] | rfl) (by first | rw [he] | rfl)
  · have h1 : ¬ (I 13 0 2) = 0 := h
    have he := he.trans (if_neg h1)
    refine fm_gr O 1 (C' := (13, [(0, .inr (.inr (.inr (.inr (13, 0))))), (1, .inl w)], [.inl w], (I, J, G, fm_P (1, 0) pb))) rfl ?_
    exact fm_gRe O rfl trivial (by first | rw [he] | rfl) (by first | rw [he] | rfl)
def fmC_put_f (I : fm_MI) (t : Int32) : fm_MI :=
  if (I 13 0 2) = 0 then (if t = 4 then I else (if (I 13 0 4) = 20 then (fm_u I 13 0 2 7) else (fm_u (fm_u I 15 0 ((I 13 0 4).toNatClampNeg) t) 13 0 4 ((I 13 0 4) + 1)))) else I
theorem fmC_put_e (I : fm_MI) (t : Int32) : fmC_put_f I t = if (I 13 0 2) = 0 then (if t = 4 then I else (if (I 13 0 4) = 20 then (fm_u I 13 0 2 7) else (fm_u (fm_u I 15 0 ((I 13 0 4).toNatClampNeg) t) 13 0 4 ((I 13 0 4) + 1)))) else I := rfl
def fmC_put_p (I : fm_MI) (t : Int32) : Prop :=
  ((I 13 0 2) = 0 → (t = 4 → True) ∧ (¬ t = 4 → ((I 13 0 4) = 20 → True) ∧ (¬ (I 13 0 4) = 20 → vp_in (I 13 0 4) 20))) ∧ (¬ (I 13 0 2) = 0 → True)
set_option maxRecDepth 100000 in
set_option maxHeartbeats 4000000 in
theorem fmC_put_c {E : fm_Ev} (hl : E.1.stackTraces = false) {d : Nat} (hd : 0 ≤ d) (I : fm_MI) (J : fm_MJ) (G : fm_MG) (pb : Nat × Nat) (t : Int32) (hp : fmC_put_p I t) : fm_Ct E d fmC_put 0 [.inr (.inr (.inr (.inr (13, 0)))), .inl t] (I, J, G, fm_P (1, 0) pb) none (fmC_put_f I t, J, G, fm_P (1, 0) pb) := by
  refine fm_ct fmC_put_o hl (Nat.le_of_ble_eq_true rfl) ?_
  have O := fmC_put_o.1
  unfold fmC_put_p at hp
  have he := fmC_put_e I t
  refine fm_gr O 2 (C' := (4, [(0, .inr (.inr (.inr (.inr (13, 0))))), (1, .inl t)], [.inl (I 13 0 2)], (I, J, G, fm_P (1, 0) pb))) rfl ?_
  refine fm_gb O rfl (fun h => ?_) (fun h => ?_)
  · have h1 : (I 13 0 2) = 0 := h
    have he := he.trans (if_pos h1)
    have hp := hp.1 h1
    refine fm_gr O 2 (C' := (9, [(0, .inr (.inr (.inr (.inr (13, 0))))), (1, .inl t)], [.inl 4, .inl t], (I, J, G, fm_P (1, 0) pb))) rfl ?_
    refine fm_gb O rfl (fun h => ?_) (fun h => ?_)
    · have h2 : t = 4 := h
      have he := he.trans (if_pos h2)
      exact fm_gRe O rfl trivial (by first | rw [he] | rfl) (by first | rw [he] | rfl)
    · have h2 : ¬ t = 4 := h
      have he := he.trans (if_neg h2)
      have hp := hp.2 h2
      refine fm_gr O 3 (C' := (19, [(0, .inr (.inr (.inr (.inr (13, 0))))), (1, .inl t)], [.inl 20, .inl (I 13 0 4)], (I, J, G, fm_P (1, 0) pb))) rfl ?_
      refine fm_gb O rfl (fun h => ?_) (fun h => ?_)
      · have h3 : (I 13 0 4) = 20 := h
        have he := he.trans (if_pos h3)
        refine fm_gr O 3 (C' := (28, [(0, .inr (.inr (.inr (.inr (13, 0))))), (1, .inl t)], [], (fm_u I 13 0 2 7, J, G, fm_P (1, 0) pb))) rfl ?_
        exact fm_gRe O rfl trivial (by first | rw [he] | rfl) (by first | rw [he] | rfl)
      · have h3 : ¬ (I 13 0 4) = 20 := h
        have he := he.trans (if_neg h3)
        have hp := hp.2 h3
        refine fm_gr O 5 (C' := (38, [(0, .inr (.inr (.inr (.inr (13, 0))))), (1, .inl t)], [.inl t, .inl (I 13 0 4), .inr (.inr (.inr (.inr (15, 0))))], (I, J, G, fm_P (1, 0) pb))) rfl ?_
        refine fm_gg O rfl hp ?_
        refine fm_gr O 6 (C' := (49, [(0, .inr (.inr (.inr (.inr (13, 0))))), (1, .inl t)], [], (fm_u (fm_u I 15 0 ((I 13 0 4).toNatClampNeg) t) 13 0 4 ((I 13 0 4) + 1), J, G, fm_P (1, 0) pb))) rfl ?_
        exact fm_gRe O rfl trivial (by first | rw [he] | rfl) (by first | rw [he] | rfl)
  · have h1 : ¬ (I 13 0 2) = 0 := h
    have he := he.trans (if_neg h1)
    exact fm_gRe O rfl trivial (by first | rw [he] | rfl) (by first | rw [he] | rfl)
def fmC_addRow_f (I : fm_MI) (op : Int32) (aa : Int32) : Int32 × fm_MI :=
  fm_let (fmC_isLive_f I) (fun (r1 : Int32) => if r1 = 0 then ((-1, I)) else (fm_let (fmK_add_f I ((I 13 0 1).toNatClampNeg) op aa ((I 2 ((I 13 0 1).toNatClampNeg) 2) + (I 13 0 4))) (fun (r2 : Int32 × fm_MI) => (r2.1, r2.2))))
theorem fmC_addRow_e (I : fm_MI) (op : Int32) (aa : Int32) : fmC_addRow_f I op aa = fm_let (fmC_isLive_f I) (fun (r1 : Int32) => if r1 = 0 then ((-1, I)) else (fm_let (fmK_add_f I ((I 13 0 1).toNatClampNeg) op aa ((I 2 ((I 13 0 1).toNatClampNeg) 2) + (I 13 0 4))) (fun (r2 : Int32 × fm_MI) => (r2.1, r2.2)))) := rfl
def fmC_addRow_p (I : fm_MI) : Prop :=
  fmC_isLive_p I ∧ (fm_let (fmC_isLive_f I) (fun (r1 : Int32) => (r1 = 0 → True) ∧ (¬ r1 = 0 → fmC_subject_p I ∧ (fmC_subject_p I ∧ (fmK_add_p I ((I 13 0 1).toNatClampNeg))))))
set_option maxRecDepth 100000 in
set_option maxHeartbeats 4000000 in
theorem fmC_addRow_c {E : fm_Ev} (hl : E.1.stackTraces = false) {d : Nat} (hd : 1 ≤ d) (I : fm_MI) (J : fm_MJ) (G : fm_MG) (pb : Nat × Nat) (op : Int32) (aa : Int32) (hp : fmC_addRow_p I) : fm_Ct E d fmC_addRow 0 [.inr (.inr (.inr (.inr (13, 0)))), .inl op, .inl aa] (I, J, G, fm_P (1, 0) pb) (some (.inl ((fmC_addRow_f I op aa).1))) ((fmC_addRow_f I op aa).2, J, G, fm_P (1, 0) pb) := by
  obtain ⟨d, rfl⟩ : ∃ d', d = d' + 1 := ⟨d - 1, by omega⟩
  refine fm_ct fmC_addRow_o hl (Nat.le_of_ble_eq_true rfl) ?_
  have O := fmC_addRow_o.1
  unfold fmC_addRow_p at hp
  have he := fmC_addRow_e I op aa
  refine fm_gr O 1 (C' := (1, [(0, .inr (.inr (.inr (.inr (13, 0))))), (1, .inl op), (2, .inl aa)], [.inr (.inr (.inr (.inr (13, 0))))], (I, J, G, fm_P (1, 0) pb))) rfl ?_
  have hc := hp.1
  have hp := hp.2
  have K := fmC_isLive_c (d := d) hl (by omega) I J G pb hc
  generalize er1 : fmC_isLive_f I = r1 at he hp
  have he := he.trans (fm_letE _ _)
  have hp := fm_letP hp
  rw [er1] at K
  refine fm_cV0 O fmC_isLive_o (i := 0) (as := []) (rest := []) (v := some (.inl r1)) rfl fk_1_125 rfl (by decide) fn_C_isLive (Nat.le_of_ble_eq_true rfl) (K) ?_
  refine fm_gb O rfl (fun h => ?_) (fun h => ?_)
  · have h1 : r1 = 0 := h
    have he := he.trans (if_pos h1)
    refine fm_gr O 1 (C' := (35, [(0, .inr (.inr (.inr (.inr (13, 0))))), (1, .inl op), (2, .inl aa)], [.inl (-1)], (I, J, G, fm_P (1, 0) pb))) rfl ?_
    exact fm_gRe O rfl trivial (by first | rw [he] | rfl) (by first | rw [he] | rfl)
  · have h1 : ¬ r1 = 0 := h
    have he := he.trans (if_neg h1)
    have hp := hp.2 h1
    refine fm_gr O 1 (C' := (8, [(0, .inr (.inr (.inr (.inr (13, 0))))), (1, .inl op), (2, .inl aa)], [.inr (.inr (.inr (.inr (13, 0))))], (I, J, G, fm_P (1, 0) pb))) rfl ?_
    have hc := hp.1
    have hp := hp.2
    have K := fmC_subject_c (d := d) hl (by omega) I J G pb hc
    refine fm_cV0 O fmC_subject_o (i := 0) (as := []) (rest := []) (v := some (.inr (.inr (.inr (.inr (2, (I 13 0 1).toNatClampNeg)))))) rfl fk_1_41 rfl (by decide) fn_C_subject (Nat.le_of_ble_eq_true rfl) (K) ?_
    refine fm_gr O 4 (C' := (17, [(0, .inr (.inr (.inr (.inr (13, 0))))), (1, .inl op), (2, .inl aa)], [.inr (.inr (.inr (.inr (13, 0)))), .inl aa, .inl op, .inr (.inr (.inr (.inr (6, (I 13 0 1).toNatClampNeg))))], (I, J, G, fm_P (1, 0) pb))) rfl ?_
    have hc := hp.1
    have hp := hp.2
    have K := fmC_subject_c (d := d) hl (by omega) I J G pb hc
    refine fm_cV0 O fmC_subject_o (i := 0) (as := []) (rest := [.inl aa, .inl op, .inr (.inr (.inr (.inr (6, (I 13 0 1).toNatClampNeg))))]) (v := some (.inr (.inr (.inr (.inr (2, (I 13 0 1).toNatClampNeg)))))) rfl fk_1_41 rfl (by decide) fn_C_subject (Nat.le_of_ble_eq_true rfl) (K) ?_
    refine fm_gr O 4 (C' := (28, [(0, .inr (.inr (.inr (.inr (13, 0))))), (1, .inl op), (2, .inl aa)], [.inl ((I 2 ((I 13 0 1).toNatClampNeg) 2) + (I 13 0 4)), .inl aa, .inl op, .inr (.inr (.inr (.inr (6, (I 13 0 1).toNatClampNeg))))], (I, J, G, fm_P (1, 0) pb))) rfl ?_
    have K := fmK_add_c (d := d) hl (by omega) I J G ((1, 0)) pb ((I 13 0 1).toNatClampNeg) op aa ((I 2 ((I 13 0 1).toNatClampNeg) 2) + (I 13 0 4)) hp
    generalize er2 : fmK_add_f I ((I 13 0 1).toNatClampNeg) op aa ((I 2 ((I 13 0 1).toNatClampNeg) 2) + (I 13 0 4)) = r2 at he
    have he := he.trans (fm_letE _ _)
    rw [er2] at K
    refine fm_cV0 O fmK_add_o (i := (I 13 0 1).toNatClampNeg) (as := [.inl op, .inl aa, .inl ((I 2 ((I 13 0 1).toNatClampNeg) 2) + (I 13 0 4))]) (rest := []) (v := some (.inl r2.1)) rfl fk_1_181 rfl (by decide) fn_K_add (Nat.le_of_ble_eq_true rfl) (K) ?_
    refine fm_gr O 1 (C' := (35, [(0, .inr (.inr (.inr (.inr (13, 0))))), (1, .inl op), (2, .inl aa)], [.inl r2.1], (r2.2, J, G, fm_P (1, 0) pb))) rfl ?_
    exact fm_gRe O rfl trivial (by first | rw [he] | rfl) (by first | rw [he] | rfl)
end
section
/-! THE CHECKER, by program (wip/tools/walk.py, gen_c2.py) -/
def fmK_sendHereAllFor_L2_f : Nat → fm_MI → fm_MJ → fm_MG → (Nat × Nat) → (Nat × Nat) → Nat → Int32 → Int32 → fm_MI
  | 0, I, J, G, pa, pb, y0, y1, y2 => I
  | n + 1, I, J, G, pa, pb, y0, y1, y2 => if (I 6 y0 0) ≤ y2 then I else (if (I 12 y0 y2.toNatClampNeg) = y1 then (fmK_sendHereAllFor_L2_f n (fm_u (fm_u I 11 y0 y2.toNatClampNeg (I 6 y0 0)) 12 y0 y2.toNatClampNeg (-1)) J G pa pb y0 y1 (y2 + 1)) else (fmK_sendHereAllFor_L2_f n I J G pa pb y0 y1 (y2 + 1)))
theorem fmK_sendHereAllFor_L2_e (n : Nat) (I : fm_MI) (J : fm_MJ) (G : fm_MG) (pa : Nat × Nat) (pb : Nat × Nat) (y0 : Nat) (y1 : Int32) (y2 : Int32) : fmK_sendHereAllFor_L2_f (n + 1) I J G pa pb y0 y1 y2 = if (I 6 y0 0) ≤ y2 then I else (if (I 12 y0 y2.toNatClampNeg) = y1 then (fmK_sendHereAllFor_L2_f n (fm_u (fm_u I 11 y0 y2.toNatClampNeg (I 6 y0 0)) 12 y0 y2.toNatClampNeg (-1)) J G pa pb y0 y1 (y2 + 1)) else (fmK_sendHereAllFor_L2_f n I J G pa pb y0 y1 (y2 + 1))) := rfl
def fmK_sendHereAllFor_L2_p : Nat → fm_MI → fm_MJ → fm_MG → (Nat × Nat) → (Nat × Nat) → Nat → Int32 → Int32 → Prop
  | 0, I, J, G, pa, pb, y0, y1, y2 => False
  | n + 1, I, J, G, pa, pb, y0, y1, y2 => ((I 6 y0 0) ≤ y2 → True) ∧ (¬ (I 6 y0 0) ≤ y2 → (vp_in y2 40) ∧ (((I 12 y0 y2.toNatClampNeg) = y1 → (vp_in y2 40) ∧ ((vp_in y2 40) ∧ (fmK_sendHereAllFor_L2_p n (fm_u (fm_u I 11 y0 y2.toNatClampNeg (I 6 y0 0)) 12 y0 y2.toNatClampNeg (-1)) J G pa pb y0 y1 (y2 + 1)))) ∧ (¬ (I 12 y0 y2.toNatClampNeg) = y1 → fmK_sendHereAllFor_L2_p n I J G pa pb y0 y1 (y2 + 1))))
theorem fmK_sendHereAllFor_L2_q (n : Nat) (I : fm_MI) (J : fm_MJ) (G : fm_MG) (pa : Nat × Nat) (pb : Nat × Nat) (y0 : Nat) (y1 : Int32) (y2 : Int32) : fmK_sendHereAllFor_L2_p (n + 1) I J G pa pb y0 y1 y2 = (((I 6 y0 0) ≤ y2 → True) ∧ (¬ (I 6 y0 0) ≤ y2 → (vp_in y2 40) ∧ (((I 12 y0 y2.toNatClampNeg) = y1 → (vp_in y2 40) ∧ ((vp_in y2 40) ∧ (fmK_sendHereAllFor_L2_p n (fm_u (fm_u I 11 y0 y2.toNatClampNeg (I 6 y0 0)) 12 y0 y2.toNatClampNeg (-1)) J G pa pb y0 y1 (y2 + 1)))) ∧ (¬ (I 12 y0 y2.toNatClampNeg) = y1 → fmK_sendHereAllFor_L2_p n I J G pa pb y0 y1 (y2 + 1))))) := rfl
set_option maxRecDepth 100000 in
set_option maxHeartbeats 4000000 in
theorem fmK_sendHereAllFor_L2_c {E : fm_Ev} (hl : E.1.stackTraces = false) {d : Nat} (hd : 0 ≤ d) (n : Nat) : ∀ (I : fm_MI) (J : fm_MJ) (G : fm_MG) (pa : Nat × Nat) (pb : Nat × Nat) (y0 : Nat) (y1 : Int32) (y2 : Int32), fmK_sendHereAllFor_L2_p n I J G pa pb y0 y1 y2 → fm_Go E (d) fmK_sendHereAllFor 0 (2, [(0, .inr (.inr (.inr (.inr (6, y0))))), (1, .inl y1), (2, .inl y2)], [], (I, J, G, fm_P pa pb)) (fm_Zr E none (fmK_sendHereAllFor_L2_f n I J G pa pb y0 y1 y2, J, G, fm_P pa pb)) := by
  have O := fmK_sendHereAllFor_o.1
  induction n with
  | zero => intro I J G pa pb y0 y1 y2 hp; exact hp.elim
  | succ n ih =>
    intro I J G pa pb y0 y1 y2 hp
    rw [fmK_sendHereAllFor_L2_q] at hp
    have he := fmK_sendHereAllFor_L2_e n I J G pa pb y0 y1 y2
    refine fm_gr O 3 (C' := (7, [(0, .inr (.inr (.inr (.inr (6, y0))))), (1, .inl y1), (2, .inl y2)], [.inl (I 6 y0 0), .inl y2], (I, J, G, fm_P pa pb))) rfl ?_
    refine fm_gb O rfl (fun h => ?_) (fun h => ?_)
    · have h1 : (I 6 y0 0) ≤ y2 := h
      have he := he.trans (if_pos h1)
      exact fm_gRe O rfl trivial (by first | rw [he] | rfl) (by first | rw [he] | rfl)
    · have h1 : ¬ (I 6 y0 0) ≤ y2 := h
      have he := he.trans (if_neg h1)
      have hp := hp.2 h1
      refine fm_gr O 3 (C' := (15, [(0, .inr (.inr (.inr (.inr (6, y0))))), (1, .inl y1), (2, .inl y2)], [.inl y2, .inr (.inr (.inr (.inr (12, y0))))], (I, J, G, fm_P pa pb))) rfl ?_
      refine fm_gg O rfl hp.1 ?_
      have hp := hp.2
      refine fm_gr O 1 (C' := (17, [(0, .inr (.inr (.inr (.inr (6, y0))))), (1, .inl y1), (2, .inl y2)], [.inl y1, .inl (I 12 y0 y2.toNatClampNeg)], (I, J, G, fm_P pa pb))) rfl ?_
      refine fm_gb O rfl (fun h => ?_) (fun h => ?_)
      · have h2 : (I 12 y0 y2.toNatClampNeg) = y1 := h
        have he := he.trans (if_pos h2)
        have hp := hp.1 h2
        refine fm_gr O 5 (C' := (29, [(0, .inr (.inr (.inr (.inr (6, y0))))), (1, .inl y1), (2, .inl y2)], [.inl (I 6 y0 0), .inl y2, .inr (.inr (.inr (.inr (11, y0))))], (I, J, G, fm_P pa pb))) rfl ?_
        refine fm_gg O rfl hp.1 ?_
        have hp := hp.2
        refine fm_gr O 4 (C' := (36, [(0, .inr (.inr (.inr (.inr (6, y0))))), (1, .inl y1), (2, .inl y2)], [.inl (-1), .inl y2, .inr (.inr (.inr (.inr (12, y0))))], (fm_u I 11 y0 y2.toNatClampNeg (I 6 y0 0), J, G, fm_P pa pb))) rfl ?_
        refine fm_gg O rfl hp.1 ?_
        have hp := hp.2
        refine fm_gr O 2 (C' := (2, [(2, .inl (y2 + 1)), (0, .inr (.inr (.inr (.inr (6, y0))))), (1, .inl y1)], [], (fm_u (fm_u I 11 y0 y2.toNatClampNeg (I 6 y0 0)) 12 y0 y2.toNatClampNeg (-1), J, G, fm_P pa pb))) rfl ?_
        refine fm_gL O [1, 2, 0] rfl ?_
        rw [he]
        exact ih (fm_u (fm_u I 11 y0 y2.toNatClampNeg (I 6 y0 0)) 12 y0 y2.toNatClampNeg (-1)) J G pa pb y0 y1 (y2 + 1) hp
      · have h2 : ¬ (I 12 y0 y2.toNatClampNeg) = y1 := h
        have he := he.trans (if_neg h2)
        have hp := hp.2 h2
        refine fm_gr O 2 (C' := (2, [(2, .inl (y2 + 1)), (0, .inr (.inr (.inr (.inr (6, y0))))), (1, .inl y1)], [], (I, J, G, fm_P pa pb))) rfl ?_
        refine fm_gL O [1, 2, 0] rfl ?_
        rw [he]
        exact ih I J G pa pb y0 y1 (y2 + 1) hp
def fmK_sendHereAllFor_f (I : fm_MI) (J : fm_MJ) (G : fm_MG) (pa : Nat × Nat) (pb : Nat × Nat) (f : Nat) (fr : Int32) : fm_MI :=
  fmK_sendHereAllFor_L2_f 41 I J G pa pb f fr 0
theorem fmK_sendHereAllFor_e (I : fm_MI) (J : fm_MJ) (G : fm_MG) (pa : Nat × Nat) (pb : Nat × Nat) (f : Nat) (fr : Int32) : fmK_sendHereAllFor_f I J G pa pb f fr = fmK_sendHereAllFor_L2_f 41 I J G pa pb f fr 0 := rfl
def fmK_sendHereAllFor_p (I : fm_MI) (J : fm_MJ) (G : fm_MG) (pa : Nat × Nat) (pb : Nat × Nat) (f : Nat) (fr : Int32) : Prop :=
  fmK_sendHereAllFor_L2_p 41 I J G pa pb f fr 0
set_option maxRecDepth 100000 in
set_option maxHeartbeats 4000000 in
theorem fmK_sendHereAllFor_c {E : fm_Ev} (hl : E.1.stackTraces = false) {d : Nat} (hd : 0 ≤ d) (I : fm_MI) (J : fm_MJ) (G : fm_MG) (pa : Nat × Nat) (pb : Nat × Nat) (f : Nat) (fr : Int32) (hp : fmK_sendHereAllFor_p I J G pa pb f fr) : fm_Ct E d fmK_sendHereAllFor 0 [.inr (.inr (.inr (.inr (6, f)))), .inl fr] (I, J, G, fm_P pa pb) none (fmK_sendHereAllFor_f I J G pa pb f fr, J, G, fm_P pa pb) := by
  refine fm_ct fmK_sendHereAllFor_o hl (Nat.le_of_ble_eq_true rfl) ?_
  have O := fmK_sendHereAllFor_o.1
  unfold fmK_sendHereAllFor_p at hp
  have he := fmK_sendHereAllFor_e I J G pa pb f fr
  refine fm_gr O 2 (C' := (2, [(2, .inl 0), (0, .inr (.inr (.inr (.inr (6, f))))), (1, .inl fr)], [], (I, J, G, fm_P pa pb))) rfl ?_
  refine fm_gL O [1, 2, 0] rfl ?_
  rw [he]
  exact fmK_sendHereAllFor_L2_c hl hd 41 I J G pa pb f fr 0 hp
def fmC_isAsSaid_f (I : fm_MI) (op : Int32) (aa : Int32) : Int32 :=
  if op = 4 then (fm_let (fmF_isWithin_f aa ((I 2 ((I 13 0 1).toNatClampNeg) 2) - 1)) (fun (r1 : Int32) => r1)) else (if op = 5 then (fm_let (fmF_isWithin_f aa ((I 2 ((I 13 0 1).toNatClampNeg) 2) - 1)) (fun (r2 : Int32) => r2)) else (if op = 6 then (fm_let (fmF_isWithin_f aa ((I 2 ((I 13 0 1).toNatClampNeg) 2) - 1)) (fun (r3 : Int32) => r3)) else (if op = 7 then (fm_let (fmF_isWithin_f aa 3) (fun (r4 : Int32) => r4)) else (if op = 8 then (fm_let (fmF_isWithin_f aa 3) (fun (r5 : Int32) => r5)) else (if op = 9 then 1 else (if op = 10 then 1 else (if op = 11 then (fm_let (fmF_isWithin_f aa 3) (fun (r6 : Int32) => r6)) else (if op = 12 then (fm_let (fmF_isWithin_f aa 3) (fun (r7 : Int32) => r7)) else (if op = 13 then (fm_let (fmF_isWithin_f aa 3) (fun (r8 : Int32) => r8)) else (if op = 14 then (fm_let (fmF_isWithin_f aa 3) (fun (r9 : Int32) => r9)) else (if op = 15 then (fm_let (fmF_isWithin_f aa 1) (fun (r10 : Int32) => r10)) else (if op = 16 then (fm_let (fmF_isWithin_f aa 1) (fun (r11 : Int32) => r11)) else (if op = 17 then (fm_let (fmF_isWithin_f aa 1) (fun (r12 : Int32) => r12)) else (if op = 18 then (fm_let (fmF_isWithin_f aa 3) (fun (r13 : Int32) => r13)) else (if op = 19 then (fm_let (fmF_isWithin_f aa 3) (fun (r14 : Int32) => r14)) else (if op = 20 then (fm_let (fmF_isWithin_f aa 15) (fun (r15 : Int32) => r15)) else (if op = 21 then (fm_let (fmF_isWithin_f aa 4) (fun (r16 : Int32) => r16)) else (if op = 22 then (fm_let (fmF_isWithin_f aa 4) (fun (r17 : Int32) => r17)) else (if op = 23 then (fm_let (fmF_isWithin_f aa 4) (fun (r18 : Int32) => r18)) else (if op = 24 then 1 else (if op = 25 then 1 else (if op = 26 then (fm_let (fmF_isWithin_f aa (I 13 0 6)) (fun (r19 : Int32) => r19)) else (if op = 27 then (fm_let (fmF_isWithin_f aa (I 13 0 6)) (fun (r20 : Int32) => r20)) else (if op = 28 then 1 else (if op = 29 then (fm_let (fmF_isWithin_f aa ((Int32.ofNat 4) - 1)) (fun (r21 : Int32) => if r21 = 0 then 0 else (if (I 2 aa.toNatClampNeg 0) = 0 then 0 else 1))) else 1)))))))))))))))))))))))))
theorem fmC_isAsSaid_e (I : fm_MI) (op : Int32) (aa : Int32) : fmC_isAsSaid_f I op aa = if op = 4 then (fm_let (fmF_isWithin_f aa ((I 2 ((I 13 0 1).toNatClampNeg) 2) - 1)) (fun (r1 : Int32) => r1)) else (if op = 5 then (fm_let (fmF_isWithin_f aa ((I 2 ((I 13 0 1).toNatClampNeg) 2) - 1)) (fun (r2 : Int32) => r2)) else (if op = 6 then (fm_let (fmF_isWithin_f aa ((I 2 ((I 13 0 1).toNatClampNeg) 2) - 1)) (fun (r3 : Int32) => r3)) else (if op = 7 then (fm_let (fmF_isWithin_f aa 3) (fun (r4 : Int32) => r4)) else (if op = 8 then (fm_let (fmF_isWithin_f aa 3) (fun (r5 : Int32) => r5)) else (if op = 9 then 1 else (if op = 10 then 1 else (if op = 11 then (fm_let (fmF_isWithin_f aa 3) (fun (r6 : Int32) => r6)) else (if op = 12 then (fm_let (fmF_isWithin_f aa 3) (fun (r7 : Int32) => r7)) else (if op = 13 then (fm_let (fmF_isWithin_f aa 3) (fun (r8 : Int32) => r8)) else (if op = 14 then (fm_let (fmF_isWithin_f aa 3) (fun (r9 : Int32) => r9)) else (if op = 15 then (fm_let (fmF_isWithin_f aa 1) (fun (r10 : Int32) => r10)) else (if op = 16 then (fm_let (fmF_isWithin_f aa 1) (fun (r11 : Int32) => r11)) else (if op = 17 then (fm_let (fmF_isWithin_f aa 1) (fun (r12 : Int32) => r12)) else (if op = 18 then (fm_let (fmF_isWithin_f aa 3) (fun (r13 : Int32) => r13)) else (if op = 19 then (fm_let (fmF_isWithin_f aa 3) (fun (r14 : Int32) => r14)) else (if op = 20 then (fm_let (fmF_isWithin_f aa 15) (fun (r15 : Int32) => r15)) else (if op = 21 then (fm_let (fmF_isWithin_f aa 4) (fun (r16 : Int32) => r16)) else (if op = 22 then (fm_let (fmF_isWithin_f aa 4) (fun (r17 : Int32) => r17)) else (if op = 23 then (fm_let (fmF_isWithin_f aa 4) (fun (r18 : Int32) => r18)) else (if op = 24 then 1 else (if op = 25 then 1 else (if op = 26 then (fm_let (fmF_isWithin_f aa (I 13 0 6)) (fun (r19 : Int32) => r19)) else (if op = 27 then (fm_let (fmF_isWithin_f aa (I 13 0 6)) (fun (r20 : Int32) => r20)) else (if op = 28 then 1 else (if op = 29 then (fm_let (fmF_isWithin_f aa ((Int32.ofNat 4) - 1)) (fun (r21 : Int32) => if r21 = 0 then 0 else (if (I 2 aa.toNatClampNeg 0) = 0 then 0 else 1))) else 1))))))))))))))))))))))))) := rfl
def fmC_isAsSaid_p (I : fm_MI) (op : Int32) (aa : Int32) : Prop :=
  (op = 4 → fmC_subject_p I ∧ (fm_let (fmF_isWithin_f aa ((I 2 ((I 13 0 1).toNatClampNeg) 2) - 1)) (fun (r1 : Int32) => r1 = 0 ∨ r1 = 1))) ∧ (¬ op = 4 → (op = 5 → fmC_subject_p I ∧ (fm_let (fmF_isWithin_f aa ((I 2 ((I 13 0 1).toNatClampNeg) 2) - 1)) (fun (r2 : Int32) => r2 = 0 ∨ r2 = 1))) ∧ (¬ op = 5 → (op = 6 → fmC_subject_p I ∧ (fm_let (fmF_isWithin_f aa ((I 2 ((I 13 0 1).toNatClampNeg) 2) - 1)) (fun (r3 : Int32) => r3 = 0 ∨ r3 = 1))) ∧ (¬ op = 6 → (op = 7 → fm_let (fmF_isWithin_f aa 3) (fun (r4 : Int32) => r4 = 0 ∨ r4 = 1)) ∧ (¬ op = 7 → (op = 8 → fm_let (fmF_isWithin_f aa 3) (fun (r5 : Int32) => r5 = 0 ∨ r5 = 1)) ∧ (¬ op = 8 → (op = 9 → True) ∧ (¬ op = 9 → (op = 10 → True) ∧ (¬ op = 10 → (op = 11 → fm_let (fmF_isWithin_f aa 3) (fun (r6 : Int32) => r6 = 0 ∨ r6 = 1)) ∧ (¬ op = 11 → (op = 12 → fm_let (fmF_isWithin_f aa 3) (fun (r7 : Int32) => r7 = 0 ∨ r7 = 1)) ∧ (¬ op = 12 → (op = 13 → fm_let (fmF_isWithin_f aa 3) (fun (r8 : Int32) => r8 = 0 ∨ r8 = 1)) ∧ (¬ op = 13 → (op = 14 → fm_let (fmF_isWithin_f aa 3) (fun (r9 : Int32) => r9 = 0 ∨ r9 = 1)) ∧ (¬ op = 14 → (op = 15 → fm_let (fmF_isWithin_f aa 1) (fun (r10 : Int32) => r10 = 0 ∨ r10 = 1)) ∧ (¬ op = 15 → (op = 16 → fm_let (fmF_isWithin_f aa 1) (fun (r11 : Int32) => r11 = 0 ∨ r11 = 1)) ∧ (¬ op = 16 → (op = 17 → fm_let (fmF_isWithin_f aa 1) (fun (r12 : Int32) => r12 = 0 ∨ r12 = 1)) ∧ (¬ op = 17 → (op = 18 → fm_let (fmF_isWithin_f aa 3) (fun (r13 : Int32) => r13 = 0 ∨ r13 = 1)) ∧ (¬ op = 18 → (op = 19 → fm_let (fmF_isWithin_f aa 3) (fun (r14 : Int32) => r14 = 0 ∨ r14 = 1)) ∧ (¬ op = 19 → (op = 20 → fm_let (fmF_isWithin_f aa 15) (fun (r15 : Int32) => r15 = 0 ∨ r15 = 1)) ∧ (¬ op = 20 → (op = 21 → fm_let (fmF_isWithin_f aa 4) (fun (r16 : Int32) => r16 = 0 ∨ r16 = 1)) ∧ (¬ op = 21 → (op = 22 → fm_let (fmF_isWithin_f aa 4) (fun (r17 : Int32) => r17 = 0 ∨ r17 = 1)) ∧ (¬ op = 22 → (op = 23 → fm_let (fmF_isWithin_f aa 4) (fun (r18 : Int32) => r18 = 0 ∨ r18 = 1)) ∧ (¬ op = 23 → (op = 24 → True) ∧ (¬ op = 24 → (op = 25 → True) ∧ (¬ op = 25 → (op = 26 → fm_let (fmF_isWithin_f aa (I 13 0 6)) (fun (r19 : Int32) => r19 = 0 ∨ r19 = 1)) ∧ (¬ op = 26 → (op = 27 → fm_let (fmF_isWithin_f aa (I 13 0 6)) (fun (r20 : Int32) => r20 = 0 ∨ r20 = 1)) ∧ (¬ op = 27 → (op = 28 → True) ∧ (¬ op = 28 → (op = 29 → fm_let (fmF_isWithin_f aa ((Int32.ofNat 4) - 1)) (fun (r21 : Int32) => (r21 = 0 → True) ∧ (¬ r21 = 0 → vp_in aa 4))) ∧ (¬ op = 29 → True))))))))))))))))))))))))))
set_option maxRecDepth 100000 in
set_option maxHeartbeats 4000000 in
theorem fmC_isAsSaid_c {E : fm_Ev} (hl : E.1.stackTraces = false) {d : Nat} (hd : 1 ≤ d) (I : fm_MI) (J : fm_MJ) (G : fm_MG) (pb : Nat × Nat) (op : Int32) (aa : Int32) (hp : fmC_isAsSaid_p I op aa) : fm_Ct E d fmC_isAsSaid 0 [.inr (.inr (.inr (.inr (13, 0)))), .inl op, .inl aa] (I, J, G, fm_P (1, 0) pb) (some (.inl (fmC_isAsSaid_f I op aa))) (I, J, G, fm_P (1, 0) pb) := by
  obtain ⟨d, rfl⟩ : ∃ d', d = d' + 1 := ⟨d - 1, by omega⟩
  refine fm_ct fmC_isAsSaid_o hl (Nat.le_of_ble_eq_true rfl) ?_
  have O := fmC_isAsSaid_o.1
  unfold fmC_isAsSaid_p at hp
  have he := fmC_isAsSaid_e I op aa
  refine fm_gr O 1 (C' := (1, [(0, .inr (.inr (.inr (.inr (13, 0))))), (1, .inl op), (2, .inl aa)], [.inl op], (I, J, G, fm_P (1, 0) pb))) rfl ?_
  by_cases h1 : op = 4
  · have he := he.trans (if_pos h1)
    have hp := hp.1 h1
    refine fm_gs O 4 rfl (show op.toInt = 4 from by rw [h1]; decide) ?_
    refine fm_gr O 2 (C' := (122, [(0, .inr (.inr (.inr (.inr (13, 0))))), (1, .inl op), (2, .inl aa)], [.inr (.inr (.inr (.inr (13, 0)))), .inl aa], (I, J, G, fm_P (1, 0) pb))) rfl ?_
    have hc := hp.1
    have hp := hp.2
    have K := fmC_subject_c (d := d) hl (by omega) I J G pb hc
    refine fm_cV0 O fmC_subject_o (i := 0) (as := []) (rest := [.inl aa]) (v := some (.inr (.inr (.inr (.inr (2, (I 13 0 1).toNatClampNeg)))))) rfl fk_1_41 rfl (by decide) fn_C_subject (Nat.le_of_ble_eq_true rfl) (K) ?_
    refine fm_gr O 3 (C' := (130, [(0, .inr (.inr (.inr (.inr (13, 0))))), (1, .inl op), (2, .inl aa)], [.inl ((I 2 ((I 13 0 1).toNatClampNeg) 2) - 1), .inl aa], (I, J, G, fm_P (1, 0) pb))) rfl ?_
    have K := fmF_isWithin_c (d := d) hl (by omega) I J G ((1, 0)) pb aa ((I 2 ((I 13 0 1).toNatClampNeg) 2) - 1)
    generalize er1 : fmF_isWithin_f aa ((I 2 ((I 13 0 1).toNatClampNeg) 2) - 1) = r1 at he hp
    have he := he.trans (fm_letE _ _)
    have hp := fm_letP hp
    rw [er1] at K
    refine fm_cN0 O fmF_isWithin_o (as := [.inl aa, .inl ((I 2 ((I 13 0 1).toNatClampNeg) 2) - 1)]) (rest := []) (v := some (.inl r1)) rfl rfl rfl fn_F_isWithin0 fn_F_isWithin (Nat.le_of_ble_eq_true rfl) (K) ?_
    exact fm_gRe O rfl hp (by first | rw [he] | rfl) (by first | rw [he] | rfl)
  · have he := he.trans (if_neg h1)
    have hp := hp.2 h1
    by_cases h2 : op = 5
    · have he := he.trans (if_pos h2)
      have hp := hp.1 h2
      refine fm_gs O 5 rfl (show op.toInt = 5 from by rw [h2]; decide) ?_
      refine fm_gr O 2 (C' := (122, [(0, .inr (.inr (.inr (.inr (13, 0))))), (1, .inl op), (2, .inl aa)], [.inr (.inr (.inr (.inr (13, 0)))), .inl aa], (I, J, G, fm_P (1, 0) pb))) rfl ?_
      have hc := hp.1
      have hp := hp.2
      have K := fmC_subject_c (d := d) hl (by omega) I J G pb hc
      refine fm_cV0 O fmC_subject_o (i := 0) (as := []) (rest := [.inl aa]) (v := some (.inr (.inr (.inr (.inr (2, (I 13 0 1).toNatClampNeg)))))) rfl fk_1_41 rfl (by decide) fn_C_subject (Nat.le_of_ble_eq_true rfl) (K) ?_
      refine fm_gr O 3 (C' := (130, [(0, .inr (.inr (.inr (.inr (13, 0))))), (1, .inl op), (2, .inl aa)], [.inl ((I 2 ((I 13 0 1).toNatClampNeg) 2) - 1), .inl aa], (I, J, G, fm_P (1, 0) pb))) rfl ?_
      have K := fmF_isWithin_c (d := d) hl (by omega) I J G ((1, 0)) pb aa ((I 2 ((I 13 0 1).toNatClampNeg) 2) - 1)
      generalize er2 : fmF_isWithin_f aa ((I 2 ((I 13 0 1).toNatClampNeg) 2) - 1) = r2 at he hp
      have he := he.trans (fm_letE _ _)
      have hp := fm_letP hp
      rw [er2] at K
      refine fm_cN0 O fmF_isWithin_o (as := [.inl aa, .inl ((I 2 ((I 13 0 1).toNatClampNeg) 2) - 1)]) (rest := []) (v := some (.inl r2)) rfl rfl rfl fn_F_isWithin0 fn_F_isWithin (Nat.le_of_ble_eq_true rfl) (K) ?_
      exact fm_gRe O rfl hp (by first | rw [he] | rfl) (by first | rw [he] | rfl)
    · have he := he.trans (if_neg h2)
      have hp := hp.2 h2
      by_cases h3 : op = 6
      · have he := he.trans (if_pos h3)
        have hp := hp.1 h3
        refine fm_gs O 6 rfl (show op.toInt = 6 from by rw [h3]; decide) ?_
        refine fm_gr O 2 (C' := (122, [(0, .inr (.inr (.inr (.inr (13, 0))))), (1, .inl op), (2, .inl aa)], [.inr (.inr (.inr (.inr (13, 0)))), .inl aa], (I, J, G, fm_P (1, 0) pb))) rfl ?_
        have hc := hp.1
        have hp := hp.2
        have K := fmC_subject_c (d := d) hl (by omega) I J G pb hc
        refine fm_cV0 O fmC_subject_o (i := 0) (as := []) (rest := [.inl aa]) (v := some (.inr (.inr (.inr (.inr (2, (I 13 0 1).toNatClampNeg)))))) rfl fk_1_41 rfl (by decide) fn_C_subject (Nat.le_of_ble_eq_true rfl) (K) ?_
        refine fm_gr O 3 (C' := (130, [(0, .inr (.inr (.inr (.inr (13, 0))))), (1, .inl op), (2, .inl aa)], [.inl ((I 2 ((I 13 0 1).toNatClampNeg) 2) - 1), .inl aa], (I, J, G, fm_P (1, 0) pb))) rfl ?_
        have K := fmF_isWithin_c (d := d) hl (by omega) I J G ((1, 0)) pb aa ((I 2 ((I 13 0 1).toNatClampNeg) 2) - 1)
        generalize er3 : fmF_isWithin_f aa ((I 2 ((I 13 0 1).toNatClampNeg) 2) - 1) = r3 at he hp
        have he := he.trans (fm_letE _ _)
        have hp := fm_letP hp
        rw [er3] at K
        refine fm_cN0 O fmF_isWithin_o (as := [.inl aa, .inl ((I 2 ((I 13 0 1).toNatClampNeg) 2) - 1)]) (rest := []) (v := some (.inl r3)) rfl rfl rfl fn_F_isWithin0 fn_F_isWithin (Nat.le_of_ble_eq_true rfl) (K) ?_
        exact fm_gRe O rfl hp (by first | rw [he] | rfl) (by first | rw [he] | rfl)
      · have he := he.trans (if_neg h3)
        have hp := hp.2 h3
        by_cases h4 : op = 7
        · have he := he.trans (if_pos h4)
          have hp := hp.1 h4
          refine fm_gs O 7 rfl (show op.toInt = 7 from by rw [h4]; decide) ?_
          refine fm_gr O 2 (C' := (136, [(0, .inr (.inr (.inr (.inr (13, 0))))), (1, .inl op), (2, .inl aa)], [.inl 3, .inl aa], (I, J, G, fm_P (1, 0) pb))) rfl ?_
          have K := fmF_isWithin_c (d := d) hl (by omega) I J G ((1, 0)) pb aa 3
          generalize er4 : fmF_isWithin_f aa 3 = r4 at he hp
          have he := he.trans (fm_letE _ _)
          have hp := fm_letP hp
          rw [er4] at K
          refine fm_cN0 O fmF_isWithin_o (as := [.inl aa, .inl 3]) (rest := []) (v := some (.inl r4)) rfl rfl rfl fn_F_isWithin0 fn_F_isWithin (Nat.le_of_ble_eq_true rfl) (K) ?_
          exact fm_gRe O rfl hp (by first | rw [he] | rfl) (by first | rw [he] | rfl)
        · have he := he.trans (if_neg h4)
          have hp := hp.2 h4
          by_cases h5 : op = 8
          · have he := he.trans (if_pos h5)
            have hp := hp.1 h5
            refine fm_gs O 8 rfl (show op.toInt = 8 from by rw [h5]; decide) ?_
            refine fm_gr O 2 (C' := (136, [(0, .inr (.inr (.inr (.inr (13, 0))))), (1, .inl op), (2, .inl aa)], [.inl 3, .inl aa], (I, J, G, fm_P (1, 0) pb))) rfl ?_
            have K := fmF_isWithin_c (d := d) hl (by omega) I J G ((1, 0)) pb aa 3
            generalize er5 : fmF_isWithin_f aa 3 = r5 at he hp
            have he := he.trans (fm_letE _ _)
            have hp := fm_letP hp
            rw [er5] at K
            refine fm_cN0 O fmF_isWithin_o (as := [.inl aa, .inl 3]) (rest := []) (v := some (.inl r5)) rfl rfl rfl fn_F_isWithin0 fn_F_isWithin (Nat.le_of_ble_eq_true rfl) (K) ?_
            exact fm_gRe O rfl hp (by first | rw [he] | rfl) (by first | rw [he] | rfl)
          · have he := he.trans (if_neg h5)
            have hp := hp.2 h5
            by_cases h6 : op = 9
            · have he := he.trans (if_pos h6)
              refine fm_gs O 9 rfl (show op.toInt = 9 from by rw [h6]; decide) ?_
              refine fm_gr O 1 (C' := (207, [(0, .inr (.inr (.inr (.inr (13, 0))))), (1, .inl op), (2, .inl aa)], [.inl 1], (I, J, G, fm_P (1, 0) pb))) rfl ?_
              exact fm_gRe O rfl (Or.inr rfl) (by first | rw [he] | rfl) (by first | rw [he] | rfl)
            · have he := he.trans (if_neg h6)
              have hp := hp.2 h6
              by_cases h7 : op = 10
              · have he := he.trans (if_pos h7)
                refine fm_gs O 10 rfl (show op.toInt = 10 from by rw [h7]; decide) ?_
                refine fm_gr O 1 (C' := (207, [(0, .inr (.inr (.inr (.inr (13, 0))))), (1, .inl op), (2, .inl aa)], [.inl 1], (I, J, G, fm_P (1, 0) pb))) rfl ?_
                exact fm_gRe O rfl (Or.inr rfl) (by first | rw [he] | rfl) (by first | rw [he] | rfl)
              · have he := he.trans (if_neg h7)
                have hp := hp.2 h7
                by_cases h8 : op = 11
                · have he := he.trans (if_pos h8)
                  have hp := hp.1 h8
                  refine fm_gs O 11 rfl (show op.toInt = 11 from by rw [h8]; decide) ?_
                  refine fm_gr O 2 (C' := (142, [(0, .inr (.inr (.inr (.inr (13, 0))))), (1, .inl op), (2, .inl aa)], [.inl 3, .inl aa], (I, J, G, fm_P (1, 0) pb))) rfl ?_
                  have K := fmF_isWithin_c (d := d) hl (by omega) I J G ((1, 0)) pb aa 3
                  generalize er6 : fmF_isWithin_f aa 3 = r6 at he hp
                  have he := he.trans (fm_letE _ _)
                  have hp := fm_letP hp
                  rw [er6] at K
                  refine fm_cN0 O fmF_isWithin_o (as := [.inl aa, .inl 3]) (rest := []) (v := some (.inl r6)) rfl rfl rfl fn_F_isWithin0 fn_F_isWithin (Nat.le_of_ble_eq_true rfl) (K) ?_
                  exact fm_gRe O rfl hp (by first | rw [he] | rfl) (by first | rw [he] | rfl)
                · have he := he.trans (if_neg h8)
                  have hp := hp.2 h8
                  by_cases h9 : op = 12
                  · have he := he.trans (if_pos h9)
                    have hp := hp.1 h9
                    refine fm_gs O 12 rfl (show op.toInt = 12 from by rw [h9]; decide) ?_
                    refine fm_gr O 2 (C' := (142, [(0, .inr (.inr (.inr (.inr (13, 0))))), (1, .inl op), (2, .inl aa)], [.inl 3, .inl aa], (I, J, G, fm_P (1, 0) pb))) rfl ?_
                    have K := fmF_isWithin_c (d := d) hl (by omega) I J G ((1, 0)) pb aa 3
                    generalize er7 : fmF_isWithin_f aa 3 = r7 at he hp
                    have he := he.trans (fm_letE _ _)
                    have hp := fm_letP hp
                    rw [er7] at K
                    refine fm_cN0 O fmF_isWithin_o (as := [.inl aa, .inl 3]) (rest := []) (v := some (.inl r7)) rfl rfl rfl fn_F_isWithin0 fn_F_isWithin (Nat.le_of_ble_eq_true rfl) (K) ?_
                    exact fm_gRe O rfl hp (by first | rw [he] | rfl) (by first | rw [he] | rfl)
                  · have he := he.trans (if_neg h9)
                    have hp := hp.2 h9
                    by_cases h10 : op = 13
                    · have he := he.trans (if_pos h10)
                      have hp := hp.1 h10
                      refine fm_gs O 13 rfl (show op.toInt = 13 from by rw [h10]; decide) ?_
                      refine fm_gr O 2 (C' := (142, [(0, .inr (.inr (.inr (.inr (13, 0))))), (1, .inl op), (2, .inl aa)], [.inl 3, .inl aa], (I, J, G, fm_P (1, 0) pb))) rfl ?_
                      have K := fmF_isWithin_c (d := d) hl (by omega) I J G ((1, 0)) pb aa 3
                      generalize er8 : fmF_isWithin_f aa 3 = r8 at he hp
                      have he := he.trans (fm_letE _ _)
                      have hp := fm_letP hp
                      rw [er8] at K
                      refine fm_cN0 O fmF_isWithin_o (as := [.inl aa, .inl 3]) (rest := []) (v := some (.inl r8)) rfl rfl rfl fn_F_isWithin0 fn_F_isWithin (Nat.le_of_ble_eq_true rfl) (K) ?_
                      exact fm_gRe O rfl hp (by first | rw [he] | rfl) (by first | rw [he] | rfl)
                    · have he := he.trans (if_neg h10)
                      have hp := hp.2 h10
                      by_cases h11 : op = 14
                      · have he := he.trans (if_pos h11)
                        have hp := hp.1 h11
                        refine fm_gs O 14 rfl (show op.toInt = 14 from by rw [h11]; decide) ?_
                        refine fm_gr O 2 (C' := (142, [(0, .inr (.inr (.inr (.inr (13, 0))))), (1, .inl op), (2, .inl aa)], [.inl 3, .inl aa], (I, J, G, fm_P (1, 0) pb))) rfl ?_
                        have K := fmF_isWithin_c (d := d) hl (by omega) I J G ((1, 0)) pb aa 3
                        generalize er9 : fmF_isWithin_f aa 3 = r9 at he hp
                        have he := he.trans (fm_letE _ _)
                        have hp := fm_letP hp
                        rw [er9] at K
                        refine fm_cN0 O fmF_isWithin_o (as := [.inl aa, .inl 3]) (rest := []) (v := some (.inl r9)) rfl rfl rfl fn_F_isWithin0 fn_F_isWithin (Nat.le_of_ble_eq_true rfl) (K) ?_
                        exact fm_gRe O rfl hp (by first | rw [he] | rfl) (by first | rw [he] | rfl)
                      · have he := he.trans (if_neg h11)
                        have hp := hp.2 h11
                        by_cases h12 : op = 15
                        · have he := he.trans (if_pos h12)
                          have hp := hp.1 h12
                          refine fm_gs O 15 rfl (show op.toInt = 15 from by rw [h12]; decide) ?_
                          refine fm_gr O 2 (C' := (148, [(0, .inr (.inr (.inr (.inr (13, 0))))), (1, .inl op), (2, .inl aa)], [.inl 1, .inl aa], (I, J, G, fm_P (1, 0) pb))) rfl ?_
                          have K := fmF_isWithin_c (d := d) hl (by omega) I J G ((1, 0)) pb aa 1
                          generalize er10 : fmF_isWithin_f aa 1 = r10 at he hp
                          have he := he.trans (fm_letE _ _)
                          have hp := fm_letP hp
                          rw [er10] at K
                          refine fm_cN0 O fmF_isWithin_o (as := [.inl aa, .inl 1]) (rest := []) (v := some (.inl r10)) rfl rfl rfl fn_F_isWithin0 fn_F_isWithin (Nat.le_of_ble_eq_true rfl) (K) ?_
                          exact fm_gRe O rfl hp (by first | rw [he] | rfl) (by first | rw [he] | rfl)
                        · have he := he.trans (if_neg h12)
                          have hp := hp.2 h12
                          by_cases h13 : op = 16
                          · have he := he.trans (if_pos h13)
                            have hp := hp.1 h13
                            refine fm_gs O 16 rfl (show op.toInt = 16 from by rw [h13]; decide) ?_
                            refine fm_gr O 2 (C' := (148, [(0, .inr (.inr (.inr (.inr (13, 0))))), (1, .inl op), (2, .inl aa)], [.inl 1, .inl aa], (I, J, G, fm_P (1, 0) pb))) rfl ?_
                            have K := fmF_isWithin_c (d := d) hl (by omega) I J G ((1, 0)) pb aa 1
                            generalize er11 : fmF_isWithin_f aa 1 = r11 at he hp
                            have he := he.trans (fm_letE _ _)
                            have hp := fm_letP hp
                            rw [er11] at K
                            refine fm_cN0 O fmF_isWithin_o (as := [.inl aa, .inl 1]) (rest := []) (v := some (.inl r11)) rfl rfl rfl fn_F_isWithin0 fn_F_isWithin (Nat.le_of_ble_eq_true rfl) (K) ?_
                            exact fm_gRe O rfl hp (by first | rw [he] | rfl) (by first | rw [he] | rfl)
                          · have he := he.trans (if_neg h13)
                            have hp := hp.2 h13
                            by_cases h14 : op = 17
                            · have he := he.trans (if_pos h14)
                              have hp := hp.1 h14
                              refine fm_gs O 17 rfl (show op.toInt = 17 from by rw [h14]; decide) ?_
                              refine fm_gr O 2 (C' := (148, [(0, .inr (.inr (.inr (.inr (13, 0))))), (1, .inl op), (2, .inl aa)], [.inl 1, .inl aa], (I, J, G, fm_P (1, 0) pb))) rfl ?_
                              have K := fmF_isWithin_c (d := d) hl (by omega) I J G ((1, 0)) pb aa 1
                              generalize er12 : fmF_isWithin_f aa 1 = r12 at he hp
                              have he := he.trans (fm_letE _ _)
                              have hp := fm_letP hp
                              rw [er12] at K
                              refine fm_cN0 O fmF_isWithin_o (as := [.inl aa, .inl 1]) (rest := []) (v := some (.inl r12)) rfl rfl rfl fn_F_isWithin0 fn_F_isWithin (Nat.le_of_ble_eq_true rfl) (K) ?_
                              exact fm_gRe O rfl hp (by first | rw [he] | rfl) (by first | rw [he] | rfl)
                            · have he := he.trans (if_neg h14)
                              have hp := hp.2 h14
                              by_cases h15 : op = 18
                              · have he := he.trans (if_pos h15)
                                have hp := hp.1 h15
                                refine fm_gs O 18 rfl (show op.toInt = 18 from by rw [h15]; decide) ?_
                                refine fm_gr O 2 (C' := (142, [(0, .inr (.inr (.inr (.inr (13, 0))))), (1, .inl op), (2, .inl aa)], [.inl 3, .inl aa], (I, J, G, fm_P (1, 0) pb))) rfl ?_
                                have K := fmF_isWithin_c (d := d) hl (by omega) I J G ((1, 0)) pb aa 3
                                generalize er13 : fmF_isWithin_f aa 3 = r13 at he hp
                                have he := he.trans (fm_letE _ _)
                                have hp := fm_letP hp
                                rw [er13] at K
                                refine fm_cN0 O fmF_isWithin_o (as := [.inl aa, .inl 3]) (rest := []) (v := some (.inl r13)) rfl rfl rfl fn_F_isWithin0 fn_F_isWithin (Nat.le_of_ble_eq_true rfl) (K) ?_
                                exact fm_gRe O rfl hp (by first | rw [he] | rfl) (by first | rw [he] | rfl)
                              · have he := he.trans (if_neg h15)
                                have hp := hp.2 h15
                                by_cases h16 : op = 19
                                · have he := he.trans (if_pos h16)
                                  have hp := hp.1 h16
                                  refine fm_gs O 19 rfl (show op.toInt = 19 from by rw [h16]; decide) ?_
                                  refine fm_gr O 2 (C' := (142, [(0, .inr (.inr (.inr (.inr (13, 0))))), (1, .inl op), (2, .inl aa)], [.inl 3, .inl aa], (I, J, G, fm_P (1, 0) pb))) rfl ?_
                                  have K := fmF_isWithin_c (d := d) hl (by omega) I J G ((1, 0)) pb aa 3
                                  generalize er14 : fmF_isWithin_f aa 3 = r14 at he hp
                                  have he := he.trans (fm_letE _ _)
                                  have hp := fm_letP hp
                                  rw [er14] at K
                                  refine fm_cN0 O fmF_isWithin_o (as := [.inl aa, .inl 3]) (rest := []) (v := some (.inl r14)) rfl rfl rfl fn_F_isWithin0 fn_F_isWithin (Nat.le_of_ble_eq_true rfl) (K) ?_
                                  exact fm_gRe O rfl hp (by first | rw [he] | rfl) (by first | rw [he] | rfl)
                                · have he := he.trans (if_neg h16)
                                  have hp := hp.2 h16
                                  by_cases h17 : op = 20
                                  · have he := he.trans (if_pos h17)
                                    have hp := hp.1 h17
                                    refine fm_gs O 20 rfl (show op.toInt = 20 from by rw [h17]; decide) ?_
                                    refine fm_gr O 2 (C' := (155, [(0, .inr (.inr (.inr (.inr (13, 0))))), (1, .inl op), (2, .inl aa)], [.inl 15, .inl aa], (I, J, G, fm_P (1, 0) pb))) rfl ?_
                                    have K := fmF_isWithin_c (d := d) hl (by omega) I J G ((1, 0)) pb aa 15
                                    generalize er15 : fmF_isWithin_f aa 15 = r15 at he hp
                                    have he := he.trans (fm_letE _ _)
                                    have hp := fm_letP hp
                                    rw [er15] at K
                                    refine fm_cN0 O fmF_isWithin_o (as := [.inl aa, .inl 15]) (rest := []) (v := some (.inl r15)) rfl rfl rfl fn_F_isWithin0 fn_F_isWithin (Nat.le_of_ble_eq_true rfl) (K) ?_
                                    exact fm_gRe O rfl hp (by first | rw [he] | rfl) (by first | rw [he] | rfl)
                                  · have he := he.trans (if_neg h17)
                                    have hp := hp.2 h17
                                    by_cases h18 : op = 21
                                    · have he := he.trans (if_pos h18)
                                      have hp := hp.1 h18
                                      refine fm_gs O 21 rfl (show op.toInt = 21 from by rw [h18]; decide) ?_
                                      refine fm_gr O 2 (C' := (161, [(0, .inr (.inr (.inr (.inr (13, 0))))), (1, .inl op), (2, .inl aa)], [.inl 4, .inl aa], (I, J, G, fm_P (1, 0) pb))) rfl ?_
                                      have K := fmF_isWithin_c (d := d) hl (by omega) I J G ((1, 0)) pb aa 4
                                      generalize er16 : fmF_isWithin_f aa 4 = r16 at he hp
                                      have he := he.trans (fm_letE _ _)
                                      have hp := fm_letP hp
                                      rw [er16] at K
                                      refine fm_cN0 O fmF_isWithin_o (as := [.inl aa, .inl 4]) (rest := []) (v := some (.inl r16)) rfl rfl rfl fn_F_isWithin0 fn_F_isWithin (Nat.le_of_ble_eq_true rfl) (K) ?_
                                      exact fm_gRe O rfl hp (by first | rw [he] | rfl) (by first | rw [he] | rfl)
                                    · have he := he.trans (if_neg h18)
                                      have hp := hp.2 h18
                                      by_cases h19 : op = 22
                                      · have he := he.trans (if_pos h19)
                                        have hp := hp.1 h19
                                        refine fm_gs O 22 rfl (show op.toInt = 22 from by rw [h19]; decide) ?_
                                        refine fm_gr O 2 (C' := (161, [(0, .inr (.inr (.inr (.inr (13, 0))))), (1, .inl op), (2, .inl aa)], [.inl 4, .inl aa], (I, J, G, fm_P (1, 0) pb))) rfl ?_
                                        have K := fmF_isWithin_c (d := d) hl (by omega) I J G ((1, 0)) pb aa 4
                                        generalize er17 : fmF_isWithin_f aa 4 = r17 at he hp
                                        have he := he.trans (fm_letE _ _)
                                        have hp := fm_letP hp
                                        rw [er17] at K
                                        refine fm_cN0 O fmF_isWithin_o (as := [.inl aa, .inl 4]) (rest := []) (v := some (.inl r17)) rfl rfl rfl fn_F_isWithin0 fn_F_isWithin (Nat.le_of_ble_eq_true rfl) (K) ?_
                                        exact fm_gRe O rfl hp (by first | rw [he] | rfl) (by first | rw [he] | rfl)
                                      · have he := he.trans (if_neg h19)
                                        have hp := hp.2 h19
                                        by_cases h20 : op = 23
                                        · have he := he.trans (if_pos h20)
                                          have hp := hp.1 h20
                                          refine fm_gs O 23 rfl (show op.toInt = 23 from by rw [h20]; decide) ?_
                                          refine fm_gr O 2 (C' := (161, [(0, .inr (.inr (.inr (.inr (13, 0))))), (1, .inl op), (2, .inl aa)], [.inl 4, .inl aa], (I, J, G, fm_P (1, 0) pb))) rfl ?_
                                          have K := fmF_isWithin_c (d := d) hl (by omega) I J G ((1, 0)) pb aa 4
                                          generalize er18 : fmF_isWithin_f aa 4 = r18 at he hp
                                          have he := he.trans (fm_letE _ _)
                                          have hp := fm_letP hp
                                          rw [er18] at K
                                          refine fm_cN0 O fmF_isWithin_o (as := [.inl aa, .inl 4]) (rest := []) (v := some (.inl r18)) rfl rfl rfl fn_F_isWithin0 fn_F_isWithin (Nat.le_of_ble_eq_true rfl) (K) ?_
                                          exact fm_gRe O rfl hp (by first | rw [he] | rfl) (by first | rw [he] | rfl)
                                        · have he := he.trans (if_neg h20)
                                          have hp := hp.2 h20
                                          by_cases h21 : op = 24
                                          · have he := he.trans (if_pos h21)
                                            refine fm_gs O 24 rfl (show op.toInt = 24 from by rw [h21]; decide) ?_
                                            refine fm_gr O 1 (C' := (207, [(0, .inr (.inr (.inr (.inr (13, 0))))), (1, .inl op), (2, .inl aa)], [.inl 1], (I, J, G, fm_P (1, 0) pb))) rfl ?_
                                            exact fm_gRe O rfl (Or.inr rfl) (by first | rw [he] | rfl) (by first | rw [he] | rfl)
                                          · have he := he.trans (if_neg h21)
                                            have hp := hp.2 h21
                                            by_cases h22 : op = 25
                                            · have he := he.trans (if_pos h22)
                                              refine fm_gs O 25 rfl (show op.toInt = 25 from by rw [h22]; decide) ?_
                                              refine fm_gr O 1 (C' := (207, [(0, .inr (.inr (.inr (.inr (13, 0))))), (1, .inl op), (2, .inl aa)], [.inl 1], (I, J, G, fm_P (1, 0) pb))) rfl ?_
                                              exact fm_gRe O rfl (Or.inr rfl) (by first | rw [he] | rfl) (by first | rw [he] | rfl)
                                            · have he := he.trans (if_neg h22)
                                              have hp := hp.2 h22
                                              by_cases h23 : op = 26
                                              · have he := he.trans (if_pos h23)
                                                have hp := hp.1 h23
                                                refine fm_gs O 26 rfl (show op.toInt = 26 from by rw [h23]; decide) ?_
                                                refine fm_gr O 3 (C' := (170, [(0, .inr (.inr (.inr (.inr (13, 0))))), (1, .inl op), (2, .inl aa)], [.inl (I 13 0 6), .inl aa], (I, J, G, fm_P (1, 0) pb))) rfl ?_
                                                have K := fmF_isWithin_c (d := d) hl (by omega) I J G ((1, 0)) pb aa (I 13 0 6)
                                                generalize er19 : fmF_isWithin_f aa (I 13 0 6) = r19 at he hp
                                                have he := he.trans (fm_letE _ _)
                                                have hp := fm_letP hp
                                                rw [er19] at K
                                                refine fm_cN0 O fmF_isWithin_o (as := [.inl aa, .inl (I 13 0 6)]) (rest := []) (v := some (.inl r19)) rfl rfl rfl fn_F_isWithin0 fn_F_isWithin (Nat.le_of_ble_eq_true rfl) (K) ?_
                                                exact fm_gRe O rfl hp (by first | rw [he] | rfl) (by first | rw [he] | rfl)
                                              · have he := he.trans (if_neg h23)
                                                have hp := hp.2 h23
                                                by_cases h24 : op = 27
                                                · have he := he.trans (if_pos h24)
                                                  have hp := hp.1 h24
                                                  refine fm_gs O 27 rfl (show op.toInt = 27 from by rw [h24]; decide) ?_
                                                  refine fm_gr O 3 (C' := (170, [(0, .inr (.inr (.inr (.inr (13, 0))))), (1, .inl op), (2, .inl aa)], [.inl (I 13 0 6), .inl aa], (I, J, G, fm_P (1, 0) pb))) rfl ?_
                                                  have K := fmF_isWithin_c (d := d) hl (by omega) I J G ((1, 0)) pb aa (I 13 0 6)
                                                  generalize er20 : fmF_isWithin_f aa (I 13 0 6) = r20 at he hp
                                                  have he := he.trans (fm_letE _ _)
                                                  have hp := fm_letP hp
                                                  rw [er20] at K
                                                  refine fm_cN0 O fmF_isWithin_o (as := [.inl aa, .inl (I 13 0 6)]) (rest := []) (v := some (.inl r20)) rfl rfl rfl fn_F_isWithin0 fn_F_isWithin (Nat.le_of_ble_eq_true rfl) (K) ?_
                                                  exact fm_gRe O rfl hp (by first | rw [he] | rfl) (by first | rw [he] | rfl)
                                                · have he := he.trans (if_neg h24)
                                                  have hp := hp.2 h24
                                                  by_cases h25 : op = 28
                                                  · have he := he.trans (if_pos h25)
                                                    refine fm_gs O 28 rfl (show op.toInt = 28 from by rw [h25]; decide) ?_
                                                    refine fm_gr O 1 (C' := (207, [(0, .inr (.inr (.inr (.inr (13, 0))))), (1, .inl op), (2, .inl aa)], [.inl 1], (I, J, G, fm_P (1, 0) pb))) rfl ?_
                                                    exact fm_gRe O rfl (Or.inr rfl) (by first | rw [he] | rfl) (by first | rw [he] | rfl)
                                                  · have he := he.trans (if_neg h25)
                                                    have hp := hp.2 h25
                                                    by_cases h26 : op = 29
                                                    · have he := he.trans (if_pos h26)
                                                      have hp := hp.1 h26
                                                      refine fm_gs O 29 rfl (show op.toInt = 29 from by rw [h26]; decide) ?_
                                                      refine fm_gr O 6 (C' := (182, [(0, .inr (.inr (.inr (.inr (13, 0))))), (1, .inl op), (2, .inl aa)], [.inl ((Int32.ofNat 4) - 1), .inl aa], (I, J, G, fm_P (1, 0) pb))) rfl ?_
                                                      have K := fmF_isWithin_c (d := d) hl (by omega) I J G ((1, 0)) pb aa ((Int32.ofNat 4) - 1)
                                                      generalize er21 : fmF_isWithin_f aa ((Int32.ofNat 4) - 1) = r21 at he hp
                                                      have he := he.trans (fm_letE _ _)
                                                      have hp := fm_letP hp
                                                      rw [er21] at K
                                                      refine fm_cN0 O fmF_isWithin_o (as := [.inl aa, .inl ((Int32.ofNat 4) - 1)]) (rest := []) (v := some (.inl r21)) rfl rfl rfl fn_F_isWithin0 fn_F_isWithin (Nat.le_of_ble_eq_true rfl) (K) ?_
                                                      refine fm_gb O rfl (fun h => ?_) (fun h => ?_)
                                                      · have h27 : r21 = 0 := h
                                                        have he := he.trans (if_pos h27)
                                                        refine fm_gr O 1 (C' := (205, [(0, .inr (.inr (.inr (.inr (13, 0))))), (1, .inl op), (2, .inl aa)], [.inl 0], (I, J, G, fm_P (1, 0) pb))) rfl ?_
                                                        exact fm_gRe O rfl (Or.inl rfl) (by first | rw [he] | rfl) (by first | rw [he] | rfl)
                                                      · have h27 : ¬ r21 = 0 := h
                                                        have he := he.trans (if_neg h27)
                                                        have hp := hp.2 h27
                                                        refine fm_gr O 3 (C' := (193, [(0, .inr (.inr (.inr (.inr (13, 0))))), (1, .inl op), (2, .inl aa)], [.inl aa, .inr (.inr (.inr (.inr (1, 0))))], (I, J, G, fm_P (1, 0) pb))) rfl ?_
                                                        refine fm_gg O rfl hp ?_
                                                        refine fm_gr O 1 (C' := (197, [(0, .inr (.inr (.inr (.inr (13, 0))))), (1, .inl op), (2, .inl aa)], [.inl (I 2 aa.toNatClampNeg 0)], (I, J, G, fm_P (1, 0) pb))) rfl ?_
                                                        refine fm_gb O rfl (fun h => ?_) (fun h => ?_)
                                                        · have h28 : (I 2 aa.toNatClampNeg 0) = 0 := h
                                                          have he := he.trans (if_pos h28)
                                                          refine fm_gr O 1 (C' := (205, [(0, .inr (.inr (.inr (.inr (13, 0))))), (1, .inl op), (2, .inl aa)], [.inl 0], (I, J, G, fm_P (1, 0) pb))) rfl ?_
                                                          exact fm_gRe O rfl (Or.inl rfl) (by first | rw [he] | rfl) (by first | rw [he] | rfl)
                                                        · have h28 : ¬ (I 2 aa.toNatClampNeg 0) = 0 := h
                                                          have he := he.trans (if_neg h28)
                                                          refine fm_gr O 2 (C' := (205, [(0, .inr (.inr (.inr (.inr (13, 0))))), (1, .inl op), (2, .inl aa)], [.inl 1], (I, J, G, fm_P (1, 0) pb))) rfl ?_
                                                          exact fm_gRe O rfl (Or.inr rfl) (by first | rw [he] | rfl) (by first | rw [he] | rfl)
                                                    · have he := he.trans (if_neg h26)
                                                      refine fm_gt O rfl (by
                                                          show op.toInt < 4 ∨ 29 < op.toInt
                                                          have := lv_neT h1 (show (4 : Int32).toInt = 4 from by decide)
                                                          have := lv_neT h2 (show (5 : Int32).toInt = 5 from by decide)
                                                          have := lv_neT h3 (show (6 : Int32).toInt = 6 from by decide)
                                                          have := lv_neT h4 (show (7 : Int32).toInt = 7 from by decide)
                                                          have := lv_neT h5 (show (8 : Int32).toInt = 8 from by decide)
                                                          have := lv_neT h6 (show (9 : Int32).toInt = 9 from by decide)
                                                          have := lv_neT h7 (show (10 : Int32).toInt = 10 from by decide)
                                                          have := lv_neT h8 (show (11 : Int32).toInt = 11 from by decide)
                                                          have := lv_neT h9 (show (12 : Int32).toInt = 12 from by decide)
                                                          have := lv_neT h10 (show (13 : Int32).toInt = 13 from by decide)
                                                          have := lv_neT h11 (show (14 : Int32).toInt = 14 from by decide)
                                                          have := lv_neT h12 (show (15 : Int32).toInt = 15 from by decide)
                                                          have := lv_neT h13 (show (16 : Int32).toInt = 16 from by decide)
                                                          have := lv_neT h14 (show (17 : Int32).toInt = 17 from by decide)
                                                          have := lv_neT h15 (show (18 : Int32).toInt = 18 from by decide)
                                                          have := lv_neT h16 (show (19 : Int32).toInt = 19 from by decide)
                                                          have := lv_neT h17 (show (20 : Int32).toInt = 20 from by decide)
                                                          have := lv_neT h18 (show (21 : Int32).toInt = 21 from by decide)
                                                          have := lv_neT h19 (show (22 : Int32).toInt = 22 from by decide)
                                                          have := lv_neT h20 (show (23 : Int32).toInt = 23 from by decide)
                                                          have := lv_neT h21 (show (24 : Int32).toInt = 24 from by decide)
                                                          have := lv_neT h22 (show (25 : Int32).toInt = 25 from by decide)
                                                          have := lv_neT h23 (show (26 : Int32).toInt = 26 from by decide)
                                                          have := lv_neT h24 (show (27 : Int32).toInt = 27 from by decide)
                                                          have := lv_neT h25 (show (28 : Int32).toInt = 28 from by decide)
                                                          have := lv_neT h26 (show (29 : Int32).toInt = 29 from by decide)
                                                          omega) ?_
                                                      refine fm_gr O 1 (C' := (207, [(0, .inr (.inr (.inr (.inr (13, 0))))), (1, .inl op), (2, .inl aa)], [.inl 1], (I, J, G, fm_P (1, 0) pb))) rfl ?_
                                                      exact fm_gRe O rfl (Or.inr rfl) (by first | rw [he] | rfl) (by first | rw [he] | rfl)
end
section
/-! THE CHECKER, by program (wip/tools/walk.py, gen_c2.py) -/
def fmC_moveValues_f (I : fm_MI) (op : Int32) (aa : Int32) : fm_MI :=
  if op = 4 then (fm_let (fmC_addRow_f I op aa) (fun (r1 : Int32 × fm_MI) => fm_let (fmC_put_f r1.2 (r1.2 3 ((r1.2 13 0 1).toNatClampNeg) aa.toNatClampNeg)) (fun (r2 : fm_MI) => r2))) else (if op = 5 then (fm_let (fmC_take_f I (I 3 ((I 13 0 1).toNatClampNeg) aa.toNatClampNeg)) (fun (r3 : Int32 × fm_MI) => fm_let (fmC_addRow_f r3.2 op aa) (fun (r4 : Int32 × fm_MI) => r4.2))) else (if op = 6 then (fm_let (fmC_take_f I (I 3 ((I 13 0 1).toNatClampNeg) aa.toNatClampNeg)) (fun (r5 : Int32 × fm_MI) => fm_let (fmC_addRow_f r5.2 op aa) (fun (r6 : Int32 × fm_MI) => fm_let (fmC_put_f r6.2 (r6.2 3 ((r6.2 13 0 1).toNatClampNeg) aa.toNatClampNeg)) (fun (r7 : fm_MI) => r7)))) else (if op = 7 then (fm_let (fmC_addRow_f I op aa) (fun (r8 : Int32 × fm_MI) => fm_let (fmC_put_f r8.2 aa) (fun (r9 : fm_MI) => r9))) else (if op = 8 then (fm_let (fmC_take_f I aa) (fun (r10 : Int32 × fm_MI) => fm_let (fmC_addRow_f r10.2 op aa) (fun (r11 : Int32 × fm_MI) => r11.2))) else (if op = 9 then (fm_let (fmC_take_f I 5) (fun (r12 : Int32 × fm_MI) => fm_let (fmC_addRow_f r12.2 op aa) (fun (r13 : Int32 × fm_MI) => r13.2))) else (if op = 10 then (fm_let (fmC_take_f I 0) (fun (r14 : Int32 × fm_MI) => fm_let (fmC_take_f r14.2 5) (fun (r15 : Int32 × fm_MI) => fm_let (fmC_take_f r15.2 r15.1) (fun (r16 : Int32 × fm_MI) => fm_let (fmC_addRow_f r16.2 op aa) (fun (r17 : Int32 × fm_MI) => fm_let (fmC_put_f r17.2 r16.1) (fun (r18 : fm_MI) => r18)))))) else (fm_let (fmC_addRow_f I op aa) (fun (r19 : Int32 × fm_MI) => fm_let (fmC_put_f r19.2 op) (fun (r20 : fm_MI) => r20)))))))))
theorem fmC_moveValues_e (I : fm_MI) (op : Int32) (aa : Int32) : fmC_moveValues_f I op aa = if op = 4 then (fm_let (fmC_addRow_f I op aa) (fun (r1 : Int32 × fm_MI) => fm_let (fmC_put_f r1.2 (r1.2 3 ((r1.2 13 0 1).toNatClampNeg) aa.toNatClampNeg)) (fun (r2 : fm_MI) => r2))) else (if op = 5 then (fm_let (fmC_take_f I (I 3 ((I 13 0 1).toNatClampNeg) aa.toNatClampNeg)) (fun (r3 : Int32 × fm_MI) => fm_let (fmC_addRow_f r3.2 op aa) (fun (r4 : Int32 × fm_MI) => r4.2))) else (if op = 6 then (fm_let (fmC_take_f I (I 3 ((I 13 0 1).toNatClampNeg) aa.toNatClampNeg)) (fun (r5 : Int32 × fm_MI) => fm_let (fmC_addRow_f r5.2 op aa) (fun (r6 : Int32 × fm_MI) => fm_let (fmC_put_f r6.2 (r6.2 3 ((r6.2 13 0 1).toNatClampNeg) aa.toNatClampNeg)) (fun (r7 : fm_MI) => r7)))) else (if op = 7 then (fm_let (fmC_addRow_f I op aa) (fun (r8 : Int32 × fm_MI) => fm_let (fmC_put_f r8.2 aa) (fun (r9 : fm_MI) => r9))) else (if op = 8 then (fm_let (fmC_take_f I aa) (fun (r10 : Int32 × fm_MI) => fm_let (fmC_addRow_f r10.2 op aa) (fun (r11 : Int32 × fm_MI) => r11.2))) else (if op = 9 then (fm_let (fmC_take_f I 5) (fun (r12 : Int32 × fm_MI) => fm_let (fmC_addRow_f r12.2 op aa) (fun (r13 : Int32 × fm_MI) => r13.2))) else (if op = 10 then (fm_let (fmC_take_f I 0) (fun (r14 : Int32 × fm_MI) => fm_let (fmC_take_f r14.2 5) (fun (r15 : Int32 × fm_MI) => fm_let (fmC_take_f r15.2 r15.1) (fun (r16 : Int32 × fm_MI) => fm_let (fmC_addRow_f r16.2 op aa) (fun (r17 : Int32 × fm_MI) => fm_let (fmC_put_f r17.2 r16.1) (fun (r18 : fm_MI) => r18)))))) else (fm_let (fmC_addRow_f I op aa) (fun (r19 : Int32 × fm_MI) => fm_let (fmC_put_f r19.2 op) (fun (r20 : fm_MI) => r20))))))))) := rfl
def fmC_moveValues_p (I : fm_MI) (op : Int32) (aa : Int32) : Prop :=
  (op = 4 → fmC_addRow_p I ∧ (fm_let (fmC_addRow_f I op aa) (fun (r1 : Int32 × fm_MI) => fmC_subject_p r1.2 ∧ ((vp_in aa 6) ∧ (fmC_put_p r1.2 (r1.2 3 ((r1.2 13 0 1).toNatClampNeg) aa.toNatClampNeg)))))) ∧ (¬ op = 4 → (op = 5 → fmC_subject_p I ∧ ((vp_in aa 6) ∧ (fmC_take_p I (I 3 ((I 13 0 1).toNatClampNeg) aa.toNatClampNeg) ∧ (fm_let (fmC_take_f I (I 3 ((I 13 0 1).toNatClampNeg) aa.toNatClampNeg)) (fun (r3 : Int32 × fm_MI) => fmC_addRow_p r3.2))))) ∧ (¬ op = 5 → (op = 6 → fmC_subject_p I ∧ ((vp_in aa 6) ∧ (fmC_take_p I (I 3 ((I 13 0 1).toNatClampNeg) aa.toNatClampNeg) ∧ (fm_let (fmC_take_f I (I 3 ((I 13 0 1).toNatClampNeg) aa.toNatClampNeg)) (fun (r5 : Int32 × fm_MI) => fmC_addRow_p r5.2 ∧ (fm_let (fmC_addRow_f r5.2 op aa) (fun (r6 : Int32 × fm_MI) => fmC_subject_p r6.2 ∧ ((vp_in aa 6) ∧ (fmC_put_p r6.2 (r6.2 3 ((r6.2 13 0 1).toNatClampNeg) aa.toNatClampNeg)))))))))) ∧ (¬ op = 6 → (op = 7 → fmC_addRow_p I ∧ (fm_let (fmC_addRow_f I op aa) (fun (r8 : Int32 × fm_MI) => fmC_put_p r8.2 aa))) ∧ (¬ op = 7 → (op = 8 → fmC_take_p I aa ∧ (fm_let (fmC_take_f I aa) (fun (r10 : Int32 × fm_MI) => fmC_addRow_p r10.2))) ∧ (¬ op = 8 → (op = 9 → fmC_take_p I 5 ∧ (fm_let (fmC_take_f I 5) (fun (r12 : Int32 × fm_MI) => fmC_addRow_p r12.2))) ∧ (¬ op = 9 → (op = 10 → fmC_take_p I 0 ∧ (fm_let (fmC_take_f I 0) (fun (r14 : Int32 × fm_MI) => fmC_take_p r14.2 5 ∧ (fm_let (fmC_take_f r14.2 5) (fun (r15 : Int32 × fm_MI) => fmC_take_p r15.2 r15.1 ∧ (fm_let (fmC_take_f r15.2 r15.1) (fun (r16 : Int32 × fm_MI) => fmC_addRow_p r16.2 ∧ (fm_let (fmC_addRow_f r16.2 op aa) (fun (r17 : Int32 × fm_MI) => fmC_put_p r17.2 r16.1))))))))) ∧ (¬ op = 10 → fmC_addRow_p I ∧ (fm_let (fmC_addRow_f I op aa) (fun (r19 : Int32 × fm_MI) => fmC_put_p r19.2 op)))))))))
set_option maxRecDepth 100000 in
set_option maxHeartbeats 4000000 in
theorem fmC_moveValues_c {E : fm_Ev} (hl : E.1.stackTraces = false) {d : Nat} (hd : 2 ≤ d) (I : fm_MI) (J : fm_MJ) (G : fm_MG) (pb : Nat × Nat) (op : Int32) (aa : Int32) (hp : fmC_moveValues_p I op aa) : fm_Ct E d fmC_moveValues 0 [.inr (.inr (.inr (.inr (13, 0)))), .inl op, .inl aa] (I, J, G, fm_P (1, 0) pb) none (fmC_moveValues_f I op aa, J, G, fm_P (1, 0) pb) := by
  obtain ⟨d, rfl⟩ : ∃ d', d = d' + 1 := ⟨d - 1, by omega⟩
  refine fm_ct fmC_moveValues_o hl (Nat.le_of_ble_eq_true rfl) ?_
  have O := fmC_moveValues_o.1
  unfold fmC_moveValues_p at hp
  have he := fmC_moveValues_e I op aa
  refine fm_gr O 1 (C' := (1, [(0, .inr (.inr (.inr (.inr (13, 0))))), (1, .inl op), (2, .inl aa)], [.inl op], (I, J, G, fm_P (1, 0) pb))) rfl ?_
  by_cases h1 : op = 4
  · have he := he.trans (if_pos h1)
    have hp := hp.1 h1
    refine fm_gs O 4 rfl (show op.toInt = 4 from by rw [h1]; decide) ?_
    refine fm_gr O 3 (C' := (47, [(0, .inr (.inr (.inr (.inr (13, 0))))), (1, .inl op), (2, .inl aa)], [.inl aa, .inl op, .inr (.inr (.inr (.inr (13, 0))))], (I, J, G, fm_P (1, 0) pb))) rfl ?_
    have hc := hp.1
    have hp := hp.2
    have K := fmC_addRow_c (d := d) hl (by omega) I J G pb op aa hc
    generalize er1 : fmC_addRow_f I op aa = r1 at he hp
    have he := he.trans (fm_letE _ _)
    have hp := fm_letP hp
    rw [er1] at K
    refine fm_cV0 O fmC_addRow_o (i := 0) (as := [.inl op, .inl aa]) (rest := []) (v := some (.inl r1.1)) rfl fk_1_100 rfl (by decide) fn_C_addRow (Nat.le_of_ble_eq_true rfl) (K) ?_
    refine fm_gr O 3 (C' := (53, [(0, .inr (.inr (.inr (.inr (13, 0))))), (1, .inl op), (2, .inl aa)], [.inr (.inr (.inr (.inr (13, 0)))), .inr (.inr (.inr (.inr (13, 0))))], (r1.2, J, G, fm_P (1, 0) pb))) rfl ?_
    have hc := hp.1
    have hp := hp.2
    have K := fmC_subject_c (d := d) hl (by omega) r1.2 J G pb hc
    refine fm_cV0 O fmC_subject_o (i := 0) (as := []) (rest := [.inr (.inr (.inr (.inr (13, 0))))]) (v := some (.inr (.inr (.inr (.inr (2, (r1.2 13 0 1).toNatClampNeg)))))) rfl fk_1_41 rfl (by decide) fn_C_subject (Nat.le_of_ble_eq_true rfl) (K) ?_
    refine fm_gr O 2 (C' := (60, [(0, .inr (.inr (.inr (.inr (13, 0))))), (1, .inl op), (2, .inl aa)], [.inl aa, .inr (.inr (.inr (.inr (3, (r1.2 13 0 1).toNatClampNeg)))), .inr (.inr (.inr (.inr (13, 0))))], (r1.2, J, G, fm_P (1, 0) pb))) rfl ?_
    refine fm_gg O rfl hp.1 ?_
    have hp := hp.2
    have K := fmC_put_c (d := d) hl (by omega) r1.2 J G pb (r1.2 3 ((r1.2 13 0 1).toNatClampNeg) aa.toNatClampNeg) hp
    generalize er2 : fmC_put_f r1.2 (r1.2 3 ((r1.2 13 0 1).toNatClampNeg) aa.toNatClampNeg) = r2 at he
    have he := he.trans (fm_letE _ _)
    rw [er2] at K
    refine fm_cV0 O fmC_put_o (i := 0) (as := [.inl (r1.2 3 ((r1.2 13 0 1).toNatClampNeg) aa.toNatClampNeg)]) (rest := []) (v := none) rfl fk_1_105 rfl (by decide) fn_C_put (Nat.le_of_ble_eq_true rfl) (K) ?_
    refine fm_gr O 1 (C' := (218, [(0, .inr (.inr (.inr (.inr (13, 0))))), (1, .inl op), (2, .inl aa)], [], (r2, J, G, fm_P (1, 0) pb))) rfl ?_
    exact fm_gRe O rfl trivial (by first | rw [he] | rfl) (by first | rw [he] | rfl)
  · have he := he.trans (if_neg h1)
    have hp := hp.2 h1
    by_cases h2 : op = 5
    · have he := he.trans (if_pos h2)
      have hp := hp.1 h2
      refine fm_gs O 5 rfl (show op.toInt = 5 from by rw [h2]; decide) ?_
      refine fm_gr O 2 (C' := (69, [(0, .inr (.inr (.inr (.inr (13, 0))))), (1, .inl op), (2, .inl aa)], [.inr (.inr (.inr (.inr (13, 0)))), .inr (.inr (.inr (.inr (13, 0))))], (I, J, G, fm_P (1, 0) pb))) rfl ?_
      have hc := hp.1
      have hp := hp.2
      have K := fmC_subject_c (d := d) hl (by omega) I J G pb hc
      refine fm_cV0 O fmC_subject_o (i := 0) (as := []) (rest := [.inr (.inr (.inr (.inr (13, 0))))]) (v := some (.inr (.inr (.inr (.inr (2, (I 13 0 1).toNatClampNeg)))))) rfl fk_1_41 rfl (by decide) fn_C_subject (Nat.le_of_ble_eq_true rfl) (K) ?_
      refine fm_gr O 2 (C' := (76, [(0, .inr (.inr (.inr (.inr (13, 0))))), (1, .inl op), (2, .inl aa)], [.inl aa, .inr (.inr (.inr (.inr (3, (I 13 0 1).toNatClampNeg)))), .inr (.inr (.inr (.inr (13, 0))))], (I, J, G, fm_P (1, 0) pb))) rfl ?_
      refine fm_gg O rfl hp.1 ?_
      have hp := hp.2
      have hc := hp.1
      have hp := hp.2
      have K := fmC_take_c (d := d) hl (by omega) I J G pb (I 3 ((I 13 0 1).toNatClampNeg) aa.toNatClampNeg) hc
      generalize er3 : fmC_take_f I (I 3 ((I 13 0 1).toNatClampNeg) aa.toNatClampNeg) = r3 at he hp
      have he := he.trans (fm_letE _ _)
      have hp := fm_letP hp
      rw [er3] at K
      refine fm_cV0 O fmC_take_o (i := 0) (as := [.inl (I 3 ((I 13 0 1).toNatClampNeg) aa.toNatClampNeg)]) (rest := []) (v := some (.inl r3.1)) rfl fk_1_109 rfl (by decide) fn_C_take (Nat.le_of_ble_eq_true rfl) (K) ?_
      refine fm_gr O 4 (C' := (84, [(0, .inr (.inr (.inr (.inr (13, 0))))), (1, .inl op), (2, .inl aa)], [.inl aa, .inl op, .inr (.inr (.inr (.inr (13, 0))))], (r3.2, J, G, fm_P (1, 0) pb))) rfl ?_
      have K := fmC_addRow_c (d := d) hl (by omega) r3.2 J G pb op aa hp
      generalize er4 : fmC_addRow_f r3.2 op aa = r4 at he
      have he := he.trans (fm_letE _ _)
      rw [er4] at K
      refine fm_cV0 O fmC_addRow_o (i := 0) (as := [.inl op, .inl aa]) (rest := []) (v := some (.inl r4.1)) rfl fk_1_100 rfl (by decide) fn_C_addRow (Nat.le_of_ble_eq_true rfl) (K) ?_
      refine fm_gr O 2 (C' := (218, [(0, .inr (.inr (.inr (.inr (13, 0))))), (1, .inl op), (2, .inl aa)], [], (r4.2, J, G, fm_P (1, 0) pb))) rfl ?_
      exact fm_gRe O rfl trivial (by first | rw [he] | rfl) (by first | rw [he] | rfl)
    · have he := he.trans (if_neg h2)
      have hp := hp.2 h2
      by_cases h3 : op = 6
      · have he := he.trans (if_pos h3)
        have hp := hp.1 h3
        refine fm_gs O 6 rfl (show op.toInt = 6 from by rw [h3]; decide) ?_
        refine fm_gr O 2 (C' := (93, [(0, .inr (.inr (.inr (.inr (13, 0))))), (1, .inl op), (2, .inl aa)], [.inr (.inr (.inr (.inr (13, 0)))), .inr (.inr (.inr (.inr (13, 0))))], (I, J, G, fm_P (1, 0) pb))) rfl ?_
        have hc := hp.1
        have hp := hp.2
        have K := fmC_subject_c (d := d) hl (by omega) I J G pb hc
        refine fm_cV0 O fmC_subject_o (i := 0) (as := []) (rest := [.inr (.inr (.inr (.inr (13, 0))))]) (v := some (.inr (.inr (.inr (.inr (2, (I 13 0 1).toNatClampNeg)))))) rfl fk_1_41 rfl (by decide) fn_C_subject (Nat.le_of_ble_eq_true rfl) (K) ?_
        refine fm_gr O 2 (C' := (100, [(0, .inr (.inr (.inr (.inr (13, 0))))), (1, .inl op), (2, .inl aa)], [.inl aa, .inr (.inr (.inr (.inr (3, (I 13 0 1).toNatClampNeg)))), .inr (.inr (.inr (.inr (13, 0))))], (I, J, G, fm_P (1, 0) pb))) rfl ?_
        refine fm_gg O rfl hp.1 ?_
        have hp := hp.2
        have hc := hp.1
        have hp := hp.2
        have K := fmC_take_c (d := d) hl (by omega) I J G pb (I 3 ((I 13 0 1).toNatClampNeg) aa.toNatClampNeg) hc
        generalize er5 : fmC_take_f I (I 3 ((I 13 0 1).toNatClampNeg) aa.toNatClampNeg) = r5 at he hp
        have he := he.trans (fm_letE _ _)
        have hp := fm_letP hp
        rw [er5] at K
        refine fm_cV0 O fmC_take_o (i := 0) (as := [.inl (I 3 ((I 13 0 1).toNatClampNeg) aa.toNatClampNeg)]) (rest := []) (v := some (.inl r5.1)) rfl fk_1_109 rfl (by decide) fn_C_take (Nat.le_of_ble_eq_true rfl) (K) ?_
        refine fm_gr O 4 (C' := (108, [(0, .inr (.inr (.inr (.inr (13, 0))))), (1, .inl op), (2, .inl aa)], [.inl aa, .inl op, .inr (.inr (.inr (.inr (13, 0))))], (r5.2, J, G, fm_P (1, 0) pb))) rfl ?_
        have hc := hp.1
        have hp := hp.2
        have K := fmC_addRow_c (d := d) hl (by omega) r5.2 J G pb op aa hc
        generalize er6 : fmC_addRow_f r5.2 op aa = r6 at he hp
        have he := he.trans (fm_letE _ _)
        have hp := fm_letP hp
        rw [er6] at K
        refine fm_cV0 O fmC_addRow_o (i := 0) (as := [.inl op, .inl aa]) (rest := []) (v := some (.inl r6.1)) rfl fk_1_100 rfl (by decide) fn_C_addRow (Nat.le_of_ble_eq_true rfl) (K) ?_
        refine fm_gr O 3 (C' := (114, [(0, .inr (.inr (.inr (.inr (13, 0))))), (1, .inl op), (2, .inl aa)], [.inr (.inr (.inr (.inr (13, 0)))), .inr (.inr (.inr (.inr (13, 0))))], (r6.2, J, G, fm_P (1, 0) pb))) rfl ?_
        have hc := hp.1
        have hp := hp.2
        have K := fmC_subject_c (d := d) hl (by omega) r6.2 J G pb hc
        refine fm_cV0 O fmC_subject_o (i := 0) (as := []) (rest := [.inr (.inr (.inr (.inr (13, 0))))]) (v := some (.inr (.inr (.inr (.inr (2, (r6.2 13 0 1).toNatClampNeg)))))) rfl fk_1_41 rfl (by decide) fn_C_subject (Nat.le_of_ble_eq_true rfl) (K) ?_
        refine fm_gr O 2 (C' := (121, [(0, .inr (.inr (.inr (.inr (13, 0))))), (1, .inl op), (2, .inl aa)], [.inl aa, .inr (.inr (.inr (.inr (3, (r6.2 13 0 1).toNatClampNeg)))), .inr (.inr (.inr (.inr (13, 0))))], (r6.2, J, G, fm_P (1, 0) pb))) rfl ?_
        refine fm_gg O rfl hp.1 ?_
        have hp := hp.2
        have K := fmC_put_c (d := d) hl (by omega) r6.2 J G pb (r6.2 3 ((r6.2 13 0 1).toNatClampNeg) aa.toNatClampNeg) hp
        generalize er7 : fmC_put_f r6.2 (r6.2 3 ((r6.2 13 0 1).toNatClampNeg) aa.toNatClampNeg) = r7 at he
        have he := he.trans (fm_letE _ _)
        rw [er7] at K
        refine fm_cV0 O fmC_put_o (i := 0) (as := [.inl (r6.2 3 ((r6.2 13 0 1).toNatClampNeg) aa.toNatClampNeg)]) (rest := []) (v := none) rfl fk_1_105 rfl (by decide) fn_C_put (Nat.le_of_ble_eq_true rfl) (K) ?_
        refine fm_gr O 1 (C' := (218, [(0, .inr (.inr (.inr (.inr (13, 0))))), (1, .inl op), (2, .inl aa)], [], (r7, J, G, fm_P (1, 0) pb))) rfl ?_
        exact fm_gRe O rfl trivial (by first | rw [he] | rfl) (by first | rw [he] | rfl)
      · have he := he.trans (if_neg h3)
        have hp := hp.2 h3
        by_cases h4 : op = 7
        · have he := he.trans (if_pos h4)
          have hp := hp.1 h4
          refine fm_gs O 7 rfl (show op.toInt = 7 from by rw [h4]; decide) ?_
          refine fm_gr O 3 (C' := (131, [(0, .inr (.inr (.inr (.inr (13, 0))))), (1, .inl op), (2, .inl aa)], [.inl aa, .inl op, .inr (.inr (.inr (.inr (13, 0))))], (I, J, G, fm_P (1, 0) pb))) rfl ?_
          have hc := hp.1
          have hp := hp.2
          have K := fmC_addRow_c (d := d) hl (by omega) I J G pb op aa hc
          generalize er8 : fmC_addRow_f I op aa = r8 at he hp
          have he := he.trans (fm_letE _ _)
          have hp := fm_letP hp
          rw [er8] at K
          refine fm_cV0 O fmC_addRow_o (i := 0) (as := [.inl op, .inl aa]) (rest := []) (v := some (.inl r8.1)) rfl fk_1_100 rfl (by decide) fn_C_addRow (Nat.le_of_ble_eq_true rfl) (K) ?_
          refine fm_gr O 3 (C' := (137, [(0, .inr (.inr (.inr (.inr (13, 0))))), (1, .inl op), (2, .inl aa)], [.inl aa, .inr (.inr (.inr (.inr (13, 0))))], (r8.2, J, G, fm_P (1, 0) pb))) rfl ?_
          have K := fmC_put_c (d := d) hl (by omega) r8.2 J G pb aa hp
          generalize er9 : fmC_put_f r8.2 aa = r9 at he
          have he := he.trans (fm_letE _ _)
          rw [er9] at K
          refine fm_cV0 O fmC_put_o (i := 0) (as := [.inl aa]) (rest := []) (v := none) rfl fk_1_105 rfl (by decide) fn_C_put (Nat.le_of_ble_eq_true rfl) (K) ?_
          refine fm_gr O 1 (C' := (218, [(0, .inr (.inr (.inr (.inr (13, 0))))), (1, .inl op), (2, .inl aa)], [], (r9, J, G, fm_P (1, 0) pb))) rfl ?_
          exact fm_gRe O rfl trivial (by first | rw [he] | rfl) (by first | rw [he] | rfl)
        · have he := he.trans (if_neg h4)
          have hp := hp.2 h4
          by_cases h5 : op = 8
          · have he := he.trans (if_pos h5)
            have hp := hp.1 h5
            refine fm_gs O 8 rfl (show op.toInt = 8 from by rw [h5]; decide) ?_
            refine fm_gr O 2 (C' := (145, [(0, .inr (.inr (.inr (.inr (13, 0))))), (1, .inl op), (2, .inl aa)], [.inl aa, .inr (.inr (.inr (.inr (13, 0))))], (I, J, G, fm_P (1, 0) pb))) rfl ?_
            have hc := hp.1
            have hp := hp.2
            have K := fmC_take_c (d := d) hl (by omega) I J G pb aa hc
            generalize er10 : fmC_take_f I aa = r10 at he hp
            have he := he.trans (fm_letE _ _)
            have hp := fm_letP hp
            rw [er10] at K
            refine fm_cV0 O fmC_take_o (i := 0) (as := [.inl aa]) (rest := []) (v := some (.inl r10.1)) rfl fk_1_109 rfl (by decide) fn_C_take (Nat.le_of_ble_eq_true rfl) (K) ?_
            refine fm_gr O 4 (C' := (152, [(0, .inr (.inr (.inr (.inr (13, 0))))), (1, .inl op), (2, .inl aa)], [.inl aa, .inl op, .inr (.inr (.inr (.inr (13, 0))))], (r10.2, J, G, fm_P (1, 0) pb))) rfl ?_
            have K := fmC_addRow_c (d := d) hl (by omega) r10.2 J G pb op aa hp
            generalize er11 : fmC_addRow_f r10.2 op aa = r11 at he
            have he := he.trans (fm_letE _ _)
            rw [er11] at K
            refine fm_cV0 O fmC_addRow_o (i := 0) (as := [.inl op, .inl aa]) (rest := []) (v := some (.inl r11.1)) rfl fk_1_100 rfl (by decide) fn_C_addRow (Nat.le_of_ble_eq_true rfl) (K) ?_
            refine fm_gr O 2 (C' := (218, [(0, .inr (.inr (.inr (.inr (13, 0))))), (1, .inl op), (2, .inl aa)], [], (r11.2, J, G, fm_P (1, 0) pb))) rfl ?_
            exact fm_gRe O rfl trivial (by first | rw [he] | rfl) (by first | rw [he] | rfl)
          · have he := he.trans (if_neg h5)
            have hp := hp.2 h5
            by_cases h6 : op = 9
            · have he := he.trans (if_pos h6)
              have hp := hp.1 h6
              refine fm_gs O 9 rfl (show op.toInt = 9 from by rw [h6]; decide) ?_
              refine fm_gr O 2 (C' := (161, [(0, .inr (.inr (.inr (.inr (13, 0))))), (1, .inl op), (2, .inl aa)], [.inl 5, .inr (.inr (.inr (.inr (13, 0))))], (I, J, G, fm_P (1, 0) pb))) rfl ?_
              have hc := hp.1
              have hp := hp.2
              have K := fmC_take_c (d := d) hl (by omega) I J G pb 5 hc
              generalize er12 : fmC_take_f I 5 = r12 at he hp
              have he := he.trans (fm_letE _ _)
              have hp := fm_letP hp
              rw [er12] at K
              refine fm_cV0 O fmC_take_o (i := 0) (as := [.inl 5]) (rest := []) (v := some (.inl r12.1)) rfl fk_1_109 rfl (by decide) fn_C_take (Nat.le_of_ble_eq_true rfl) (K) ?_
              refine fm_gr O 4 (C' := (168, [(0, .inr (.inr (.inr (.inr (13, 0))))), (1, .inl op), (2, .inl aa)], [.inl aa, .inl op, .inr (.inr (.inr (.inr (13, 0))))], (r12.2, J, G, fm_P (1, 0) pb))) rfl ?_
              have K := fmC_addRow_c (d := d) hl (by omega) r12.2 J G pb op aa hp
              generalize er13 : fmC_addRow_f r12.2 op aa = r13 at he
              have he := he.trans (fm_letE _ _)
              rw [er13] at K
              refine fm_cV0 O fmC_addRow_o (i := 0) (as := [.inl op, .inl aa]) (rest := []) (v := some (.inl r13.1)) rfl fk_1_100 rfl (by decide) fn_C_addRow (Nat.le_of_ble_eq_true rfl) (K) ?_
              refine fm_gr O 2 (C' := (218, [(0, .inr (.inr (.inr (.inr (13, 0))))), (1, .inl op), (2, .inl aa)], [], (r13.2, J, G, fm_P (1, 0) pb))) rfl ?_
              exact fm_gRe O rfl trivial (by first | rw [he] | rfl) (by first | rw [he] | rfl)
            · have he := he.trans (if_neg h6)
              have hp := hp.2 h6
              by_cases h7 : op = 10
              · have he := he.trans (if_pos h7)
                have hp := hp.1 h7
                refine fm_gs O 10 rfl (show op.toInt = 10 from by rw [h7]; decide) ?_
                refine fm_gr O 2 (C' := (177, [(0, .inr (.inr (.inr (.inr (13, 0))))), (1, .inl op), (2, .inl aa)], [.inl 0, .inr (.inr (.inr (.inr (13, 0))))], (I, J, G, fm_P (1, 0) pb))) rfl ?_
                have hc := hp.1
                have hp := hp.2
                have K := fmC_take_c (d := d) hl (by omega) I J G pb 0 hc
                generalize er14 : fmC_take_f I 0 = r14 at he hp
                have he := he.trans (fm_letE _ _)
                have hp := fm_letP hp
                rw [er14] at K
                refine fm_cV0 O fmC_take_o (i := 0) (as := [.inl 0]) (rest := []) (v := some (.inl r14.1)) rfl fk_1_109 rfl (by decide) fn_C_take (Nat.le_of_ble_eq_true rfl) (K) ?_
                refine fm_gr O 4 (C' := (184, [(0, .inr (.inr (.inr (.inr (13, 0))))), (1, .inl op), (2, .inl aa)], [.inl 5, .inr (.inr (.inr (.inr (13, 0)))), .inr (.inr (.inr (.inr (13, 0))))], (r14.2, J, G, fm_P (1, 0) pb))) rfl ?_
                have hc := hp.1
                have hp := hp.2
                have K := fmC_take_c (d := d) hl (by omega) r14.2 J G pb 5 hc
                generalize er15 : fmC_take_f r14.2 5 = r15 at he hp
                have he := he.trans (fm_letE _ _)
                have hp := fm_letP hp
                rw [er15] at K
                refine fm_cV0 O fmC_take_o (i := 0) (as := [.inl 5]) (rest := [.inr (.inr (.inr (.inr (13, 0))))]) (v := some (.inl r15.1)) rfl fk_1_109 rfl (by decide) fn_C_take (Nat.le_of_ble_eq_true rfl) (K) ?_
                have hc := hp.1
                have hp := hp.2
                have K := fmC_take_c (d := d) hl (by omega) r15.2 J G pb r15.1 hc
                generalize er16 : fmC_take_f r15.2 r15.1 = r16 at he hp
                have he := he.trans (fm_letE _ _)
                have hp := fm_letP hp
                rw [er16] at K
                refine fm_cV0 O fmC_take_o (i := 0) (as := [.inl r15.1]) (rest := []) (v := some (.inl r16.1)) rfl fk_1_109 rfl (by decide) fn_C_take (Nat.le_of_ble_eq_true rfl) (K) ?_
                refine fm_gr O 4 (C' := (194, [(3, .inl r16.1), (0, .inr (.inr (.inr (.inr (13, 0))))), (1, .inl op), (2, .inl aa)], [.inl aa, .inl op, .inr (.inr (.inr (.inr (13, 0))))], (r16.2, J, G, fm_P (1, 0) pb))) rfl ?_
                have hc := hp.1
                have hp := hp.2
                have K := fmC_addRow_c (d := d) hl (by omega) r16.2 J G pb op aa hc
                generalize er17 : fmC_addRow_f r16.2 op aa = r17 at he hp
                have he := he.trans (fm_letE _ _)
                have hp := fm_letP hp
                rw [er17] at K
                refine fm_cV0 O fmC_addRow_o (i := 0) (as := [.inl op, .inl aa]) (rest := []) (v := some (.inl r17.1)) rfl fk_1_100 rfl (by decide) fn_C_addRow (Nat.le_of_ble_eq_true rfl) (K) ?_
                refine fm_gr O 3 (C' := (200, [(3, .inl r16.1), (0, .inr (.inr (.inr (.inr (13, 0))))), (1, .inl op), (2, .inl aa)], [.inl r16.1, .inr (.inr (.inr (.inr (13, 0))))], (r17.2, J, G, fm_P (1, 0) pb))) rfl ?_
                have K := fmC_put_c (d := d) hl (by omega) r17.2 J G pb r16.1 hp
                generalize er18 : fmC_put_f r17.2 r16.1 = r18 at he
                have he := he.trans (fm_letE _ _)
                rw [er18] at K
                refine fm_cV0 O fmC_put_o (i := 0) (as := [.inl r16.1]) (rest := []) (v := none) rfl fk_1_105 rfl (by decide) fn_C_put (Nat.le_of_ble_eq_true rfl) (K) ?_
                refine fm_gr O 1 (C' := (218, [(3, .inl r16.1), (0, .inr (.inr (.inr (.inr (13, 0))))), (1, .inl op), (2, .inl aa)], [], (r18, J, G, fm_P (1, 0) pb))) rfl ?_
                exact fm_gRe O rfl trivial (by first | rw [he] | rfl) (by first | rw [he] | rfl)
              · have he := he.trans (if_neg h7)
                have hp := hp.2 h7
                refine fm_gt O rfl (by
                    show op.toInt < 4 ∨ 10 < op.toInt
                    have := lv_neT h1 (show (4 : Int32).toInt = 4 from by decide)
                    have := lv_neT h2 (show (5 : Int32).toInt = 5 from by decide)
                    have := lv_neT h3 (show (6 : Int32).toInt = 6 from by decide)
                    have := lv_neT h4 (show (7 : Int32).toInt = 7 from by decide)
                    have := lv_neT h5 (show (8 : Int32).toInt = 8 from by decide)
                    have := lv_neT h6 (show (9 : Int32).toInt = 9 from by decide)
                    have := lv_neT h7 (show (10 : Int32).toInt = 10 from by decide)
                    omega) ?_
                refine fm_gr O 3 (C' := (209, [(0, .inr (.inr (.inr (.inr (13, 0))))), (1, .inl op), (2, .inl aa)], [.inl aa, .inl op, .inr (.inr (.inr (.inr (13, 0))))], (I, J, G, fm_P (1, 0) pb))) rfl ?_
                have hc := hp.1
                have hp := hp.2
                have K := fmC_addRow_c (d := d) hl (by omega) I J G pb op aa hc
                generalize er19 : fmC_addRow_f I op aa = r19 at he hp
                have he := he.trans (fm_letE _ _)
                have hp := fm_letP hp
                rw [er19] at K
                refine fm_cV0 O fmC_addRow_o (i := 0) (as := [.inl op, .inl aa]) (rest := []) (v := some (.inl r19.1)) rfl fk_1_100 rfl (by decide) fn_C_addRow (Nat.le_of_ble_eq_true rfl) (K) ?_
                refine fm_gr O 3 (C' := (215, [(0, .inr (.inr (.inr (.inr (13, 0))))), (1, .inl op), (2, .inl aa)], [.inl op, .inr (.inr (.inr (.inr (13, 0))))], (r19.2, J, G, fm_P (1, 0) pb))) rfl ?_
                have K := fmC_put_c (d := d) hl (by omega) r19.2 J G pb op hp
                generalize er20 : fmC_put_f r19.2 op = r20 at he
                have he := he.trans (fm_letE _ _)
                rw [er20] at K
                refine fm_cV0 O fmC_put_o (i := 0) (as := [.inl op]) (rest := []) (v := none) rfl fk_1_105 rfl (by decide) fn_C_put (Nat.le_of_ble_eq_true rfl) (K) ?_
                exact fm_gRe O rfl trivial (by first | rw [he] | rfl) (by first | rw [he] | rfl)
def fmC_compute_f (I : fm_MI) (op : Int32) (aa : Int32) : fm_MI :=
  if op = 20 then (fm_let (fmC_take_f I (aa / 4)) (fun (r1 : Int32 × fm_MI) => fm_let (fmC_addRow_f r1.2 op aa) (fun (r2 : Int32 × fm_MI) => fm_let (fmC_put_f r2.2 (aa - aa / 4 * 4)) (fun (r3 : fm_MI) => r3)))) else (fm_let (fmC_take_f I aa) (fun (r4 : Int32 × fm_MI) => fm_let (fmC_take_f r4.2 aa) (fun (r5 : Int32 × fm_MI) => fm_let (fmC_addRow_f r5.2 op aa) (fun (r6 : Int32 × fm_MI) => if op = 18 then (fm_let (fmC_put_f r6.2 0) (fun (r7 : fm_MI) => r7)) else (if op = 19 then (fm_let (fmC_put_f r6.2 0) (fun (r8 : fm_MI) => r8)) else (fm_let (fmC_put_f r6.2 aa) (fun (r9 : fm_MI) => r9)))))))
theorem fmC_compute_e (I : fm_MI) (op : Int32) (aa : Int32) : fmC_compute_f I op aa = if op = 20 then (fm_let (fmC_take_f I (aa / 4)) (fun (r1 : Int32 × fm_MI) => fm_let (fmC_addRow_f r1.2 op aa) (fun (r2 : Int32 × fm_MI) => fm_let (fmC_put_f r2.2 (aa - aa / 4 * 4)) (fun (r3 : fm_MI) => r3)))) else (fm_let (fmC_take_f I aa) (fun (r4 : Int32 × fm_MI) => fm_let (fmC_take_f r4.2 aa) (fun (r5 : Int32 × fm_MI) => fm_let (fmC_addRow_f r5.2 op aa) (fun (r6 : Int32 × fm_MI) => if op = 18 then (fm_let (fmC_put_f r6.2 0) (fun (r7 : fm_MI) => r7)) else (if op = 19 then (fm_let (fmC_put_f r6.2 0) (fun (r8 : fm_MI) => r8)) else (fm_let (fmC_put_f r6.2 aa) (fun (r9 : fm_MI) => r9))))))) := rfl
def fmC_compute_p (I : fm_MI) (op : Int32) (aa : Int32) : Prop :=
  (op = 20 → fmC_take_p I (aa / 4) ∧ (fm_let (fmC_take_f I (aa / 4)) (fun (r1 : Int32 × fm_MI) => fmC_addRow_p r1.2 ∧ (fm_let (fmC_addRow_f r1.2 op aa) (fun (r2 : Int32 × fm_MI) => fmC_put_p r2.2 (aa - aa / 4 * 4)))))) ∧ (¬ op = 20 → fmC_take_p I aa ∧ (fm_let (fmC_take_f I aa) (fun (r4 : Int32 × fm_MI) => fmC_take_p r4.2 aa ∧ (fm_let (fmC_take_f r4.2 aa) (fun (r5 : Int32 × fm_MI) => fmC_addRow_p r5.2 ∧ (fm_let (fmC_addRow_f r5.2 op aa) (fun (r6 : Int32 × fm_MI) => (op = 18 → fmC_put_p r6.2 0) ∧ (¬ op = 18 → (op = 19 → fmC_put_p r6.2 0) ∧ (¬ op = 19 → fmC_put_p r6.2 aa)))))))))
set_option maxRecDepth 100000 in
set_option maxHeartbeats 4000000 in
theorem fmC_compute_c {E : fm_Ev} (hl : E.1.stackTraces = false) {d : Nat} (hd : 2 ≤ d) (I : fm_MI) (J : fm_MJ) (G : fm_MG) (pb : Nat × Nat) (op : Int32) (aa : Int32) (hp : fmC_compute_p I op aa) : fm_Ct E d fmC_compute 0 [.inr (.inr (.inr (.inr (13, 0)))), .inl op, .inl aa] (I, J, G, fm_P (1, 0) pb) none (fmC_compute_f I op aa, J, G, fm_P (1, 0) pb) := by
  obtain ⟨d, rfl⟩ : ∃ d', d = d' + 1 := ⟨d - 1, by omega⟩
  refine fm_ct fmC_compute_o hl (Nat.le_of_ble_eq_true rfl) ?_
  have O := fmC_compute_o.1
  unfold fmC_compute_p at hp
  have he := fmC_compute_e I op aa
  refine fm_gr O 2 (C' := (3, [(0, .inr (.inr (.inr (.inr (13, 0))))), (1, .inl op), (2, .inl aa)], [.inl 20, .inl op], (I, J, G, fm_P (1, 0) pb))) rfl ?_
  refine fm_gb O rfl (fun h => ?_) (fun h => ?_)
  · have h1 : op = 20 := h
    have he := he.trans (if_pos h1)
    have hp := hp.1 h1
    refine fm_gr O 3 (C' := (9, [(0, .inr (.inr (.inr (.inr (13, 0))))), (1, .inl op), (2, .inl aa)], [.inl 4, .inl aa, .inr (.inr (.inr (.inr (13, 0))))], (I, J, G, fm_P (1, 0) pb))) rfl ?_
    refine fm_gg O rfl (show ¬ (4 : Int32) = 0 by decide) ?_
    have hc := hp.1
    have hp := hp.2
    have K := fmC_take_c (d := d) hl (by omega) I J G pb (aa / 4) hc
    generalize er1 : fmC_take_f I (aa / 4) = r1 at he hp
    have he := he.trans (fm_letE _ _)
    have hp := fm_letP hp
    rw [er1] at K
    refine fm_cV0 O fmC_take_o (i := 0) (as := [.inl (aa / 4)]) (rest := []) (v := some (.inl r1.1)) rfl fk_1_109 rfl (by decide) fn_C_take (Nat.le_of_ble_eq_true rfl) (K) ?_
    refine fm_gr O 4 (C' := (17, [(0, .inr (.inr (.inr (.inr (13, 0))))), (1, .inl op), (2, .inl aa)], [.inl aa, .inl op, .inr (.inr (.inr (.inr (13, 0))))], (r1.2, J, G, fm_P (1, 0) pb))) rfl ?_
    have hc := hp.1
    have hp := hp.2
    have K := fmC_addRow_c (d := d) hl (by omega) r1.2 J G pb op aa hc
    generalize er2 : fmC_addRow_f r1.2 op aa = r2 at he hp
    have he := he.trans (fm_letE _ _)
    have hp := fm_letP hp
    rw [er2] at K
    refine fm_cV0 O fmC_addRow_o (i := 0) (as := [.inl op, .inl aa]) (rest := []) (v := some (.inl r2.1)) rfl fk_1_100 rfl (by decide) fn_C_addRow (Nat.le_of_ble_eq_true rfl) (K) ?_
    refine fm_gr O 4 (C' := (24, [(0, .inr (.inr (.inr (.inr (13, 0))))), (1, .inl op), (2, .inl aa)], [.inl 4, .inl aa, .inr (.inr (.inr (.inr (13, 0))))], (r2.2, J, G, fm_P (1, 0) pb))) rfl ?_
    refine fm_gg O rfl (show ¬ (4 : Int32) = 0 by decide) ?_
    have K := fmC_put_c (d := d) hl (by omega) r2.2 J G pb (aa - aa / 4 * 4) hp
    generalize er3 : fmC_put_f r2.2 (aa - aa / 4 * 4) = r3 at he
    have he := he.trans (fm_letE _ _)
    rw [er3] at K
    refine fm_cV0 O fmC_put_o (i := 0) (as := [.inl (aa - aa / 4 * 4)]) (rest := []) (v := none) rfl fk_1_105 rfl (by decide) fn_C_put (Nat.le_of_ble_eq_true rfl) (K) ?_
    refine fm_gr O 1 (C' := (71, [(0, .inr (.inr (.inr (.inr (13, 0))))), (1, .inl op), (2, .inl aa)], [], (r3, J, G, fm_P (1, 0) pb))) rfl ?_
    exact fm_gRe O rfl trivial (by first | rw [he] | rfl) (by first | rw [he] | rfl)
  · have h1 : ¬ op = 20 := h
    have he := he.trans (if_neg h1)
    have hp := hp.2 h1
    refine fm_gr O 2 (C' := (33, [(0, .inr (.inr (.inr (.inr (13, 0))))), (1, .inl op), (2, .inl aa)], [.inl aa, .inr (.inr (.inr (.inr (13, 0))))], (I, J, G, fm_P (1, 0) pb))) rfl ?_
    have hc := hp.1
    have hp := hp.2
    have K := fmC_take_c (d := d) hl (by omega) I J G pb aa hc
    generalize er4 : fmC_take_f I aa = r4 at he hp
    have he := he.trans (fm_letE _ _)
    have hp := fm_letP hp
    rw [er4] at K
    refine fm_cV0 O fmC_take_o (i := 0) (as := [.inl aa]) (rest := []) (v := some (.inl r4.1)) rfl fk_1_109 rfl (by decide) fn_C_take (Nat.le_of_ble_eq_true rfl) (K) ?_
    refine fm_gr O 3 (C' := (39, [(0, .inr (.inr (.inr (.inr (13, 0))))), (1, .inl op), (2, .inl aa)], [.inl aa, .inr (.inr (.inr (.inr (13, 0))))], (r4.2, J, G, fm_P (1, 0) pb))) rfl ?_
    have hc := hp.1
    have hp := hp.2
    have K := fmC_take_c (d := d) hl (by omega) r4.2 J G pb aa hc
    generalize er5 : fmC_take_f r4.2 aa = r5 at he hp
    have he := he.trans (fm_letE _ _)
    have hp := fm_letP hp
    rw [er5] at K
    refine fm_cV0 O fmC_take_o (i := 0) (as := [.inl aa]) (rest := []) (v := some (.inl r5.1)) rfl fk_1_109 rfl (by decide) fn_C_take (Nat.le_of_ble_eq_true rfl) (K) ?_
    refine fm_gr O 4 (C' := (46, [(0, .inr (.inr (.inr (.inr (13, 0))))), (1, .inl op), (2, .inl aa)], [.inl aa, .inl op, .inr (.inr (.inr (.inr (13, 0))))], (r5.2, J, G, fm_P (1, 0) pb))) rfl ?_
    have hc := hp.1
    have hp := hp.2
    have K := fmC_addRow_c (d := d) hl (by omega) r5.2 J G pb op aa hc
    generalize er6 : fmC_addRow_f r5.2 op aa = r6 at he hp
    have he := he.trans (fm_letE _ _)
    have hp := fm_letP hp
    rw [er6] at K
    refine fm_cV0 O fmC_addRow_o (i := 0) (as := [.inl op, .inl aa]) (rest := []) (v := some (.inl r6.1)) rfl fk_1_100 rfl (by decide) fn_C_addRow (Nat.le_of_ble_eq_true rfl) (K) ?_
    refine fm_gr O 4 (C' := (54, [(0, .inr (.inr (.inr (.inr (13, 0))))), (1, .inl op), (2, .inl aa)], [.inl 18, .inl op, .inr (.inr (.inr (.inr (13, 0))))], (r6.2, J, G, fm_P (1, 0) pb))) rfl ?_
    refine fm_gb O rfl (fun h => ?_) (fun h => ?_)
    · have h2 : op = 18 := h
      have he := he.trans (if_pos h2)
      have hp := hp.1 h2
      refine fm_gr O 2 (C' := (68, [(0, .inr (.inr (.inr (.inr (13, 0))))), (1, .inl op), (2, .inl aa)], [.inl 0, .inr (.inr (.inr (.inr (13, 0))))], (r6.2, J, G, fm_P (1, 0) pb))) rfl ?_
      have K := fmC_put_c (d := d) hl (by omega) r6.2 J G pb 0 hp
      generalize er7 : fmC_put_f r6.2 0 = r7 at he
      have he := he.trans (fm_letE _ _)
      rw [er7] at K
      refine fm_cV0 O fmC_put_o (i := 0) (as := [.inl 0]) (rest := []) (v := none) rfl fk_1_105 rfl (by decide) fn_C_put (Nat.le_of_ble_eq_true rfl) (K) ?_
      exact fm_gRe O rfl trivial (by first | rw [he] | rfl) (by first | rw [he] | rfl)
    · have h2 : ¬ op = 18 := h
      have he := he.trans (if_neg h2)
      have hp := hp.2 h2
      refine fm_gr O 2 (C' := (60, [(0, .inr (.inr (.inr (.inr (13, 0))))), (1, .inl op), (2, .inl aa)], [.inl 19, .inl op, .inr (.inr (.inr (.inr (13, 0))))], (r6.2, J, G, fm_P (1, 0) pb))) rfl ?_
      refine fm_gb O rfl (fun h => ?_) (fun h => ?_)
      · have h3 : op = 19 := h
        have he := he.trans (if_pos h3)
        have hp := hp.1 h3
        refine fm_gr O 2 (C' := (68, [(0, .inr (.inr (.inr (.inr (13, 0))))), (1, .inl op), (2, .inl aa)], [.inl 0, .inr (.inr (.inr (.inr (13, 0))))], (r6.2, J, G, fm_P (1, 0) pb))) rfl ?_
        have K := fmC_put_c (d := d) hl (by omega) r6.2 J G pb 0 hp
        generalize er8 : fmC_put_f r6.2 0 = r8 at he
        have he := he.trans (fm_letE _ _)
        rw [er8] at K
        refine fm_cV0 O fmC_put_o (i := 0) (as := [.inl 0]) (rest := []) (v := none) rfl fk_1_105 rfl (by decide) fn_C_put (Nat.le_of_ble_eq_true rfl) (K) ?_
        exact fm_gRe O rfl trivial (by first | rw [he] | rfl) (by first | rw [he] | rfl)
      · have h3 : ¬ op = 19 := h
        have he := he.trans (if_neg h3)
        have hp := hp.2 h3
        refine fm_gr O 1 (C' := (68, [(0, .inr (.inr (.inr (.inr (13, 0))))), (1, .inl op), (2, .inl aa)], [.inl aa, .inr (.inr (.inr (.inr (13, 0))))], (r6.2, J, G, fm_P (1, 0) pb))) rfl ?_
        have K := fmC_put_c (d := d) hl (by omega) r6.2 J G pb aa hp
        generalize er9 : fmC_put_f r6.2 aa = r9 at he
        have he := he.trans (fm_letE _ _)
        rw [er9] at K
        refine fm_cV0 O fmC_put_o (i := 0) (as := [.inl aa]) (rest := []) (v := none) rfl fk_1_105 rfl (by decide) fn_C_put (Nat.le_of_ble_eq_true rfl) (K) ?_
        exact fm_gRe O rfl trivial (by first | rw [he] | rfl) (by first | rw [he] | rfl)
def fmC_takeJustWhatIsGiven_f (I : fm_MI) : fm_MI :=
  fm_let (fmC_take_f I (I 17 ((I 13 0 6).toNatClampNeg) 1)) (fun (r1 : Int32 × fm_MI) => if (r1.2 13 0 2) = 0 then (if (r1.2 13 0 4) ≤ (r1.2 17 ((r1.2 13 0 6).toNatClampNeg) 2) then r1.2 else (fm_u r1.2 13 0 2 4)) else r1.2)
theorem fmC_takeJustWhatIsGiven_e (I : fm_MI) : fmC_takeJustWhatIsGiven_f I = fm_let (fmC_take_f I (I 17 ((I 13 0 6).toNatClampNeg) 1)) (fun (r1 : Int32 × fm_MI) => if (r1.2 13 0 2) = 0 then (if (r1.2 13 0 4) ≤ (r1.2 17 ((r1.2 13 0 6).toNatClampNeg) 2) then r1.2 else (fm_u r1.2 13 0 2 4)) else r1.2) := rfl
def fmC_takeJustWhatIsGiven_p (I : fm_MI) : Prop :=
  (vp_in (I 13 0 6) 9) ∧ (fmC_take_p I (I 17 ((I 13 0 6).toNatClampNeg) 1) ∧ (fm_let (fmC_take_f I (I 17 ((I 13 0 6).toNatClampNeg) 1)) (fun (r1 : Int32 × fm_MI) => ((r1.2 13 0 2) = 0 → vp_in (r1.2 13 0 6) 9) ∧ (¬ (r1.2 13 0 2) = 0 → True))))
set_option maxRecDepth 100000 in
set_option maxHeartbeats 4000000 in
theorem fmC_takeJustWhatIsGiven_c {E : fm_Ev} (hl : E.1.stackTraces = false) {d : Nat} (hd : 1 ≤ d) (I : fm_MI) (J : fm_MJ) (G : fm_MG) (pb : Nat × Nat) (hp : fmC_takeJustWhatIsGiven_p I) : fm_Ct E d fmC_takeJustWhatIsGiven 0 [.inr (.inr (.inr (.inr (13, 0))))] (I, J, G, fm_P (1, 0) pb) none (fmC_takeJustWhatIsGiven_f I, J, G, fm_P (1, 0) pb) := by
  obtain ⟨d, rfl⟩ : ∃ d', d = d' + 1 := ⟨d - 1, by omega⟩
  refine fm_ct fmC_takeJustWhatIsGiven_o hl (Nat.le_of_ble_eq_true rfl) ?_
  have O := fmC_takeJustWhatIsGiven_o.1
  unfold fmC_takeJustWhatIsGiven_p at hp
  have he := fmC_takeJustWhatIsGiven_e I
  refine fm_gr O 5 (C' := (9, [(0, .inr (.inr (.inr (.inr (13, 0)))))], [.inl (I 13 0 6), .inr (.inr (.inr (.inr (16, 0)))), .inr (.inr (.inr (.inr (13, 0))))], (I, J, G, fm_P (1, 0) pb))) rfl ?_
  refine fm_gg O rfl hp.1 ?_
  have hp := hp.2
  refine fm_gr O 1 (C' := (13, [(0, .inr (.inr (.inr (.inr (13, 0)))))], [.inl (I 17 ((I 13 0 6).toNatClampNeg) 1), .inr (.inr (.inr (.inr (13, 0))))], (I, J, G, fm_P (1, 0) pb))) rfl ?_
  have hc := hp.1
  have hp := hp.2
  have K := fmC_take_c (d := d) hl (by omega) I J G pb (I 17 ((I 13 0 6).toNatClampNeg) 1) hc
  generalize er1 : fmC_take_f I (I 17 ((I 13 0 6).toNatClampNeg) 1) = r1 at he hp
  have he := he.trans (fm_letE _ _)
  have hp := fm_letP hp
  rw [er1] at K
  refine fm_cV0 O fmC_take_o (i := 0) (as := [.inl (I 17 ((I 13 0 6).toNatClampNeg) 1)]) (rest := []) (v := some (.inl r1.1)) rfl fk_1_109 rfl (by decide) fn_C_take (Nat.le_of_ble_eq_true rfl) (K) ?_
  refine fm_gr O 3 (C' := (21, [(0, .inr (.inr (.inr (.inr (13, 0)))))], [.inl (r1.2 13 0 2)], (r1.2, J, G, fm_P (1, 0) pb))) rfl ?_
  refine fm_gb O rfl (fun h => ?_) (fun h => ?_)
  · have h1 : (r1.2 13 0 2) = 0 := h
    have he := he.trans (if_pos h1)
    have hp := hp.1 h1
    refine fm_gr O 6 (C' := (36, [(0, .inr (.inr (.inr (.inr (13, 0)))))], [.inl (r1.2 13 0 6), .inr (.inr (.inr (.inr (16, 0)))), .inl (r1.2 13 0 4)], (r1.2, J, G, fm_P (1, 0) pb))) rfl ?_
    refine fm_gg O rfl hp ?_
    refine fm_gr O 1 (C' := (40, [(0, .inr (.inr (.inr (.inr (13, 0)))))], [.inl (r1.2 17 ((r1.2 13 0 6).toNatClampNeg) 2), .inl (r1.2 13 0 4)], (r1.2, J, G, fm_P (1, 0) pb))) rfl ?_
    refine fm_gb O rfl (fun h => ?_) (fun h => ?_)
    · have h2 : (r1.2 13 0 4) ≤ (r1.2 17 ((r1.2 13 0 6).toNatClampNeg) 2) := h
      have he := he.trans (if_pos h2)
      exact fm_gRe O rfl trivial (by first | rw [he] | rfl) (by first | rw [he] | rfl)
    · have h2 : ¬ (r1.2 13 0 4) ≤ (r1.2 17 ((r1.2 13 0 6).toNatClampNeg) 2) := h
      have he := he.trans (if_neg h2)
      refine fm_gr O 3 (C' := (48, [(0, .inr (.inr (.inr (.inr (13, 0)))))], [], (fm_u r1.2 13 0 2 4, J, G, fm_P (1, 0) pb))) rfl ?_
      exact fm_gRe O rfl trivial (by first | rw [he] | rfl) (by first | rw [he] | rfl)
  · have h1 : ¬ (r1.2 13 0 2) = 0 := h
    have he := he.trans (if_neg h1)
    exact fm_gRe O rfl trivial (by first | rw [he] | rfl) (by first | rw [he] | rfl)
def fmC_openFrame_f (I : fm_MI) (op : Int32) (ty : Int32) : fm_MI :=
  if (I 13 0 2) = 0 then (if (I 13 0 6) = 8 then (fm_u I 13 0 2 7) else (fm_let (fmC_isLive_f I) (fun (r1 : Int32) => fm_let (fmR_open_f (fm_u I 13 0 6 ((I 13 0 6) + 1)) (((I 13 0 6) + 1).toNatClampNeg) op ty (I 13 0 4) (I 6 (((fm_u I 13 0 6 ((I 13 0 6) + 1)) 13 0 1).toNatClampNeg) 0) r1) (fun (r2 : fm_MI) => r2)))) else I
theorem fmC_openFrame_e (I : fm_MI) (op : Int32) (ty : Int32) : fmC_openFrame_f I op ty = if (I 13 0 2) = 0 then (if (I 13 0 6) = 8 then (fm_u I 13 0 2 7) else (fm_let (fmC_isLive_f I) (fun (r1 : Int32) => fm_let (fmR_open_f (fm_u I 13 0 6 ((I 13 0 6) + 1)) (((I 13 0 6) + 1).toNatClampNeg) op ty (I 13 0 4) (I 6 (((fm_u I 13 0 6 ((I 13 0 6) + 1)) 13 0 1).toNatClampNeg) 0) r1) (fun (r2 : fm_MI) => r2)))) else I := rfl
def fmC_openFrame_p (I : fm_MI) : Prop :=
  ((I 13 0 2) = 0 → ((I 13 0 6) = 8 → True) ∧ (¬ (I 13 0 6) = 8 → fmC_isLive_p I ∧ (fm_let (fmC_isLive_f I) (fun (r1 : Int32) => (vp_in ((I 13 0 6) + 1) 9) ∧ (fmC_subject_p (fm_u I 13 0 6 ((I 13 0 6) + 1)) ∧ (fmR_open_p r1)))))) ∧ (¬ (I 13 0 2) = 0 → True)
set_option maxRecDepth 100000 in
set_option maxHeartbeats 4000000 in
theorem fmC_openFrame_c {E : fm_Ev} (hl : E.1.stackTraces = false) {d : Nat} (hd : 1 ≤ d) (I : fm_MI) (J : fm_MJ) (G : fm_MG) (pb : Nat × Nat) (op : Int32) (ty : Int32) (hp : fmC_openFrame_p I) : fm_Ct E d fmC_openFrame 0 [.inr (.inr (.inr (.inr (13, 0)))), .inl op, .inl ty] (I, J, G, fm_P (1, 0) pb) none (fmC_openFrame_f I op ty, J, G, fm_P (1, 0) pb) := by
  obtain ⟨d, rfl⟩ : ∃ d', d = d' + 1 := ⟨d - 1, by omega⟩
  refine fm_ct fmC_openFrame_o hl (Nat.le_of_ble_eq_true rfl) ?_
  have O := fmC_openFrame_o.1
  unfold fmC_openFrame_p at hp
  have he := fmC_openFrame_e I op ty
  refine fm_gr O 2 (C' := (4, [(0, .inr (.inr (.inr (.inr (13, 0))))), (1, .inl op), (2, .inl ty)], [.inl (I 13 0 2)], (I, J, G, fm_P (1, 0) pb))) rfl ?_
  refine fm_gb O rfl (fun h => ?_) (fun h => ?_)
  · have h1 : (I 13 0 2) = 0 := h
    have he := he.trans (if_pos h1)
    have hp := hp.1 h1
    refine fm_gr O 3 (C' := (13, [(0, .inr (.inr (.inr (.inr (13, 0))))), (1, .inl op), (2, .inl ty)], [.inl 8, .inl (I 13 0 6)], (I, J, G, fm_P (1, 0) pb))) rfl ?_
    refine fm_gb O rfl (fun h => ?_) (fun h => ?_)
    · have h2 : (I 13 0 6) = 8 := h
      have he := he.trans (if_pos h2)
      refine fm_gr O 5 (C' := (26, [(0, .inr (.inr (.inr (.inr (13, 0))))), (1, .inl op), (2, .inl ty)], [.inl 7], (fm_u I 13 0 2 7, J, G, fm_P (1, 0) pb))) rfl ?_
      refine fm_gb O rfl (fun h => ?_) (fun h => ?_)
      · exact absurd h (show ¬ (7 : Int32) = 0 by decide)
      · exact fm_gRe O rfl trivial (by first | rw [he] | rfl) (by first | rw [he] | rfl)
    · have h2 : ¬ (I 13 0 6) = 8 := h
      have he := he.trans (if_neg h2)
      have hp := hp.2 h2
      refine fm_gr O 2 (C' := (26, [(0, .inr (.inr (.inr (.inr (13, 0))))), (1, .inl op), (2, .inl ty)], [.inl (I 13 0 2)], (I, J, G, fm_P (1, 0) pb))) rfl ?_
      refine fm_gb O rfl (fun h => ?_) (fun h => ?_)
      rotate_left
      · exact absurd h1 h
      · refine fm_gr O 1 (C' := (30, [(0, .inr (.inr (.inr (.inr (13, 0))))), (1, .inl op), (2, .inl ty)], [.inr (.inr (.inr (.inr (13, 0))))], (I, J, G, fm_P (1, 0) pb))) rfl ?_
        have hc := hp.1
        have hp := hp.2
        have K := fmC_isLive_c (d := d) hl (by omega) I J G pb hc
        generalize er1 : fmC_isLive_f I = r1 at he hp
        have he := he.trans (fm_letE _ _)
        have hp := fm_letP hp
        rw [er1] at K
        refine fm_cV0 O fmC_isLive_o (i := 0) (as := []) (rest := []) (v := some (.inl r1)) rfl fk_1_125 rfl (by decide) fn_C_isLive (Nat.le_of_ble_eq_true rfl) (K) ?_
        refine fm_gr O 11 (C' := (52, [(3, .inl r1), (0, .inr (.inr (.inr (.inr (13, 0))))), (1, .inl op), (2, .inl ty)], [.inl ((I 13 0 6) + 1), .inr (.inr (.inr (.inr (16, 0))))], (fm_u I 13 0 6 ((I 13 0 6) + 1), J, G, fm_P (1, 0) pb))) rfl ?_
        refine fm_gg O rfl hp.1 ?_
        have hp := hp.2
        refine fm_gr O 5 (C' := (60, [(3, .inl r1), (0, .inr (.inr (.inr (.inr (13, 0))))), (1, .inl op), (2, .inl ty)], [.inr (.inr (.inr (.inr (13, 0)))), .inl (I 13 0 4), .inl ty, .inl op, .inr (.inr (.inr (.inr (17, ((I 13 0 6) + 1).toNatClampNeg))))], (fm_u I 13 0 6 ((I 13 0 6) + 1), J, G, fm_P (1, 0) pb))) rfl ?_
        have hc := hp.1
        have hp := hp.2
        have K := fmC_subject_c (d := d) hl (by omega) (fm_u I 13 0 6 ((I 13 0 6) + 1)) J G pb hc
        refine fm_cV0 O fmC_subject_o (i := 0) (as := []) (rest := [.inl (I 13 0 4), .inl ty, .inl op, .inr (.inr (.inr (.inr (17, ((I 13 0 6) + 1).toNatClampNeg))))]) (v := some (.inr (.inr (.inr (.inr (2, ((fm_u I 13 0 6 ((I 13 0 6) + 1)) 13 0 1).toNatClampNeg)))))) rfl fk_1_41 rfl (by decide) fn_C_subject (Nat.le_of_ble_eq_true rfl) (K) ?_
        refine fm_gr O 3 (C' := (70, [(3, .inl r1), (0, .inr (.inr (.inr (.inr (13, 0))))), (1, .inl op), (2, .inl ty)], [.inl r1, .inl (I 6 (((fm_u I 13 0 6 ((I 13 0 6) + 1)) 13 0 1).toNatClampNeg) 0), .inl (I 13 0 4), .inl ty, .inl op, .inr (.inr (.inr (.inr (17, ((I 13 0 6) + 1).toNatClampNeg))))], (fm_u I 13 0 6 ((I 13 0 6) + 1), J, G, fm_P (1, 0) pb))) rfl ?_
        have K := fmR_open_c (d := d) hl (by omega) (fm_u I 13 0 6 ((I 13 0 6) + 1)) J G ((1, 0)) pb (((I 13 0 6) + 1).toNatClampNeg) op ty (I 13 0 4) (I 6 (((fm_u I 13 0 6 ((I 13 0 6) + 1)) 13 0 1).toNatClampNeg) 0) r1 hp
        generalize er2 : fmR_open_f (fm_u I 13 0 6 ((I 13 0 6) + 1)) (((I 13 0 6) + 1).toNatClampNeg) op ty (I 13 0 4) (I 6 (((fm_u I 13 0 6 ((I 13 0 6) + 1)) 13 0 1).toNatClampNeg) 0) r1 = r2 at he
        have he := he.trans (fm_letE _ _)
        rw [er2] at K
        refine fm_cV0 O fmR_open_o (i := ((I 13 0 6) + 1).toNatClampNeg) (as := [.inl op, .inl ty, .inl (I 13 0 4), .inl (I 6 (((fm_u I 13 0 6 ((I 13 0 6) + 1)) 13 0 1).toNatClampNeg) 0), .inl r1]) (rest := []) (v := none) rfl fk_1_57 rfl (by decide) fn_R_open (Nat.le_of_ble_eq_true rfl) (K) ?_
        exact fm_gRe O rfl trivial (by first | rw [he] | rfl) (by first | rw [he] | rfl)
  · have h1 : ¬ (I 13 0 2) = 0 := h
    have he := he.trans (if_neg h1)
    refine fm_gr O 2 (C' := (26, [(0, .inr (.inr (.inr (.inr (13, 0))))), (1, .inl op), (2, .inl ty)], [.inl (I 13 0 2)], (I, J, G, fm_P (1, 0) pb))) rfl ?_
    refine fm_gb O rfl (fun h => ?_) (fun h => ?_)
    · exact absurd h h1
    · exact fm_gRe O rfl trivial (by first | rw [he] | rfl) (by first | rw [he] | rfl)
def fmC_turnToElse_f (I : fm_MI) : fm_MI :=
  if (I 17 ((I 13 0 6).toNatClampNeg) 0) = 23 then (fm_let (fmC_takeJustWhatIsGiven_f I) (fun (r1 : fm_MI) => fm_let (fmC_addRow_f r1 26 0) (fun (r2 : Int32 × fm_MI) => if r2.1 = (-1) then (fm_let (fmK_sendHere_f r2.2 ((r2.2 13 0 1).toNatClampNeg) (r2.2 17 ((I 13 0 6).toNatClampNeg) 4)) (fun (r3 : fm_MI) => fm_u (fm_u r3 17 ((I 13 0 6).toNatClampNeg) 0 24) 17 ((I 13 0 6).toNatClampNeg) 6 0)) else (fm_let (fmK_sendHere_f (fm_u r2.2 12 ((r2.2 13 0 1).toNatClampNeg) r2.1.toNatClampNeg (r2.2 13 0 6)) (((fm_u r2.2 12 ((r2.2 13 0 1).toNatClampNeg) r2.1.toNatClampNeg (r2.2 13 0 6)) 13 0 1).toNatClampNeg) (r2.2 17 ((I 13 0 6).toNatClampNeg) 4)) (fun (r4 : fm_MI) => fm_u (fm_u r4 17 ((I 13 0 6).toNatClampNeg) 0 24) 17 ((I 13 0 6).toNatClampNeg) 6 0))))) else (fm_u I 13 0 2 5)
theorem fmC_turnToElse_e (I : fm_MI) : fmC_turnToElse_f I = if (I 17 ((I 13 0 6).toNatClampNeg) 0) = 23 then (fm_let (fmC_takeJustWhatIsGiven_f I) (fun (r1 : fm_MI) => fm_let (fmC_addRow_f r1 26 0) (fun (r2 : Int32 × fm_MI) => if r2.1 = (-1) then (fm_let (fmK_sendHere_f r2.2 ((r2.2 13 0 1).toNatClampNeg) (r2.2 17 ((I 13 0 6).toNatClampNeg) 4)) (fun (r3 : fm_MI) => fm_u (fm_u r3 17 ((I 13 0 6).toNatClampNeg) 0 24) 17 ((I 13 0 6).toNatClampNeg) 6 0)) else (fm_let (fmK_sendHere_f (fm_u r2.2 12 ((r2.2 13 0 1).toNatClampNeg) r2.1.toNatClampNeg (r2.2 13 0 6)) (((fm_u r2.2 12 ((r2.2 13 0 1).toNatClampNeg) r2.1.toNatClampNeg (r2.2 13 0 6)) 13 0 1).toNatClampNeg) (r2.2 17 ((I 13 0 6).toNatClampNeg) 4)) (fun (r4 : fm_MI) => fm_u (fm_u r4 17 ((I 13 0 6).toNatClampNeg) 0 24) 17 ((I 13 0 6).toNatClampNeg) 6 0))))) else (fm_u I 13 0 2 5) := rfl
def fmC_turnToElse_p (I : fm_MI) : Prop :=
  (vp_in (I 13 0 6) 9) ∧ (((I 17 ((I 13 0 6).toNatClampNeg) 0) = 23 → fmC_takeJustWhatIsGiven_p I ∧ (fm_let (fmC_takeJustWhatIsGiven_f I) (fun (r1 : fm_MI) => fmC_addRow_p r1 ∧ (fm_let (fmC_addRow_f r1 26 0) (fun (r2 : Int32 × fm_MI) => (r2.1 = (-1) → fmC_subject_p r2.2 ∧ (fmK_sendHere_p (r2.2 17 ((I 13 0 6).toNatClampNeg) 4))) ∧ (¬ r2.1 = (-1) → fmC_subject_p r2.2 ∧ ((vp_in r2.1 40) ∧ (fmC_subject_p (fm_u r2.2 12 ((r2.2 13 0 1).toNatClampNeg) r2.1.toNatClampNeg (r2.2 13 0 6)) ∧ (fmK_sendHere_p (r2.2 17 ((I 13 0 6).toNatClampNeg) 4)))))))))) ∧ (¬ (I 17 ((I 13 0 6).toNatClampNeg) 0) = 23 → True))
set_option maxRecDepth 100000 in
set_option maxHeartbeats 4000000 in
theorem fmC_turnToElse_c {E : fm_Ev} (hl : E.1.stackTraces = false) {d : Nat} (hd : 2 ≤ d) (I : fm_MI) (J : fm_MJ) (G : fm_MG) (pb : Nat × Nat) (hp : fmC_turnToElse_p I) : fm_Ct E d fmC_turnToElse 0 [.inr (.inr (.inr (.inr (13, 0))))] (I, J, G, fm_P (1, 0) pb) none (fmC_turnToElse_f I, J, G, fm_P (1, 0) pb) := by
  obtain ⟨d, rfl⟩ : ∃ d', d = d' + 1 := ⟨d - 1, by omega⟩
  refine fm_ct fmC_turnToElse_o hl (Nat.le_of_ble_eq_true rfl) ?_
  have O := fmC_turnToElse_o.1
  unfold fmC_turnToElse_p at hp
  have he := fmC_turnToElse_e I
  refine fm_gr O 4 (C' := (8, [(0, .inr (.inr (.inr (.inr (13, 0)))))], [.inl (I 13 0 6), .inr (.inr (.inr (.inr (16, 0))))], (I, J, G, fm_P (1, 0) pb))) rfl ?_
  refine fm_gg O rfl hp.1 ?_
  have hp := hp.2
  refine fm_gr O 4 (C' := (16, [(1, .inr (.inr (.inr (.inr (17, (I 13 0 6).toNatClampNeg))))), (0, .inr (.inr (.inr (.inr (13, 0)))))], [.inl 23, .inl (I 17 ((I 13 0 6).toNatClampNeg) 0)], (I, J, G, fm_P (1, 0) pb))) rfl ?_
  refine fm_gb O rfl (fun h => ?_) (fun h => ?_)
  · have h1 : (I 17 ((I 13 0 6).toNatClampNeg) 0) = 23 := h
    have he := he.trans (if_pos h1)
    have hp := hp.1 h1
    refine fm_gr O 1 (C' := (26, [(1, .inr (.inr (.inr (.inr (17, (I 13 0 6).toNatClampNeg))))), (0, .inr (.inr (.inr (.inr (13, 0)))))], [.inr (.inr (.inr (.inr (13, 0))))], (I, J, G, fm_P (1, 0) pb))) rfl ?_
    have hc := hp.1
    have hp := hp.2
    have K := fmC_takeJustWhatIsGiven_c (d := d) hl (by omega) I J G pb hc
    generalize er1 : fmC_takeJustWhatIsGiven_f I = r1 at he hp
    have he := he.trans (fm_letE _ _)
    have hp := fm_letP hp
    rw [er1] at K
    refine fm_cV0 O fmC_takeJustWhatIsGiven_o (i := 0) (as := []) (rest := []) (v := none) rfl fk_1_132 rfl (by decide) fn_C_takeJustWhatIsGiven (Nat.le_of_ble_eq_true rfl) (K) ?_
    refine fm_gr O 3 (C' := (33, [(1, .inr (.inr (.inr (.inr (17, (I 13 0 6).toNatClampNeg))))), (0, .inr (.inr (.inr (.inr (13, 0)))))], [.inl 0, .inl 26, .inr (.inr (.inr (.inr (13, 0))))], (r1, J, G, fm_P (1, 0) pb))) rfl ?_
    have hc := hp.1
    have hp := hp.2
    have K := fmC_addRow_c (d := d) hl (by omega) r1 J G pb 26 0 hc
    generalize er2 : fmC_addRow_f r1 26 0 = r2 at he hp
    have he := he.trans (fm_letE _ _)
    have hp := fm_letP hp
    rw [er2] at K
    refine fm_cV0 O fmC_addRow_o (i := 0) (as := [.inl 26, .inl 0]) (rest := []) (v := some (.inl r2.1)) rfl fk_1_100 rfl (by decide) fn_C_addRow (Nat.le_of_ble_eq_true rfl) (K) ?_
    refine fm_gr O 3 (C' := (39, [(2, .inl r2.1), (1, .inr (.inr (.inr (.inr (17, (I 13 0 6).toNatClampNeg))))), (0, .inr (.inr (.inr (.inr (13, 0)))))], [.inl (-1), .inl r2.1], (r2.2, J, G, fm_P (1, 0) pb))) rfl ?_
    refine fm_gb O rfl (fun h => ?_) (fun h => ?_)
    · have h2 : r2.1 = (-1) := h
      have he := he.trans (if_pos h2)
      have hp := hp.1 h2
      refine fm_gr O 1 (C' := (59, [(2, .inl r2.1), (1, .inr (.inr (.inr (.inr (17, (I 13 0 6).toNatClampNeg))))), (0, .inr (.inr (.inr (.inr (13, 0)))))], [.inr (.inr (.inr (.inr (13, 0))))], (r2.2, J, G, fm_P (1, 0) pb))) rfl ?_
      have hc := hp.1
      have hp := hp.2
      have K := fmC_subject_c (d := d) hl (by omega) r2.2 J G pb hc
      refine fm_cV0 O fmC_subject_o (i := 0) (as := []) (rest := []) (v := some (.inr (.inr (.inr (.inr (2, (r2.2 13 0 1).toNatClampNeg)))))) rfl fk_1_41 rfl (by decide) fn_C_subject (Nat.le_of_ble_eq_true rfl) (K) ?_
      refine fm_gr O 3 (C' := (69, [(2, .inl r2.1), (1, .inr (.inr (.inr (.inr (17, (I 13 0 6).toNatClampNeg))))), (0, .inr (.inr (.inr (.inr (13, 0)))))], [.inl (r2.2 17 ((I 13 0 6).toNatClampNeg) 4), .inr (.inr (.inr (.inr (6, (r2.2 13 0 1).toNatClampNeg))))], (r2.2, J, G, fm_P (1, 0) pb))) rfl ?_
      have K := fmK_sendHere_c (d := d) hl (by omega) r2.2 J G ((1, 0)) pb ((r2.2 13 0 1).toNatClampNeg) (r2.2 17 ((I 13 0 6).toNatClampNeg) 4) hp
      generalize er3 : fmK_sendHere_f r2.2 ((r2.2 13 0 1).toNatClampNeg) (r2.2 17 ((I 13 0 6).toNatClampNeg) 4) = r3 at he
      have he := he.trans (fm_letE _ _)
      rw [er3] at K
      refine fm_cV0 O fmK_sendHere_o (i := (r2.2 13 0 1).toNatClampNeg) (as := [.inl (r2.2 17 ((I 13 0 6).toNatClampNeg) 4)]) (rest := []) (v := none) rfl fk_1_138 rfl (by decide) fn_K_sendHere (Nat.le_of_ble_eq_true rfl) (K) ?_
      refine fm_gr O 5 (C' := (80, [(2, .inl r2.1), (1, .inr (.inr (.inr (.inr (17, (I 13 0 6).toNatClampNeg))))), (0, .inr (.inr (.inr (.inr (13, 0)))))], [.inl 0, .inr (.inr (.inr (.inr (17, (I 13 0 6).toNatClampNeg))))], (fm_u r3 17 ((I 13 0 6).toNatClampNeg) 0 24, J, G, fm_P (1, 0) pb))) rfl ?_
      refine fm_gg O rfl (Or.inl rfl) ?_
      exact fm_gRe O rfl trivial (by first | rw [he] | rfl) (by first | rw [he] | rfl)
    · have h2 : ¬ r2.1 = (-1) := h
      have he := he.trans (if_neg h2)
      have hp := hp.2 h2
      refine fm_gr O 1 (C' := (43, [(2, .inl r2.1), (1, .inr (.inr (.inr (.inr (17, (I 13 0 6).toNatClampNeg))))), (0, .inr (.inr (.inr (.inr (13, 0)))))], [.inr (.inr (.inr (.inr (13, 0))))], (r2.2, J, G, fm_P (1, 0) pb))) rfl ?_
      have hc := hp.1
      have hp := hp.2
      have K := fmC_subject_c (d := d) hl (by omega) r2.2 J G pb hc
      refine fm_cV0 O fmC_subject_o (i := 0) (as := []) (rest := []) (v := some (.inr (.inr (.inr (.inr (2, (r2.2 13 0 1).toNatClampNeg)))))) rfl fk_1_41 rfl (by decide) fn_C_subject (Nat.le_of_ble_eq_true rfl) (K) ?_
      refine fm_gr O 5 (C' := (57, [(2, .inl r2.1), (1, .inr (.inr (.inr (.inr (17, (I 13 0 6).toNatClampNeg))))), (0, .inr (.inr (.inr (.inr (13, 0)))))], [.inl (r2.2 13 0 6), .inl r2.1, .inr (.inr (.inr (.inr (12, (r2.2 13 0 1).toNatClampNeg))))], (r2.2, J, G, fm_P (1, 0) pb))) rfl ?_
      refine fm_gg O rfl hp.1 ?_
      have hp := hp.2
      refine fm_gr O 1 (C' := (59, [(2, .inl r2.1), (1, .inr (.inr (.inr (.inr (17, (I 13 0 6).toNatClampNeg))))), (0, .inr (.inr (.inr (.inr (13, 0)))))], [.inr (.inr (.inr (.inr (13, 0))))], (fm_u r2.2 12 ((r2.2 13 0 1).toNatClampNeg) r2.1.toNatClampNeg (r2.2 13 0 6), J, G, fm_P (1, 0) pb))) rfl ?_
      have hc := hp.1
      have hp := hp.2
      have K := fmC_subject_c (d := d) hl (by omega) (fm_u r2.2 12 ((r2.2 13 0 1).toNatClampNeg) r2.1.toNatClampNeg (r2.2 13 0 6)) J G pb hc
      refine fm_cV0 O fmC_subject_o (i := 0) (as := []) (rest := []) (v := some (.inr (.inr (.inr (.inr (2, ((fm_u r2.2 12 ((r2.2 13 0 1).toNatClampNeg) r2.1.toNatClampNeg (r2.2 13 0 6)) 13 0 1).toNatClampNeg)))))) rfl fk_1_41 rfl (by decide) fn_C_subject (Nat.le_of_ble_eq_true rfl) (K) ?_
      refine fm_gr O 3 (C' := (69, [(2, .inl r2.1), (1, .inr (.inr (.inr (.inr (17, (I 13 0 6).toNatClampNeg))))), (0, .inr (.inr (.inr (.inr (13, 0)))))], [.inl (r2.2 17 ((I 13 0 6).toNatClampNeg) 4), .inr (.inr (.inr (.inr (6, ((fm_u r2.2 12 ((r2.2 13 0 1).toNatClampNeg) r2.1.toNatClampNeg (r2.2 13 0 6)) 13 0 1).toNatClampNeg))))], (fm_u r2.2 12 ((r2.2 13 0 1).toNatClampNeg) r2.1.toNatClampNeg (r2.2 13 0 6), J, G, fm_P (1, 0) pb))) rfl ?_
      have K := fmK_sendHere_c (d := d) hl (by omega) (fm_u r2.2 12 ((r2.2 13 0 1).toNatClampNeg) r2.1.toNatClampNeg (r2.2 13 0 6)) J G ((1, 0)) pb (((fm_u r2.2 12 ((r2.2 13 0 1).toNatClampNeg) r2.1.toNatClampNeg (r2.2 13 0 6)) 13 0 1).toNatClampNeg) (r2.2 17 ((I 13 0 6).toNatClampNeg) 4) hp
      generalize er4 : fmK_sendHere_f (fm_u r2.2 12 ((r2.2 13 0 1).toNatClampNeg) r2.1.toNatClampNeg (r2.2 13 0 6)) (((fm_u r2.2 12 ((r2.2 13 0 1).toNatClampNeg) r2.1.toNatClampNeg (r2.2 13 0 6)) 13 0 1).toNatClampNeg) (r2.2 17 ((I 13 0 6).toNatClampNeg) 4) = r4 at he
      have he := he.trans (fm_letE _ _)
      rw [er4] at K
      refine fm_cV0 O fmK_sendHere_o (i := ((fm_u r2.2 12 ((r2.2 13 0 1).toNatClampNeg) r2.1.toNatClampNeg (r2.2 13 0 6)) 13 0 1).toNatClampNeg) (as := [.inl (r2.2 17 ((I 13 0 6).toNatClampNeg) 4)]) (rest := []) (v := none) rfl fk_1_138 rfl (by decide) fn_K_sendHere (Nat.le_of_ble_eq_true rfl) (K) ?_
      refine fm_gr O 5 (C' := (80, [(2, .inl r2.1), (1, .inr (.inr (.inr (.inr (17, (I 13 0 6).toNatClampNeg))))), (0, .inr (.inr (.inr (.inr (13, 0)))))], [.inl 0, .inr (.inr (.inr (.inr (17, (I 13 0 6).toNatClampNeg))))], (fm_u r4 17 ((I 13 0 6).toNatClampNeg) 0 24, J, G, fm_P (1, 0) pb))) rfl ?_
      refine fm_gg O rfl (Or.inl rfl) ?_
      exact fm_gRe O rfl trivial (by first | rw [he] | rfl) (by first | rw [he] | rfl)
  · have h1 : ¬ (I 17 ((I 13 0 6).toNatClampNeg) 0) = 23 := h
    have he := he.trans (if_neg h1)
    refine fm_gr O 3 (C' := (24, [(1, .inr (.inr (.inr (.inr (17, (I 13 0 6).toNatClampNeg))))), (0, .inr (.inr (.inr (.inr (13, 0)))))], [], (fm_u I 13 0 2 5, J, G, fm_P (1, 0) pb))) rfl ?_
    exact fm_gRe O rfl trivial (by first | rw [he] | rfl) (by first | rw [he] | rfl)
end
section
/-! THE CHECKER, by program (wip/tools/walk.py, gen_c2.py) -/
def fmC_closeFrame_f (I : fm_MI) (J : fm_MJ) (G : fm_MG) (pb : Nat × Nat) : fm_MI :=
  if (I 13 0 6) = 0 then (fm_u I 13 0 2 5) else (fm_let (fmC_takeJustWhatIsGiven_f I) (fun (r1 : fm_MI) => if (r1 13 0 2) = 0 then (if (r1 17 ((I 13 0 6).toNatClampNeg) 0) = 23 then (if (r1 17 ((I 13 0 6).toNatClampNeg) 1) = 4 then (fm_let (fmK_sendHere_f r1 ((r1 13 0 1).toNatClampNeg) (r1 17 ((I 13 0 6).toNatClampNeg) 4)) (fun (r2 : fm_MI) => fm_let (fmK_sendHereAllFor_f r2 J G ((1, 0)) pb ((r2 13 0 1).toNatClampNeg) (r2 13 0 6)) (fun (r3 : fm_MI) => fm_let (fmC_put_f (fm_u r3 13 0 6 ((r3 13 0 6) - 1)) (r3 17 ((I 13 0 6).toNatClampNeg) 1)) (fun (r4 : fm_MI) => r4)))) else (fm_let (fmK_sendHere_f (fm_u r1 13 0 2 6) (((fm_u r1 13 0 2 6) 13 0 1).toNatClampNeg) (r1 17 ((I 13 0 6).toNatClampNeg) 4)) (fun (r5 : fm_MI) => fm_let (fmK_sendHereAllFor_f r5 J G ((1, 0)) pb ((r5 13 0 1).toNatClampNeg) (r5 13 0 6)) (fun (r6 : fm_MI) => fm_let (fmC_put_f (fm_u r6 13 0 6 ((r6 13 0 6) - 1)) (r6 17 ((I 13 0 6).toNatClampNeg) 1)) (fun (r7 : fm_MI) => r7))))) else (fm_let (fmK_sendHereAllFor_f r1 J G ((1, 0)) pb ((r1 13 0 1).toNatClampNeg) (r1 13 0 6)) (fun (r8 : fm_MI) => fm_let (fmC_put_f (fm_u r8 13 0 6 ((r8 13 0 6) - 1)) (r8 17 ((I 13 0 6).toNatClampNeg) 1)) (fun (r9 : fm_MI) => r9)))) else (if (r1 17 ((I 13 0 6).toNatClampNeg) 0) = 23 then (fm_let (fmK_sendHere_f r1 ((r1 13 0 1).toNatClampNeg) (r1 17 ((I 13 0 6).toNatClampNeg) 4)) (fun (r10 : fm_MI) => fm_let (fmK_sendHereAllFor_f r10 J G ((1, 0)) pb ((r10 13 0 1).toNatClampNeg) (r10 13 0 6)) (fun (r11 : fm_MI) => fm_let (fmC_put_f (fm_u r11 13 0 6 ((r11 13 0 6) - 1)) (r11 17 ((I 13 0 6).toNatClampNeg) 1)) (fun (r12 : fm_MI) => r12)))) else (fm_let (fmK_sendHereAllFor_f r1 J G ((1, 0)) pb ((r1 13 0 1).toNatClampNeg) (r1 13 0 6)) (fun (r13 : fm_MI) => fm_let (fmC_put_f (fm_u r13 13 0 6 ((r13 13 0 6) - 1)) (r13 17 ((I 13 0 6).toNatClampNeg) 1)) (fun (r14 : fm_MI) => r14))))))
theorem fmC_closeFrame_e (I : fm_MI) (J : fm_MJ) (G : fm_MG) (pb : Nat × Nat) : fmC_closeFrame_f I J G pb = if (I 13 0 6) = 0 then (fm_u I 13 0 2 5) else (fm_let (fmC_takeJustWhatIsGiven_f I) (fun (r1 : fm_MI) => if (r1 13 0 2) = 0 then (if (r1 17 ((I 13 0 6).toNatClampNeg) 0) = 23 then (if (r1 17 ((I 13 0 6).toNatClampNeg) 1) = 4 then (fm_let (fmK_sendHere_f r1 ((r1 13 0 1).toNatClampNeg) (r1 17 ((I 13 0 6).toNatClampNeg) 4)) (fun (r2 : fm_MI) => fm_let (fmK_sendHereAllFor_f r2 J G ((1, 0)) pb ((r2 13 0 1).toNatClampNeg) (r2 13 0 6)) (fun (r3 : fm_MI) => fm_let (fmC_put_f (fm_u r3 13 0 6 ((r3 13 0 6) - 1)) (r3 17 ((I 13 0 6).toNatClampNeg) 1)) (fun (r4 : fm_MI) => r4)))) else (fm_let (fmK_sendHere_f (fm_u r1 13 0 2 6) (((fm_u r1 13 0 2 6) 13 0 1).toNatClampNeg) (r1 17 ((I 13 0 6).toNatClampNeg) 4)) (fun (r5 : fm_MI) => fm_let (fmK_sendHereAllFor_f r5 J G ((1, 0)) pb ((r5 13 0 1).toNatClampNeg) (r5 13 0 6)) (fun (r6 : fm_MI) => fm_let (fmC_put_f (fm_u r6 13 0 6 ((r6 13 0 6) - 1)) (r6 17 ((I 13 0 6).toNatClampNeg) 1)) (fun (r7 : fm_MI) => r7))))) else (fm_let (fmK_sendHereAllFor_f r1 J G ((1, 0)) pb ((r1 13 0 1).toNatClampNeg) (r1 13 0 6)) (fun (r8 : fm_MI) => fm_let (fmC_put_f (fm_u r8 13 0 6 ((r8 13 0 6) - 1)) (r8 17 ((I 13 0 6).toNatClampNeg) 1)) (fun (r9 : fm_MI) => r9)))) else (if (r1 17 ((I 13 0 6).toNatClampNeg) 0) = 23 then (fm_let (fmK_sendHere_f r1 ((r1 13 0 1).toNatClampNeg) (r1 17 ((I 13 0 6).toNatClampNeg) 4)) (fun (r10 : fm_MI) => fm_let (fmK_sendHereAllFor_f r10 J G ((1, 0)) pb ((r10 13 0 1).toNatClampNeg) (r10 13 0 6)) (fun (r11 : fm_MI) => fm_let (fmC_put_f (fm_u r11 13 0 6 ((r11 13 0 6) - 1)) (r11 17 ((I 13 0 6).toNatClampNeg) 1)) (fun (r12 : fm_MI) => r12)))) else (fm_let (fmK_sendHereAllFor_f r1 J G ((1, 0)) pb ((r1 13 0 1).toNatClampNeg) (r1 13 0 6)) (fun (r13 : fm_MI) => fm_let (fmC_put_f (fm_u r13 13 0 6 ((r13 13 0 6) - 1)) (r13 17 ((I 13 0 6).toNatClampNeg) 1)) (fun (r14 : fm_MI) => r14)))))) := rfl
def fmC_closeFrame_p (I : fm_MI) (J : fm_MJ) (G : fm_MG) (pb : Nat × Nat) : Prop :=
  ((I 13 0 6) = 0 → True) ∧ (¬ (I 13 0 6) = 0 → (vp_in (I 13 0 6) 9) ∧ (fmC_takeJustWhatIsGiven_p I ∧ (fm_let (fmC_takeJustWhatIsGiven_f I) (fun (r1 : fm_MI) => ((r1 13 0 2) = 0 → ((r1 17 ((I 13 0 6).toNatClampNeg) 0) = 23 → ((r1 17 ((I 13 0 6).toNatClampNeg) 1) = 4 → fmC_subject_p r1 ∧ (fmK_sendHere_p (r1 17 ((I 13 0 6).toNatClampNeg) 4) ∧ (fm_let (fmK_sendHere_f r1 ((r1 13 0 1).toNatClampNeg) (r1 17 ((I 13 0 6).toNatClampNeg) 4)) (fun (r2 : fm_MI) => fmC_subject_p r2 ∧ (fmK_sendHereAllFor_p r2 J G ((1, 0)) pb ((r2 13 0 1).toNatClampNeg) (r2 13 0 6) ∧ (fm_let (fmK_sendHereAllFor_f r2 J G ((1, 0)) pb ((r2 13 0 1).toNatClampNeg) (r2 13 0 6)) (fun (r3 : fm_MI) => fmC_put_p (fm_u r3 13 0 6 ((r3 13 0 6) - 1)) (r3 17 ((I 13 0 6).toNatClampNeg) 1)))))))) ∧ (¬ (r1 17 ((I 13 0 6).toNatClampNeg) 1) = 4 → fmC_subject_p (fm_u r1 13 0 2 6) ∧ (fmK_sendHere_p (r1 17 ((I 13 0 6).toNatClampNeg) 4) ∧ (fm_let (fmK_sendHere_f (fm_u r1 13 0 2 6) (((fm_u r1 13 0 2 6) 13 0 1).toNatClampNeg) (r1 17 ((I 13 0 6).toNatClampNeg) 4)) (fun (r5 : fm_MI) => fmC_subject_p r5 ∧ (fmK_sendHereAllFor_p r5 J G ((1, 0)) pb ((r5 13 0 1).toNatClampNeg) (r5 13 0 6) ∧ (fm_let (fmK_sendHereAllFor_f r5 J G ((1, 0)) pb ((r5 13 0 1).toNatClampNeg) (r5 13 0 6)) (fun (r6 : fm_MI) => fmC_put_p (fm_u r6 13 0 6 ((r6 13 0 6) - 1)) (r6 17 ((I 13 0 6).toNatClampNeg) 1))))))))) ∧ (¬ (r1 17 ((I 13 0 6).toNatClampNeg) 0) = 23 → fmC_subject_p r1 ∧ (fmK_sendHereAllFor_p r1 J G ((1, 0)) pb ((r1 13 0 1).toNatClampNeg) (r1 13 0 6) ∧ (fm_let (fmK_sendHereAllFor_f r1 J G ((1, 0)) pb ((r1 13 0 1).toNatClampNeg) (r1 13 0 6)) (fun (r8 : fm_MI) => fmC_put_p (fm_u r8 13 0 6 ((r8 13 0 6) - 1)) (r8 17 ((I 13 0 6).toNatClampNeg) 1)))))) ∧ (¬ (r1 13 0 2) = 0 → ((r1 17 ((I 13 0 6).toNatClampNeg) 0) = 23 → fmC_subject_p r1 ∧ (fmK_sendHere_p (r1 17 ((I 13 0 6).toNatClampNeg) 4) ∧ (fm_let (fmK_sendHere_f r1 ((r1 13 0 1).toNatClampNeg) (r1 17 ((I 13 0 6).toNatClampNeg) 4)) (fun (r10 : fm_MI) => fmC_subject_p r10 ∧ (fmK_sendHereAllFor_p r10 J G ((1, 0)) pb ((r10 13 0 1).toNatClampNeg) (r10 13 0 6) ∧ (fm_let (fmK_sendHereAllFor_f r10 J G ((1, 0)) pb ((r10 13 0 1).toNatClampNeg) (r10 13 0 6)) (fun (r11 : fm_MI) => fmC_put_p (fm_u r11 13 0 6 ((r11 13 0 6) - 1)) (r11 17 ((I 13 0 6).toNatClampNeg) 1)))))))) ∧ (¬ (r1 17 ((I 13 0 6).toNatClampNeg) 0) = 23 → fmC_subject_p r1 ∧ (fmK_sendHereAllFor_p r1 J G ((1, 0)) pb ((r1 13 0 1).toNatClampNeg) (r1 13 0 6) ∧ (fm_let (fmK_sendHereAllFor_f r1 J G ((1, 0)) pb ((r1 13 0 1).toNatClampNeg) (r1 13 0 6)) (fun (r13 : fm_MI) => fmC_put_p (fm_u r13 13 0 6 ((r13 13 0 6) - 1)) (r13 17 ((I 13 0 6).toNatClampNeg) 1))))))))))
set_option maxRecDepth 100000 in
set_option maxHeartbeats 4000000 in
theorem fmC_closeFrame_c {E : fm_Ev} (hl : E.1.stackTraces = false) {d : Nat} (hd : 2 ≤ d) (I : fm_MI) (J : fm_MJ) (G : fm_MG) (pb : Nat × Nat) (hp : fmC_closeFrame_p I J G pb) : fm_Ct E d fmC_closeFrame 0 [.inr (.inr (.inr (.inr (13, 0))))] (I, J, G, fm_P (1, 0) pb) none (fmC_closeFrame_f I J G pb, J, G, fm_P (1, 0) pb) := by
  obtain ⟨d, rfl⟩ : ∃ d', d = d' + 1 := ⟨d - 1, by omega⟩
  refine fm_ct fmC_closeFrame_o hl (Nat.le_of_ble_eq_true rfl) ?_
  have O := fmC_closeFrame_o.1
  unfold fmC_closeFrame_p at hp
  have he := fmC_closeFrame_e I J G pb
  refine fm_gr O 2 (C' := (4, [(0, .inr (.inr (.inr (.inr (13, 0)))))], [.inl (I 13 0 6)], (I, J, G, fm_P (1, 0) pb))) rfl ?_
  refine fm_gb O rfl (fun h => ?_) (fun h => ?_)
  · have h1 : (I 13 0 6) = 0 := h
    have he := he.trans (if_pos h1)
    refine fm_gr O 3 (C' := (12, [(0, .inr (.inr (.inr (.inr (13, 0)))))], [], (fm_u I 13 0 2 5, J, G, fm_P (1, 0) pb))) rfl ?_
    exact fm_gRe O rfl trivial (by first | rw [he] | rfl) (by first | rw [he] | rfl)
  · have h1 : ¬ (I 13 0 6) = 0 := h
    have he := he.trans (if_neg h1)
    have hp := hp.2 h1
    refine fm_gr O 4 (C' := (21, [(0, .inr (.inr (.inr (.inr (13, 0)))))], [.inl (I 13 0 6), .inr (.inr (.inr (.inr (16, 0))))], (I, J, G, fm_P (1, 0) pb))) rfl ?_
    refine fm_gg O rfl hp.1 ?_
    have hp := hp.2
    refine fm_gr O 2 (C' := (24, [(1, .inr (.inr (.inr (.inr (17, (I 13 0 6).toNatClampNeg))))), (0, .inr (.inr (.inr (.inr (13, 0)))))], [.inr (.inr (.inr (.inr (13, 0))))], (I, J, G, fm_P (1, 0) pb))) rfl ?_
    have hc := hp.1
    have hp := hp.2
    have K := fmC_takeJustWhatIsGiven_c (d := d) hl (by omega) I J G pb hc
    generalize er1 : fmC_takeJustWhatIsGiven_f I = r1 at he hp
    have he := he.trans (fm_letE _ _)
    have hp := fm_letP hp
    rw [er1] at K
    refine fm_cV0 O fmC_takeJustWhatIsGiven_o (i := 0) (as := []) (rest := []) (v := none) rfl fk_1_132 rfl (by decide) fn_C_takeJustWhatIsGiven (Nat.le_of_ble_eq_true rfl) (K) ?_
    refine fm_gr O 2 (C' := (31, [(1, .inr (.inr (.inr (.inr (17, (I 13 0 6).toNatClampNeg))))), (0, .inr (.inr (.inr (.inr (13, 0)))))], [.inl (r1 13 0 2)], (r1, J, G, fm_P (1, 0) pb))) rfl ?_
    refine fm_gb O rfl (fun h => ?_) (fun h => ?_)
    · have h2 : (r1 13 0 2) = 0 := h
      have he := he.trans (if_pos h2)
      have hp := hp.1 h2
      refine fm_gr O 3 (C' := (40, [(1, .inr (.inr (.inr (.inr (17, (I 13 0 6).toNatClampNeg))))), (0, .inr (.inr (.inr (.inr (13, 0)))))], [.inl 23, .inl (r1 17 ((I 13 0 6).toNatClampNeg) 0)], (r1, J, G, fm_P (1, 0) pb))) rfl ?_
      refine fm_gb O rfl (fun h => ?_) (fun h => ?_)
      · have h3 : (r1 17 ((I 13 0 6).toNatClampNeg) 0) = 23 := h
        have he := he.trans (if_pos h3)
        have hp := hp.1 h3
        refine fm_gr O 3 (C' := (48, [(1, .inr (.inr (.inr (.inr (17, (I 13 0 6).toNatClampNeg))))), (0, .inr (.inr (.inr (.inr (13, 0)))))], [.inl 4, .inl (r1 17 ((I 13 0 6).toNatClampNeg) 1)], (r1, J, G, fm_P (1, 0) pb))) rfl ?_
        refine fm_gb O rfl (fun h => ?_) (fun h => ?_)
        · have h4 : (r1 17 ((I 13 0 6).toNatClampNeg) 1) = 4 := h
          have he := he.trans (if_pos h4)
          have hp := hp.1 h4
          refine fm_gr O 3 (C' := (63, [(1, .inr (.inr (.inr (.inr (17, (I 13 0 6).toNatClampNeg))))), (0, .inr (.inr (.inr (.inr (13, 0)))))], [.inl 23, .inl (r1 17 ((I 13 0 6).toNatClampNeg) 0)], (r1, J, G, fm_P (1, 0) pb))) rfl ?_
          refine fm_gb O rfl (fun h => ?_) (fun h => ?_)
          rotate_left
          · exact absurd h3 h
          · refine fm_gr O 1 (C' := (67, [(1, .inr (.inr (.inr (.inr (17, (I 13 0 6).toNatClampNeg))))), (0, .inr (.inr (.inr (.inr (13, 0)))))], [.inr (.inr (.inr (.inr (13, 0))))], (r1, J, G, fm_P (1, 0) pb))) rfl ?_
            have hc := hp.1
            have hp := hp.2
            have K := fmC_subject_c (d := d) hl (by omega) r1 J G pb hc
            refine fm_cV0 O fmC_subject_o (i := 0) (as := []) (rest := []) (v := some (.inr (.inr (.inr (.inr (2, (r1 13 0 1).toNatClampNeg)))))) rfl fk_1_41 rfl (by decide) fn_C_subject (Nat.le_of_ble_eq_true rfl) (K) ?_
            refine fm_gr O 3 (C' := (77, [(1, .inr (.inr (.inr (.inr (17, (I 13 0 6).toNatClampNeg))))), (0, .inr (.inr (.inr (.inr (13, 0)))))], [.inl (r1 17 ((I 13 0 6).toNatClampNeg) 4), .inr (.inr (.inr (.inr (6, (r1 13 0 1).toNatClampNeg))))], (r1, J, G, fm_P (1, 0) pb))) rfl ?_
            have hc := hp.1
            have hp := hp.2
            have K := fmK_sendHere_c (d := d) hl (by omega) r1 J G ((1, 0)) pb ((r1 13 0 1).toNatClampNeg) (r1 17 ((I 13 0 6).toNatClampNeg) 4) hc
            generalize er2 : fmK_sendHere_f r1 ((r1 13 0 1).toNatClampNeg) (r1 17 ((I 13 0 6).toNatClampNeg) 4) = r2 at he hp
            have he := he.trans (fm_letE _ _)
            have hp := fm_letP hp
            rw [er2] at K
            refine fm_cV0 O fmK_sendHere_o (i := (r1 13 0 1).toNatClampNeg) (as := [.inl (r1 17 ((I 13 0 6).toNatClampNeg) 4)]) (rest := []) (v := none) rfl fk_1_138 rfl (by decide) fn_K_sendHere (Nat.le_of_ble_eq_true rfl) (K) ?_
            refine fm_gr O 1 (C' := (81, [(1, .inr (.inr (.inr (.inr (17, (I 13 0 6).toNatClampNeg))))), (0, .inr (.inr (.inr (.inr (13, 0)))))], [.inr (.inr (.inr (.inr (13, 0))))], (r2, J, G, fm_P (1, 0) pb))) rfl ?_
            have hc := hp.1
            have hp := hp.2
            have K := fmC_subject_c (d := d) hl (by omega) r2 J G pb hc
            refine fm_cV0 O fmC_subject_o (i := 0) (as := []) (rest := []) (v := some (.inr (.inr (.inr (.inr (2, (r2 13 0 1).toNatClampNeg)))))) rfl fk_1_41 rfl (by decide) fn_C_subject (Nat.le_of_ble_eq_true rfl) (K) ?_
            refine fm_gr O 3 (C' := (91, [(1, .inr (.inr (.inr (.inr (17, (I 13 0 6).toNatClampNeg))))), (0, .inr (.inr (.inr (.inr (13, 0)))))], [.inl (r2 13 0 6), .inr (.inr (.inr (.inr (6, (r2 13 0 1).toNatClampNeg))))], (r2, J, G, fm_P (1, 0) pb))) rfl ?_
            have hc := hp.1
            have hp := hp.2
            have K := fmK_sendHereAllFor_c (d := d) hl (by omega) r2 J G ((1, 0)) pb ((r2 13 0 1).toNatClampNeg) (r2 13 0 6) hc
            generalize er3 : fmK_sendHereAllFor_f r2 J G ((1, 0)) pb ((r2 13 0 1).toNatClampNeg) (r2 13 0 6) = r3 at he hp
            have he := he.trans (fm_letE _ _)
            have hp := fm_letP hp
            rw [er3] at K
            refine fm_cV0 O fmK_sendHereAllFor_o (i := (r2 13 0 1).toNatClampNeg) (as := [.inl (r2 13 0 6)]) (rest := []) (v := none) rfl fk_1_147 rfl (by decide) fn_K_sendHereAllFor (Nat.le_of_ble_eq_true rfl) (K) ?_
            refine fm_gr O 9 (C' := (109, [(1, .inr (.inr (.inr (.inr (17, (I 13 0 6).toNatClampNeg))))), (0, .inr (.inr (.inr (.inr (13, 0)))))], [.inl (r3 17 ((I 13 0 6).toNatClampNeg) 1), .inr (.inr (.inr (.inr (13, 0))))], (fm_u r3 13 0 6 ((r3 13 0 6) - 1), J, G, fm_P (1, 0) pb))) rfl ?_
            have K := fmC_put_c (d := d) hl (by omega) (fm_u r3 13 0 6 ((r3 13 0 6) - 1)) J G pb (r3 17 ((I 13 0 6).toNatClampNeg) 1) hp
            generalize er4 : fmC_put_f (fm_u r3 13 0 6 ((r3 13 0 6) - 1)) (r3 17 ((I 13 0 6).toNatClampNeg) 1) = r4 at he
            have he := he.trans (fm_letE _ _)
            rw [er4] at K
            refine fm_cV0 O fmC_put_o (i := 0) (as := [.inl (r3 17 ((I 13 0 6).toNatClampNeg) 1)]) (rest := []) (v := none) rfl fk_1_105 rfl (by decide) fn_C_put (Nat.le_of_ble_eq_true rfl) (K) ?_
            exact fm_gRe O rfl trivial (by first | rw [he] | rfl) (by first | rw [he] | rfl)
        · have h4 : ¬ (r1 17 ((I 13 0 6).toNatClampNeg) 1) = 4 := h
          have he := he.trans (if_neg h4)
          have hp := hp.2 h4
          refine fm_gr O 6 (C' := (63, [(1, .inr (.inr (.inr (.inr (17, (I 13 0 6).toNatClampNeg))))), (0, .inr (.inr (.inr (.inr (13, 0)))))], [.inl 23, .inl (r1 17 ((I 13 0 6).toNatClampNeg) 0)], (fm_u r1 13 0 2 6, J, G, fm_P (1, 0) pb))) rfl ?_
          refine fm_gb O rfl (fun h => ?_) (fun h => ?_)
          rotate_left
          · exact absurd h3 h
          · refine fm_gr O 1 (C' := (67, [(1, .inr (.inr (.inr (.inr (17, (I 13 0 6).toNatClampNeg))))), (0, .inr (.inr (.inr (.inr (13, 0)))))], [.inr (.inr (.inr (.inr (13, 0))))], (fm_u r1 13 0 2 6, J, G, fm_P (1, 0) pb))) rfl ?_
            have hc := hp.1
            have hp := hp.2
            have K := fmC_subject_c (d := d) hl (by omega) (fm_u r1 13 0 2 6) J G pb hc
            refine fm_cV0 O fmC_subject_o (i := 0) (as := []) (rest := []) (v := some (.inr (.inr (.inr (.inr (2, ((fm_u r1 13 0 2 6) 13 0 1).toNatClampNeg)))))) rfl fk_1_41 rfl (by decide) fn_C_subject (Nat.le_of_ble_eq_true rfl) (K) ?_
            refine fm_gr O 3 (C' := (77, [(1, .inr (.inr (.inr (.inr (17, (I 13 0 6).toNatClampNeg))))), (0, .inr (.inr (.inr (.inr (13, 0)))))], [.inl (r1 17 ((I 13 0 6).toNatClampNeg) 4), .inr (.inr (.inr (.inr (6, ((fm_u r1 13 0 2 6) 13 0 1).toNatClampNeg))))], (fm_u r1 13 0 2 6, J, G, fm_P (1, 0) pb))) rfl ?_
            have hc := hp.1
            have hp := hp.2
            have K := fmK_sendHere_c (d := d) hl (by omega) (fm_u r1 13 0 2 6) J G ((1, 0)) pb (((fm_u r1 13 0 2 6) 13 0 1).toNatClampNeg) (r1 17 ((I 13 0 6).toNatClampNeg) 4) hc
            generalize er5 : fmK_sendHere_f (fm_u r1 13 0 2 6) (((fm_u r1 13 0 2 6) 13 0 1).toNatClampNeg) (r1 17 ((I 13 0 6).toNatClampNeg) 4) = r5 at he hp
            have he := he.trans (fm_letE _ _)
            have hp := fm_letP hp
            rw [er5] at K
            refine fm_cV0 O fmK_sendHere_o (i := ((fm_u r1 13 0 2 6) 13 0 1).toNatClampNeg) (as := [.inl (r1 17 ((I 13 0 6).toNatClampNeg) 4)]) (rest := []) (v := none) rfl fk_1_138 rfl (by decide) fn_K_sendHere (Nat.le_of_ble_eq_true rfl) (K) ?_
            refine fm_gr O 1 (C' := (81, [(1, .inr (.inr (.inr (.inr (17, (I 13 0 6).toNatClampNeg))))), (0, .inr (.inr (.inr (.inr (13, 0)))))], [.inr (.inr (.inr (.inr (13, 0))))], (r5, J, G, fm_P (1, 0) pb))) rfl ?_
            have hc := hp.1
            have hp := hp.2
            have K := fmC_subject_c (d := d) hl (by omega) r5 J G pb hc
            refine fm_cV0 O fmC_subject_o (i := 0) (as := []) (rest := []) (v := some (.inr (.inr (.inr (.inr (2, (r5 13 0 1).toNatClampNeg)))))) rfl fk_1_41 rfl (by decide) fn_C_subject (Nat.le_of_ble_eq_true rfl) (K) ?_
            refine fm_gr O 3 (C' := (91, [(1, .inr (.inr (.inr (.inr (17, (I 13 0 6).toNatClampNeg))))), (0, .inr (.inr (.inr (.inr (13, 0)))))], [.inl (r5 13 0 6), .inr (.inr (.inr (.inr (6, (r5 13 0 1).toNatClampNeg))))], (r5, J, G, fm_P (1, 0) pb))) rfl ?_
            have hc := hp.1
            have hp := hp.2
            have K := fmK_sendHereAllFor_c (d := d) hl (by omega) r5 J G ((1, 0)) pb ((r5 13 0 1).toNatClampNeg) (r5 13 0 6) hc
            generalize er6 : fmK_sendHereAllFor_f r5 J G ((1, 0)) pb ((r5 13 0 1).toNatClampNeg) (r5 13 0 6) = r6 at he hp
            have he := he.trans (fm_letE _ _)
            have hp := fm_letP hp
            rw [er6] at K
            refine fm_cV0 O fmK_sendHereAllFor_o (i := (r5 13 0 1).toNatClampNeg) (as := [.inl (r5 13 0 6)]) (rest := []) (v := none) rfl fk_1_147 rfl (by decide) fn_K_sendHereAllFor (Nat.le_of_ble_eq_true rfl) (K) ?_
            refine fm_gr O 9 (C' := (109, [(1, .inr (.inr (.inr (.inr (17, (I 13 0 6).toNatClampNeg))))), (0, .inr (.inr (.inr (.inr (13, 0)))))], [.inl (r6 17 ((I 13 0 6).toNatClampNeg) 1), .inr (.inr (.inr (.inr (13, 0))))], (fm_u r6 13 0 6 ((r6 13 0 6) - 1), J, G, fm_P (1, 0) pb))) rfl ?_
            have K := fmC_put_c (d := d) hl (by omega) (fm_u r6 13 0 6 ((r6 13 0 6) - 1)) J G pb (r6 17 ((I 13 0 6).toNatClampNeg) 1) hp
            generalize er7 : fmC_put_f (fm_u r6 13 0 6 ((r6 13 0 6) - 1)) (r6 17 ((I 13 0 6).toNatClampNeg) 1) = r7 at he
            have he := he.trans (fm_letE _ _)
            rw [er7] at K
            refine fm_cV0 O fmC_put_o (i := 0) (as := [.inl (r6 17 ((I 13 0 6).toNatClampNeg) 1)]) (rest := []) (v := none) rfl fk_1_105 rfl (by decide) fn_C_put (Nat.le_of_ble_eq_true rfl) (K) ?_
            exact fm_gRe O rfl trivial (by first | rw [he] | rfl) (by first | rw [he] | rfl)
      · have h3 : ¬ (r1 17 ((I 13 0 6).toNatClampNeg) 0) = 23 := h
        have he := he.trans (if_neg h3)
        have hp := hp.2 h3
        refine fm_gr O 3 (C' := (63, [(1, .inr (.inr (.inr (.inr (17, (I 13 0 6).toNatClampNeg))))), (0, .inr (.inr (.inr (.inr (13, 0)))))], [.inl 23, .inl (r1 17 ((I 13 0 6).toNatClampNeg) 0)], (r1, J, G, fm_P (1, 0) pb))) rfl ?_
        refine fm_gb O rfl (fun h => ?_) (fun h => ?_)
        · exact absurd h h3
        · refine fm_gr O 1 (C' := (81, [(1, .inr (.inr (.inr (.inr (17, (I 13 0 6).toNatClampNeg))))), (0, .inr (.inr (.inr (.inr (13, 0)))))], [.inr (.inr (.inr (.inr (13, 0))))], (r1, J, G, fm_P (1, 0) pb))) rfl ?_
          have hc := hp.1
          have hp := hp.2
          have K := fmC_subject_c (d := d) hl (by omega) r1 J G pb hc
          refine fm_cV0 O fmC_subject_o (i := 0) (as := []) (rest := []) (v := some (.inr (.inr (.inr (.inr (2, (r1 13 0 1).toNatClampNeg)))))) rfl fk_1_41 rfl (by decide) fn_C_subject (Nat.le_of_ble_eq_true rfl) (K) ?_
          refine fm_gr O 3 (C' := (91, [(1, .inr (.inr (.inr (.inr (17, (I 13 0 6).toNatClampNeg))))), (0, .inr (.inr (.inr (.inr (13, 0)))))], [.inl (r1 13 0 6), .inr (.inr (.inr (.inr (6, (r1 13 0 1).toNatClampNeg))))], (r1, J, G, fm_P (1, 0) pb))) rfl ?_
          have hc := hp.1
          have hp := hp.2
          have K := fmK_sendHereAllFor_c (d := d) hl (by omega) r1 J G ((1, 0)) pb ((r1 13 0 1).toNatClampNeg) (r1 13 0 6) hc
          generalize er8 : fmK_sendHereAllFor_f r1 J G ((1, 0)) pb ((r1 13 0 1).toNatClampNeg) (r1 13 0 6) = r8 at he hp
          have he := he.trans (fm_letE _ _)
          have hp := fm_letP hp
          rw [er8] at K
          refine fm_cV0 O fmK_sendHereAllFor_o (i := (r1 13 0 1).toNatClampNeg) (as := [.inl (r1 13 0 6)]) (rest := []) (v := none) rfl fk_1_147 rfl (by decide) fn_K_sendHereAllFor (Nat.le_of_ble_eq_true rfl) (K) ?_
          refine fm_gr O 9 (C' := (109, [(1, .inr (.inr (.inr (.inr (17, (I 13 0 6).toNatClampNeg))))), (0, .inr (.inr (.inr (.inr (13, 0)))))], [.inl (r8 17 ((I 13 0 6).toNatClampNeg) 1), .inr (.inr (.inr (.inr (13, 0))))], (fm_u r8 13 0 6 ((r8 13 0 6) - 1), J, G, fm_P (1, 0) pb))) rfl ?_
          have K := fmC_put_c (d := d) hl (by omega) (fm_u r8 13 0 6 ((r8 13 0 6) - 1)) J G pb (r8 17 ((I 13 0 6).toNatClampNeg) 1) hp
          generalize er9 : fmC_put_f (fm_u r8 13 0 6 ((r8 13 0 6) - 1)) (r8 17 ((I 13 0 6).toNatClampNeg) 1) = r9 at he
          have he := he.trans (fm_letE _ _)
          rw [er9] at K
          refine fm_cV0 O fmC_put_o (i := 0) (as := [.inl (r8 17 ((I 13 0 6).toNatClampNeg) 1)]) (rest := []) (v := none) rfl fk_1_105 rfl (by decide) fn_C_put (Nat.le_of_ble_eq_true rfl) (K) ?_
          exact fm_gRe O rfl trivial (by first | rw [he] | rfl) (by first | rw [he] | rfl)
    · have h2 : ¬ (r1 13 0 2) = 0 := h
      have he := he.trans (if_neg h2)
      have hp := hp.2 h2
      refine fm_gr O 3 (C' := (63, [(1, .inr (.inr (.inr (.inr (17, (I 13 0 6).toNatClampNeg))))), (0, .inr (.inr (.inr (.inr (13, 0)))))], [.inl 23, .inl (r1 17 ((I 13 0 6).toNatClampNeg) 0)], (r1, J, G, fm_P (1, 0) pb))) rfl ?_
      refine fm_gb O rfl (fun h => ?_) (fun h => ?_)
      · have h3 : (r1 17 ((I 13 0 6).toNatClampNeg) 0) = 23 := h
        have he := he.trans (if_pos h3)
        have hp := hp.1 h3
        refine fm_gr O 1 (C' := (67, [(1, .inr (.inr (.inr (.inr (17, (I 13 0 6).toNatClampNeg))))), (0, .inr (.inr (.inr (.inr (13, 0)))))], [.inr (.inr (.inr (.inr (13, 0))))], (r1, J, G, fm_P (1, 0) pb))) rfl ?_
        have hc := hp.1
        have hp := hp.2
        have K := fmC_subject_c (d := d) hl (by omega) r1 J G pb hc
        refine fm_cV0 O fmC_subject_o (i := 0) (as := []) (rest := []) (v := some (.inr (.inr (.inr (.inr (2, (r1 13 0 1).toNatClampNeg)))))) rfl fk_1_41 rfl (by decide) fn_C_subject (Nat.le_of_ble_eq_true rfl) (K) ?_
        refine fm_gr O 3 (C' := (77, [(1, .inr (.inr (.inr (.inr (17, (I 13 0 6).toNatClampNeg))))), (0, .inr (.inr (.inr (.inr (13, 0)))))], [.inl (r1 17 ((I 13 0 6).toNatClampNeg) 4), .inr (.inr (.inr (.inr (6, (r1 13 0 1).toNatClampNeg))))], (r1, J, G, fm_P (1, 0) pb))) rfl ?_
        have hc := hp.1
        have hp := hp.2
        have K := fmK_sendHere_c (d := d) hl (by omega) r1 J G ((1, 0)) pb ((r1 13 0 1).toNatClampNeg) (r1 17 ((I 13 0 6).toNatClampNeg) 4) hc
        generalize er10 : fmK_sendHere_f r1 ((r1 13 0 1).toNatClampNeg) (r1 17 ((I 13 0 6).toNatClampNeg) 4) = r10 at he hp
        have he := he.trans (fm_letE _ _)
        have hp := fm_letP hp
        rw [er10] at K
        refine fm_cV0 O fmK_sendHere_o (i := (r1 13 0 1).toNatClampNeg) (as := [.inl (r1 17 ((I 13 0 6).toNatClampNeg) 4)]) (rest := []) (v := none) rfl fk_1_138 rfl (by decide) fn_K_sendHere (Nat.le_of_ble_eq_true rfl) (K) ?_
        refine fm_gr O 1 (C' := (81, [(1, .inr (.inr (.inr (.inr (17, (I 13 0 6).toNatClampNeg))))), (0, .inr (.inr (.inr (.inr (13, 0)))))], [.inr (.inr (.inr (.inr (13, 0))))], (r10, J, G, fm_P (1, 0) pb))) rfl ?_
        have hc := hp.1
        have hp := hp.2
        have K := fmC_subject_c (d := d) hl (by omega) r10 J G pb hc
        refine fm_cV0 O fmC_subject_o (i := 0) (as := []) (rest := []) (v := some (.inr (.inr (.inr (.inr (2, (r10 13 0 1).toNatClampNeg)))))) rfl fk_1_41 rfl (by decide) fn_C_subject (Nat.le_of_ble_eq_true rfl) (K) ?_
        refine fm_gr O 3 (C' := (91, [(1, .inr (.inr (.inr (.inr (17, (I 13 0 6).toNatClampNeg))))), (0, .inr (.inr (.inr (.inr (13, 0)))))], [.inl (r10 13 0 6), .inr (.inr (.inr (.inr (6, (r10 13 0 1).toNatClampNeg))))], (r10, J, G, fm_P (1, 0) pb))) rfl ?_
        have hc := hp.1
        have hp := hp.2
        have K := fmK_sendHereAllFor_c (d := d) hl (by omega) r10 J G ((1, 0)) pb ((r10 13 0 1).toNatClampNeg) (r10 13 0 6) hc
        generalize er11 : fmK_sendHereAllFor_f r10 J G ((1, 0)) pb ((r10 13 0 1).toNatClampNeg) (r10 13 0 6) = r11 at he hp
        have he := he.trans (fm_letE _ _)
        have hp := fm_letP hp
        rw [er11] at K
        refine fm_cV0 O fmK_sendHereAllFor_o (i := (r10 13 0 1).toNatClampNeg) (as := [.inl (r10 13 0 6)]) (rest := []) (v := none) rfl fk_1_147 rfl (by decide) fn_K_sendHereAllFor (Nat.le_of_ble_eq_true rfl) (K) ?_
        refine fm_gr O 9 (C' := (109, [(1, .inr (.inr (.inr (.inr (17, (I 13 0 6).toNatClampNeg))))), (0, .inr (.inr (.inr (.inr (13, 0)))))], [.inl (r11 17 ((I 13 0 6).toNatClampNeg) 1), .inr (.inr (.inr (.inr (13, 0))))], (fm_u r11 13 0 6 ((r11 13 0 6) - 1), J, G, fm_P (1, 0) pb))) rfl ?_
        have K := fmC_put_c (d := d) hl (by omega) (fm_u r11 13 0 6 ((r11 13 0 6) - 1)) J G pb (r11 17 ((I 13 0 6).toNatClampNeg) 1) hp
        generalize er12 : fmC_put_f (fm_u r11 13 0 6 ((r11 13 0 6) - 1)) (r11 17 ((I 13 0 6).toNatClampNeg) 1) = r12 at he
        have he := he.trans (fm_letE _ _)
        rw [er12] at K
        refine fm_cV0 O fmC_put_o (i := 0) (as := [.inl (r11 17 ((I 13 0 6).toNatClampNeg) 1)]) (rest := []) (v := none) rfl fk_1_105 rfl (by decide) fn_C_put (Nat.le_of_ble_eq_true rfl) (K) ?_
        exact fm_gRe O rfl trivial (by first | rw [he] | rfl) (by first | rw [he] | rfl)
      · have h3 : ¬ (r1 17 ((I 13 0 6).toNatClampNeg) 0) = 23 := h
        have he := he.trans (if_neg h3)
        have hp := hp.2 h3
        refine fm_gr O 1 (C' := (81, [(1, .inr (.inr (.inr (.inr (17, (I 13 0 6).toNatClampNeg))))), (0, .inr (.inr (.inr (.inr (13, 0)))))], [.inr (.inr (.inr (.inr (13, 0))))], (r1, J, G, fm_P (1, 0) pb))) rfl ?_
        have hc := hp.1
        have hp := hp.2
        have K := fmC_subject_c (d := d) hl (by omega) r1 J G pb hc
        refine fm_cV0 O fmC_subject_o (i := 0) (as := []) (rest := []) (v := some (.inr (.inr (.inr (.inr (2, (r1 13 0 1).toNatClampNeg)))))) rfl fk_1_41 rfl (by decide) fn_C_subject (Nat.le_of_ble_eq_true rfl) (K) ?_
        refine fm_gr O 3 (C' := (91, [(1, .inr (.inr (.inr (.inr (17, (I 13 0 6).toNatClampNeg))))), (0, .inr (.inr (.inr (.inr (13, 0)))))], [.inl (r1 13 0 6), .inr (.inr (.inr (.inr (6, (r1 13 0 1).toNatClampNeg))))], (r1, J, G, fm_P (1, 0) pb))) rfl ?_
        have hc := hp.1
        have hp := hp.2
        have K := fmK_sendHereAllFor_c (d := d) hl (by omega) r1 J G ((1, 0)) pb ((r1 13 0 1).toNatClampNeg) (r1 13 0 6) hc
        generalize er13 : fmK_sendHereAllFor_f r1 J G ((1, 0)) pb ((r1 13 0 1).toNatClampNeg) (r1 13 0 6) = r13 at he hp
        have he := he.trans (fm_letE _ _)
        have hp := fm_letP hp
        rw [er13] at K
        refine fm_cV0 O fmK_sendHereAllFor_o (i := (r1 13 0 1).toNatClampNeg) (as := [.inl (r1 13 0 6)]) (rest := []) (v := none) rfl fk_1_147 rfl (by decide) fn_K_sendHereAllFor (Nat.le_of_ble_eq_true rfl) (K) ?_
        refine fm_gr O 9 (C' := (109, [(1, .inr (.inr (.inr (.inr (17, (I 13 0 6).toNatClampNeg))))), (0, .inr (.inr (.inr (.inr (13, 0)))))], [.inl (r13 17 ((I 13 0 6).toNatClampNeg) 1), .inr (.inr (.inr (.inr (13, 0))))], (fm_u r13 13 0 6 ((r13 13 0 6) - 1), J, G, fm_P (1, 0) pb))) rfl ?_
        have K := fmC_put_c (d := d) hl (by omega) (fm_u r13 13 0 6 ((r13 13 0 6) - 1)) J G pb (r13 17 ((I 13 0 6).toNatClampNeg) 1) hp
        generalize er14 : fmC_put_f (fm_u r13 13 0 6 ((r13 13 0 6) - 1)) (r13 17 ((I 13 0 6).toNatClampNeg) 1) = r14 at he
        have he := he.trans (fm_letE _ _)
        rw [er14] at K
        refine fm_cV0 O fmC_put_o (i := 0) (as := [.inl (r13 17 ((I 13 0 6).toNatClampNeg) 1)]) (rest := []) (v := none) rfl fk_1_105 rfl (by decide) fn_C_put (Nat.le_of_ble_eq_true rfl) (K) ?_
        exact fm_gRe O rfl trivial (by first | rw [he] | rfl) (by first | rw [he] | rfl)
def fmC_endOfCode_f (I : fm_MI) (J : fm_MJ) (G : fm_MG) (pb : Nat × Nat) : fm_MI :=
  if (I 13 0 6) = 0 then (fm_let (fmC_takeJustWhatIsGiven_f I) (fun (r1 : fm_MI) => fm_let (fmK_sendHereAllFor_f r1 J G ((1, 0)) pb ((r1 13 0 1).toNatClampNeg) 0) (fun (r2 : fm_MI) => r2))) else (fm_u I 13 0 2 5)
theorem fmC_endOfCode_e (I : fm_MI) (J : fm_MJ) (G : fm_MG) (pb : Nat × Nat) : fmC_endOfCode_f I J G pb = if (I 13 0 6) = 0 then (fm_let (fmC_takeJustWhatIsGiven_f I) (fun (r1 : fm_MI) => fm_let (fmK_sendHereAllFor_f r1 J G ((1, 0)) pb ((r1 13 0 1).toNatClampNeg) 0) (fun (r2 : fm_MI) => r2))) else (fm_u I 13 0 2 5) := rfl
def fmC_endOfCode_p (I : fm_MI) (J : fm_MJ) (G : fm_MG) (pb : Nat × Nat) : Prop :=
  ((I 13 0 6) = 0 → fmC_takeJustWhatIsGiven_p I ∧ (fm_let (fmC_takeJustWhatIsGiven_f I) (fun (r1 : fm_MI) => fmC_subject_p r1 ∧ (fmK_sendHereAllFor_p r1 J G ((1, 0)) pb ((r1 13 0 1).toNatClampNeg) 0)))) ∧ (¬ (I 13 0 6) = 0 → True)
set_option maxRecDepth 100000 in
set_option maxHeartbeats 4000000 in
theorem fmC_endOfCode_c {E : fm_Ev} (hl : E.1.stackTraces = false) {d : Nat} (hd : 2 ≤ d) (I : fm_MI) (J : fm_MJ) (G : fm_MG) (pb : Nat × Nat) (hp : fmC_endOfCode_p I J G pb) : fm_Ct E d fmC_endOfCode 0 [.inr (.inr (.inr (.inr (13, 0))))] (I, J, G, fm_P (1, 0) pb) none (fmC_endOfCode_f I J G pb, J, G, fm_P (1, 0) pb) := by
  obtain ⟨d, rfl⟩ : ∃ d', d = d' + 1 := ⟨d - 1, by omega⟩
  refine fm_ct fmC_endOfCode_o hl (Nat.le_of_ble_eq_true rfl) ?_
  have O := fmC_endOfCode_o.1
  unfold fmC_endOfCode_p at hp
  have he := fmC_endOfCode_e I J G pb
  refine fm_gr O 2 (C' := (4, [(0, .inr (.inr (.inr (.inr (13, 0)))))], [.inl (I 13 0 6)], (I, J, G, fm_P (1, 0) pb))) rfl ?_
  refine fm_gb O rfl (fun h => ?_) (fun h => ?_)
  · have h1 : (I 13 0 6) = 0 := h
    have he := he.trans (if_pos h1)
    have hp := hp.1 h1
    refine fm_gr O 1 (C' := (14, [(0, .inr (.inr (.inr (.inr (13, 0)))))], [.inr (.inr (.inr (.inr (13, 0))))], (I, J, G, fm_P (1, 0) pb))) rfl ?_
    have hc := hp.1
    have hp := hp.2
    have K := fmC_takeJustWhatIsGiven_c (d := d) hl (by omega) I J G pb hc
    generalize er1 : fmC_takeJustWhatIsGiven_f I = r1 at he hp
    have he := he.trans (fm_letE _ _)
    have hp := fm_letP hp
    rw [er1] at K
    refine fm_cV0 O fmC_takeJustWhatIsGiven_o (i := 0) (as := []) (rest := []) (v := none) rfl fk_1_132 rfl (by decide) fn_C_takeJustWhatIsGiven (Nat.le_of_ble_eq_true rfl) (K) ?_
    refine fm_gr O 1 (C' := (18, [(0, .inr (.inr (.inr (.inr (13, 0)))))], [.inr (.inr (.inr (.inr (13, 0))))], (r1, J, G, fm_P (1, 0) pb))) rfl ?_
    have hc := hp.1
    have hp := hp.2
    have K := fmC_subject_c (d := d) hl (by omega) r1 J G pb hc
    refine fm_cV0 O fmC_subject_o (i := 0) (as := []) (rest := []) (v := some (.inr (.inr (.inr (.inr (2, (r1 13 0 1).toNatClampNeg)))))) rfl fk_1_41 rfl (by decide) fn_C_subject (Nat.le_of_ble_eq_true rfl) (K) ?_
    refine fm_gr O 2 (C' := (25, [(0, .inr (.inr (.inr (.inr (13, 0)))))], [.inl 0, .inr (.inr (.inr (.inr (6, (r1 13 0 1).toNatClampNeg))))], (r1, J, G, fm_P (1, 0) pb))) rfl ?_
    have K := fmK_sendHereAllFor_c (d := d) hl (by omega) r1 J G ((1, 0)) pb ((r1 13 0 1).toNatClampNeg) 0 hp
    generalize er2 : fmK_sendHereAllFor_f r1 J G ((1, 0)) pb ((r1 13 0 1).toNatClampNeg) 0 = r2 at he
    have he := he.trans (fm_letE _ _)
    rw [er2] at K
    refine fm_cV0 O fmK_sendHereAllFor_o (i := (r1 13 0 1).toNatClampNeg) (as := [.inl 0]) (rest := []) (v := none) rfl fk_1_147 rfl (by decide) fn_K_sendHereAllFor (Nat.le_of_ble_eq_true rfl) (K) ?_
    exact fm_gRe O rfl trivial (by first | rw [he] | rfl) (by first | rw [he] | rfl)
  · have h1 : ¬ (I 13 0 6) = 0 := h
    have he := he.trans (if_neg h1)
    refine fm_gr O 3 (C' := (12, [(0, .inr (.inr (.inr (.inr (13, 0)))))], [], (fm_u I 13 0 2 5, J, G, fm_P (1, 0) pb))) rfl ?_
    exact fm_gRe O rfl trivial (by first | rw [he] | rfl) (by first | rw [he] | rfl)
def fmC_nest_f (I : fm_MI) (J : fm_MJ) (G : fm_MG) (pb : Nat × Nat) (op : Int32) (aa : Int32) : fm_MI :=
  if op = 23 then (fm_let (fmC_take_f I 0) (fun (r1 : Int32 × fm_MI) => fm_let (fmC_addRow_f r1.2 op aa) (fun (r2 : Int32 × fm_MI) => fm_let (fmC_openFrame_f r2.2 op aa) (fun (r3 : fm_MI) => fm_u r3 17 ((r3 13 0 6).toNatClampNeg) 4 r2.1)))) else (if op = 24 then (fm_let (fmC_turnToElse_f I) (fun (r4 : fm_MI) => r4)) else (if op = 25 then (fm_let (fmC_closeFrame_f I J G pb) (fun (r5 : fm_MI) => r5)) else (fm_let (fmC_openFrame_f I op aa) (fun (r6 : fm_MI) => r6))))
theorem fmC_nest_e (I : fm_MI) (J : fm_MJ) (G : fm_MG) (pb : Nat × Nat) (op : Int32) (aa : Int32) : fmC_nest_f I J G pb op aa = if op = 23 then (fm_let (fmC_take_f I 0) (fun (r1 : Int32 × fm_MI) => fm_let (fmC_addRow_f r1.2 op aa) (fun (r2 : Int32 × fm_MI) => fm_let (fmC_openFrame_f r2.2 op aa) (fun (r3 : fm_MI) => fm_u r3 17 ((r3 13 0 6).toNatClampNeg) 4 r2.1)))) else (if op = 24 then (fm_let (fmC_turnToElse_f I) (fun (r4 : fm_MI) => r4)) else (if op = 25 then (fm_let (fmC_closeFrame_f I J G pb) (fun (r5 : fm_MI) => r5)) else (fm_let (fmC_openFrame_f I op aa) (fun (r6 : fm_MI) => r6)))) := rfl
def fmC_nest_p (I : fm_MI) (J : fm_MJ) (G : fm_MG) (pb : Nat × Nat) (op : Int32) (aa : Int32) : Prop :=
  (op = 23 → fmC_take_p I 0 ∧ (fm_let (fmC_take_f I 0) (fun (r1 : Int32 × fm_MI) => fmC_addRow_p r1.2 ∧ (fm_let (fmC_addRow_f r1.2 op aa) (fun (r2 : Int32 × fm_MI) => fmC_openFrame_p r2.2 ∧ (fm_let (fmC_openFrame_f r2.2 op aa) (fun (r3 : fm_MI) => vp_in (r3 13 0 6) 9))))))) ∧ (¬ op = 23 → (op = 24 → fmC_turnToElse_p I) ∧ (¬ op = 24 → (op = 25 → fmC_closeFrame_p I J G pb) ∧ (¬ op = 25 → fmC_openFrame_p I)))
set_option maxRecDepth 100000 in
set_option maxHeartbeats 4000000 in
theorem fmC_nest_c {E : fm_Ev} (hl : E.1.stackTraces = false) {d : Nat} (hd : 3 ≤ d) (I : fm_MI) (J : fm_MJ) (G : fm_MG) (pb : Nat × Nat) (op : Int32) (aa : Int32) (hp : fmC_nest_p I J G pb op aa) : fm_Ct E d fmC_nest 0 [.inr (.inr (.inr (.inr (13, 0)))), .inl op, .inl aa] (I, J, G, fm_P (1, 0) pb) none (fmC_nest_f I J G pb op aa, J, G, fm_P (1, 0) pb) := by
  obtain ⟨d, rfl⟩ : ∃ d', d = d' + 1 := ⟨d - 1, by omega⟩
  refine fm_ct fmC_nest_o hl (Nat.le_of_ble_eq_true rfl) ?_
  have O := fmC_nest_o.1
  unfold fmC_nest_p at hp
  have he := fmC_nest_e I J G pb op aa
  refine fm_gr O 1 (C' := (1, [(0, .inr (.inr (.inr (.inr (13, 0))))), (1, .inl op), (2, .inl aa)], [.inl op], (I, J, G, fm_P (1, 0) pb))) rfl ?_
  by_cases h1 : op = 23
  · have he := he.trans (if_pos h1)
    have hp := hp.1 h1
    refine fm_gs O 23 rfl (show op.toInt = 23 from by rw [h1]; decide) ?_
    refine fm_gr O 2 (C' := (30, [(0, .inr (.inr (.inr (.inr (13, 0))))), (1, .inl op), (2, .inl aa)], [.inl 0, .inr (.inr (.inr (.inr (13, 0))))], (I, J, G, fm_P (1, 0) pb))) rfl ?_
    have hc := hp.1
    have hp := hp.2
    have K := fmC_take_c (d := d) hl (by omega) I J G pb 0 hc
    generalize er1 : fmC_take_f I 0 = r1 at he hp
    have he := he.trans (fm_letE _ _)
    have hp := fm_letP hp
    rw [er1] at K
    refine fm_cV0 O fmC_take_o (i := 0) (as := [.inl 0]) (rest := []) (v := some (.inl r1.1)) rfl fk_1_109 rfl (by decide) fn_C_take (Nat.le_of_ble_eq_true rfl) (K) ?_
    refine fm_gr O 4 (C' := (37, [(0, .inr (.inr (.inr (.inr (13, 0))))), (1, .inl op), (2, .inl aa)], [.inl aa, .inl op, .inr (.inr (.inr (.inr (13, 0))))], (r1.2, J, G, fm_P (1, 0) pb))) rfl ?_
    have hc := hp.1
    have hp := hp.2
    have K := fmC_addRow_c (d := d) hl (by omega) r1.2 J G pb op aa hc
    generalize er2 : fmC_addRow_f r1.2 op aa = r2 at he hp
    have he := he.trans (fm_letE _ _)
    have hp := fm_letP hp
    rw [er2] at K
    refine fm_cV0 O fmC_addRow_o (i := 0) (as := [.inl op, .inl aa]) (rest := []) (v := some (.inl r2.1)) rfl fk_1_100 rfl (by decide) fn_C_addRow (Nat.le_of_ble_eq_true rfl) (K) ?_
    refine fm_gr O 4 (C' := (44, [(3, .inl r2.1), (0, .inr (.inr (.inr (.inr (13, 0))))), (1, .inl op), (2, .inl aa)], [.inl aa, .inl op, .inr (.inr (.inr (.inr (13, 0))))], (r2.2, J, G, fm_P (1, 0) pb))) rfl ?_
    have hc := hp.1
    have hp := hp.2
    have K := fmC_openFrame_c (d := d) hl (by omega) r2.2 J G pb op aa hc
    generalize er3 : fmC_openFrame_f r2.2 op aa = r3 at he hp
    have he := he.trans (fm_letE _ _)
    have hp := fm_letP hp
    rw [er3] at K
    refine fm_cV0 O fmC_openFrame_o (i := 0) (as := [.inl op, .inl aa]) (rest := []) (v := none) rfl fk_1_113 rfl (by decide) fn_C_openFrame (Nat.le_of_ble_eq_true rfl) (K) ?_
    refine fm_gr O 4 (C' := (55, [(3, .inl r2.1), (0, .inr (.inr (.inr (.inr (13, 0))))), (1, .inl op), (2, .inl aa)], [.inl (r3 13 0 6), .inr (.inr (.inr (.inr (16, 0))))], (r3, J, G, fm_P (1, 0) pb))) rfl ?_
    refine fm_gg O rfl hp ?_
    refine fm_gr O 3 (C' := (83, [(3, .inl r2.1), (0, .inr (.inr (.inr (.inr (13, 0))))), (1, .inl op), (2, .inl aa)], [], (fm_u r3 17 ((r3 13 0 6).toNatClampNeg) 4 r2.1, J, G, fm_P (1, 0) pb))) rfl ?_
    exact fm_gRe O rfl trivial (by first | rw [he] | rfl) (by first | rw [he] | rfl)
  · have he := he.trans (if_neg h1)
    have hp := hp.2 h1
    by_cases h2 : op = 24
    · have he := he.trans (if_pos h2)
      have hp := hp.1 h2
      refine fm_gs O 24 rfl (show op.toInt = 24 from by rw [h2]; decide) ?_
      refine fm_gr O 1 (C' := (64, [(0, .inr (.inr (.inr (.inr (13, 0))))), (1, .inl op), (2, .inl aa)], [.inr (.inr (.inr (.inr (13, 0))))], (I, J, G, fm_P (1, 0) pb))) rfl ?_
      have K := fmC_turnToElse_c (d := d) hl (by omega) I J G pb hp
      generalize er4 : fmC_turnToElse_f I = r4 at he
      have he := he.trans (fm_letE _ _)
      rw [er4] at K
      refine fm_cV0 O fmC_turnToElse_o (i := 0) (as := []) (rest := []) (v := none) rfl fk_1_119 rfl (by decide) fn_C_turnToElse (Nat.le_of_ble_eq_true rfl) (K) ?_
      refine fm_gr O 1 (C' := (83, [(0, .inr (.inr (.inr (.inr (13, 0))))), (1, .inl op), (2, .inl aa)], [], (r4, J, G, fm_P (1, 0) pb))) rfl ?_
      exact fm_gRe O rfl trivial (by first | rw [he] | rfl) (by first | rw [he] | rfl)
    · have he := he.trans (if_neg h2)
      have hp := hp.2 h2
      by_cases h3 : op = 25
      · have he := he.trans (if_pos h3)
        have hp := hp.1 h3
        refine fm_gs O 25 rfl (show op.toInt = 25 from by rw [h3]; decide) ?_
        refine fm_gr O 1 (C' := (71, [(0, .inr (.inr (.inr (.inr (13, 0))))), (1, .inl op), (2, .inl aa)], [.inr (.inr (.inr (.inr (13, 0))))], (I, J, G, fm_P (1, 0) pb))) rfl ?_
        have K := fmC_closeFrame_c (d := d) hl (by omega) I J G pb hp
        generalize er5 : fmC_closeFrame_f I J G pb = r5 at he
        have he := he.trans (fm_letE _ _)
        rw [er5] at K
        refine fm_cV0 O fmC_closeFrame_o (i := 0) (as := []) (rest := []) (v := none) rfl fk_1_122 rfl (by decide) fn_C_closeFrame (Nat.le_of_ble_eq_true rfl) (K) ?_
        refine fm_gr O 1 (C' := (83, [(0, .inr (.inr (.inr (.inr (13, 0))))), (1, .inl op), (2, .inl aa)], [], (r5, J, G, fm_P (1, 0) pb))) rfl ?_
        exact fm_gRe O rfl trivial (by first | rw [he] | rfl) (by first | rw [he] | rfl)
      · have he := he.trans (if_neg h3)
        have hp := hp.2 h3
        refine fm_gt O rfl (by
            show op.toInt < 23 ∨ 25 < op.toInt
            have := lv_neT h1 (show (23 : Int32).toInt = 23 from by decide)
            have := lv_neT h2 (show (24 : Int32).toInt = 24 from by decide)
            have := lv_neT h3 (show (25 : Int32).toInt = 25 from by decide)
            omega) ?_
        refine fm_gr O 3 (C' := (80, [(0, .inr (.inr (.inr (.inr (13, 0))))), (1, .inl op), (2, .inl aa)], [.inl aa, .inl op, .inr (.inr (.inr (.inr (13, 0))))], (I, J, G, fm_P (1, 0) pb))) rfl ?_
        have K := fmC_openFrame_c (d := d) hl (by omega) I J G pb op aa hp
        generalize er6 : fmC_openFrame_f I op aa = r6 at he
        have he := he.trans (fm_letE _ _)
        rw [er6] at K
        refine fm_cV0 O fmC_openFrame_o (i := 0) (as := [.inl op, .inl aa]) (rest := []) (v := none) rfl fk_1_113 rfl (by decide) fn_C_openFrame (Nat.le_of_ble_eq_true rfl) (K) ?_
        exact fm_gRe O rfl trivial (by first | rw [he] | rfl) (by first | rw [he] | rfl)
def fmC_jump_f (I : fm_MI) (op : Int32) (fr : Int32) : fm_MI :=
  fm_let (fmR_neededByJump_f I fr.toNatClampNeg) (fun (r1 : Int32) => fm_let (fmC_take_f I r1) (fun (r2 : Int32 × fm_MI) => fm_let (fmC_addRow_f r2.2 op 0) (fun (r3 : Int32 × fm_MI) => if r3.1 = (-1) then r3.2 else (if r1 = 4 then (if (r3.2 17 fr.toNatClampNeg 0) = 22 then (fm_u r3.2 11 ((r3.2 13 0 1).toNatClampNeg) r3.1.toNatClampNeg (r3.2 17 fr.toNatClampNeg 3)) else (fm_u r3.2 12 ((r3.2 13 0 1).toNatClampNeg) r3.1.toNatClampNeg fr)) else (if (r3.2 17 fr.toNatClampNeg 0) = 22 then (fm_u (fm_u r3.2 10 ((r3.2 13 0 1).toNatClampNeg) r3.1.toNatClampNeg ((r3.2 2 ((r3.2 13 0 1).toNatClampNeg) 2) + (r3.2 17 fr.toNatClampNeg 2))) 11 ((r3.2 13 0 1).toNatClampNeg) r3.1.toNatClampNeg (r3.2 17 fr.toNatClampNeg 3)) else (fm_u (fm_u r3.2 10 ((r3.2 13 0 1).toNatClampNeg) r3.1.toNatClampNeg ((r3.2 2 ((r3.2 13 0 1).toNatClampNeg) 2) + (r3.2 17 fr.toNatClampNeg 2))) 12 ((r3.2 13 0 1).toNatClampNeg) r3.1.toNatClampNeg fr))))))
theorem fmC_jump_e (I : fm_MI) (op : Int32) (fr : Int32) : fmC_jump_f I op fr = fm_let (fmR_neededByJump_f I fr.toNatClampNeg) (fun (r1 : Int32) => fm_let (fmC_take_f I r1) (fun (r2 : Int32 × fm_MI) => fm_let (fmC_addRow_f r2.2 op 0) (fun (r3 : Int32 × fm_MI) => if r3.1 = (-1) then r3.2 else (if r1 = 4 then (if (r3.2 17 fr.toNatClampNeg 0) = 22 then (fm_u r3.2 11 ((r3.2 13 0 1).toNatClampNeg) r3.1.toNatClampNeg (r3.2 17 fr.toNatClampNeg 3)) else (fm_u r3.2 12 ((r3.2 13 0 1).toNatClampNeg) r3.1.toNatClampNeg fr)) else (if (r3.2 17 fr.toNatClampNeg 0) = 22 then (fm_u (fm_u r3.2 10 ((r3.2 13 0 1).toNatClampNeg) r3.1.toNatClampNeg ((r3.2 2 ((r3.2 13 0 1).toNatClampNeg) 2) + (r3.2 17 fr.toNatClampNeg 2))) 11 ((r3.2 13 0 1).toNatClampNeg) r3.1.toNatClampNeg (r3.2 17 fr.toNatClampNeg 3)) else (fm_u (fm_u r3.2 10 ((r3.2 13 0 1).toNatClampNeg) r3.1.toNatClampNeg ((r3.2 2 ((r3.2 13 0 1).toNatClampNeg) 2) + (r3.2 17 fr.toNatClampNeg 2))) 12 ((r3.2 13 0 1).toNatClampNeg) r3.1.toNatClampNeg fr)))))) := rfl
def fmC_jump_p (I : fm_MI) (op : Int32) (fr : Int32) : Prop :=
  (vp_in fr 9) ∧ (fm_let (fmR_neededByJump_f I fr.toNatClampNeg) (fun (r1 : Int32) => fmC_take_p I r1 ∧ (fm_let (fmC_take_f I r1) (fun (r2 : Int32 × fm_MI) => fmC_addRow_p r2.2 ∧ (fm_let (fmC_addRow_f r2.2 op 0) (fun (r3 : Int32 × fm_MI) => (r3.1 = (-1) → True) ∧ (¬ r3.1 = (-1) → fmC_subject_p r3.2 ∧ ((r1 = 4 → ((r3.2 17 fr.toNatClampNeg 0) = 22 → vp_in r3.1 40) ∧ (¬ (r3.2 17 fr.toNatClampNeg 0) = 22 → vp_in r3.1 40)) ∧ (¬ r1 = 4 → fmC_subject_p r3.2 ∧ ((vp_in r3.1 40) ∧ (((r3.2 17 fr.toNatClampNeg 0) = 22 → vp_in r3.1 40) ∧ (¬ (r3.2 17 fr.toNatClampNeg 0) = 22 → vp_in r3.1 40))))))))))))
set_option maxRecDepth 100000 in
set_option maxHeartbeats 4000000 in
theorem fmC_jump_c {E : fm_Ev} (hl : E.1.stackTraces = false) {d : Nat} (hd : 2 ≤ d) (I : fm_MI) (J : fm_MJ) (G : fm_MG) (pb : Nat × Nat) (op : Int32) (fr : Int32) (hp : fmC_jump_p I op fr) : fm_Ct E d fmC_jump 0 [.inr (.inr (.inr (.inr (13, 0)))), .inl op, .inl fr] (I, J, G, fm_P (1, 0) pb) none (fmC_jump_f I op fr, J, G, fm_P (1, 0) pb) := by
  obtain ⟨d, rfl⟩ : ∃ d', d = d' + 1 := ⟨d - 1, by omega⟩
  refine fm_ct fmC_jump_o hl (Nat.le_of_ble_eq_true rfl) ?_
  have O := fmC_jump_o.1
  unfold fmC_jump_p at hp
  have he := fmC_jump_e I op fr
  refine fm_gr O 3 (C' := (5, [(0, .inr (.inr (.inr (.inr (13, 0))))), (1, .inl op), (2, .inl fr)], [.inl fr, .inr (.inr (.inr (.inr (16, 0))))], (I, J, G, fm_P (1, 0) pb))) rfl ?_
  refine fm_gg O rfl hp.1 ?_
  have hp := hp.2
  refine fm_gr O 2 (C' := (8, [(3, .inr (.inr (.inr (.inr (17, fr.toNatClampNeg))))), (0, .inr (.inr (.inr (.inr (13, 0))))), (1, .inl op), (2, .inl fr)], [.inr (.inr (.inr (.inr (17, fr.toNatClampNeg))))], (I, J, G, fm_P (1, 0) pb))) rfl ?_
  have K := fmR_neededByJump_c (d := d) hl (by omega) I J G ((1, 0)) pb fr.toNatClampNeg
  generalize er1 : fmR_neededByJump_f I fr.toNatClampNeg = r1 at he hp
  have he := he.trans (fm_letE _ _)
  have hp := fm_letP hp
  rw [er1] at K
  refine fm_cV0 O fmR_neededByJump_o (i := fr.toNatClampNeg) (as := []) (rest := []) (v := some (.inl r1)) rfl fk_1_159 rfl (by decide) fn_R_neededByJump (Nat.le_of_ble_eq_true rfl) (K) ?_
  refine fm_gr O 3 (C' := (16, [(4, .inl r1), (3, .inr (.inr (.inr (.inr (17, fr.toNatClampNeg))))), (0, .inr (.inr (.inr (.inr (13, 0))))), (1, .inl op), (2, .inl fr)], [.inl r1, .inr (.inr (.inr (.inr (13, 0))))], (I, J, G, fm_P (1, 0) pb))) rfl ?_
  have hc := hp.1
  have hp := hp.2
  have K := fmC_take_c (d := d) hl (by omega) I J G pb r1 hc
  generalize er2 : fmC_take_f I r1 = r2 at he hp
  have he := he.trans (fm_letE _ _)
  have hp := fm_letP hp
  rw [er2] at K
  refine fm_cV0 O fmC_take_o (i := 0) (as := [.inl r1]) (rest := []) (v := some (.inl r2.1)) rfl fk_1_109 rfl (by decide) fn_C_take (Nat.le_of_ble_eq_true rfl) (K) ?_
  refine fm_gr O 4 (C' := (23, [(4, .inl r1), (3, .inr (.inr (.inr (.inr (17, fr.toNatClampNeg))))), (0, .inr (.inr (.inr (.inr (13, 0))))), (1, .inl op), (2, .inl fr)], [.inl 0, .inl op, .inr (.inr (.inr (.inr (13, 0))))], (r2.2, J, G, fm_P (1, 0) pb))) rfl ?_
  have hc := hp.1
  have hp := hp.2
  have K := fmC_addRow_c (d := d) hl (by omega) r2.2 J G pb op 0 hc
  generalize er3 : fmC_addRow_f r2.2 op 0 = r3 at he hp
  have he := he.trans (fm_letE _ _)
  have hp := fm_letP hp
  rw [er3] at K
  refine fm_cV0 O fmC_addRow_o (i := 0) (as := [.inl op, .inl 0]) (rest := []) (v := some (.inl r3.1)) rfl fk_1_100 rfl (by decide) fn_C_addRow (Nat.le_of_ble_eq_true rfl) (K) ?_
  refine fm_gr O 3 (C' := (31, [(5, .inl r3.1), (4, .inl r1), (3, .inr (.inr (.inr (.inr (17, fr.toNatClampNeg))))), (0, .inr (.inr (.inr (.inr (13, 0))))), (1, .inl op), (2, .inl fr)], [.inl (-1), .inl r3.1], (r3.2, J, G, fm_P (1, 0) pb))) rfl ?_
  refine fm_gb O rfl (fun h => ?_) (fun h => ?_)
  · have h1 : r3.1 = (-1) := h
    have he := he.trans (if_pos h1)
    exact fm_gRe O rfl trivial (by first | rw [he] | rfl) (by first | rw [he] | rfl)
  · have h1 : ¬ r3.1 = (-1) := h
    have he := he.trans (if_neg h1)
    have hp := hp.2 h1
    refine fm_gr O 1 (C' := (36, [(5, .inl r3.1), (4, .inl r1), (3, .inr (.inr (.inr (.inr (17, fr.toNatClampNeg))))), (0, .inr (.inr (.inr (.inr (13, 0))))), (1, .inl op), (2, .inl fr)], [.inr (.inr (.inr (.inr (13, 0))))], (r3.2, J, G, fm_P (1, 0) pb))) rfl ?_
    have hc := hp.1
    have hp := hp.2
    have K := fmC_subject_c (d := d) hl (by omega) r3.2 J G pb hc
    refine fm_cV0 O fmC_subject_o (i := 0) (as := []) (rest := []) (v := some (.inr (.inr (.inr (.inr (2, (r3.2 13 0 1).toNatClampNeg)))))) rfl fk_1_41 rfl (by decide) fn_C_subject (Nat.le_of_ble_eq_true rfl) (K) ?_
    refine fm_gr O 4 (C' := (47, [(6, .inr (.inr (.inr (.inr (6, (r3.2 13 0 1).toNatClampNeg))))), (5, .inl r3.1), (4, .inl r1), (3, .inr (.inr (.inr (.inr (17, fr.toNatClampNeg))))), (0, .inr (.inr (.inr (.inr (13, 0))))), (1, .inl op), (2, .inl fr)], [.inl 4, .inl r1], (r3.2, J, G, fm_P (1, 0) pb))) rfl ?_
    refine fm_gb O rfl (fun h => ?_) (fun h => ?_)
    · have h2 : r1 = 4 := h
      have he := he.trans (if_pos h2)
      have hp := hp.1 h2
      refine fm_gr O 3 (C' := (76, [(6, .inr (.inr (.inr (.inr (6, (r3.2 13 0 1).toNatClampNeg))))), (5, .inl r3.1), (4, .inl r1), (3, .inr (.inr (.inr (.inr (17, fr.toNatClampNeg))))), (0, .inr (.inr (.inr (.inr (13, 0))))), (1, .inl op), (2, .inl fr)], [.inl 22, .inl (r3.2 17 fr.toNatClampNeg 0)], (r3.2, J, G, fm_P (1, 0) pb))) rfl ?_
      refine fm_gb O rfl (fun h => ?_) (fun h => ?_)
      · have h3 : (r3.2 17 fr.toNatClampNeg 0) = 22 := h
        have he := he.trans (if_pos h3)
        have hp := hp.1 h3
        refine fm_gr O 5 (C' := (90, [(6, .inr (.inr (.inr (.inr (6, (r3.2 13 0 1).toNatClampNeg))))), (5, .inl r3.1), (4, .inl r1), (3, .inr (.inr (.inr (.inr (17, fr.toNatClampNeg))))), (0, .inr (.inr (.inr (.inr (13, 0))))), (1, .inl op), (2, .inl fr)], [.inl (r3.2 17 fr.toNatClampNeg 3), .inl r3.1, .inr (.inr (.inr (.inr (11, (r3.2 13 0 1).toNatClampNeg))))], (r3.2, J, G, fm_P (1, 0) pb))) rfl ?_
        refine fm_gg O rfl hp ?_
        refine fm_gr O 1 (C' := (103, [(6, .inr (.inr (.inr (.inr (6, (r3.2 13 0 1).toNatClampNeg))))), (5, .inl r3.1), (4, .inl r1), (3, .inr (.inr (.inr (.inr (17, fr.toNatClampNeg))))), (0, .inr (.inr (.inr (.inr (13, 0))))), (1, .inl op), (2, .inl fr)], [], (fm_u r3.2 11 ((r3.2 13 0 1).toNatClampNeg) r3.1.toNatClampNeg (r3.2 17 fr.toNatClampNeg 3), J, G, fm_P (1, 0) pb))) rfl ?_
        exact fm_gRe O rfl trivial (by first | rw [he] | rfl) (by first | rw [he] | rfl)
      · have h3 : ¬ (r3.2 17 fr.toNatClampNeg 0) = 22 := h
        have he := he.trans (if_neg h3)
        have hp := hp.2 h3
        refine fm_gr O 4 (C' := (102, [(6, .inr (.inr (.inr (.inr (6, (r3.2 13 0 1).toNatClampNeg))))), (5, .inl r3.1), (4, .inl r1), (3, .inr (.inr (.inr (.inr (17, fr.toNatClampNeg))))), (0, .inr (.inr (.inr (.inr (13, 0))))), (1, .inl op), (2, .inl fr)], [.inl fr, .inl r3.1, .inr (.inr (.inr (.inr (12, (r3.2 13 0 1).toNatClampNeg))))], (r3.2, J, G, fm_P (1, 0) pb))) rfl ?_
        refine fm_gg O rfl hp ?_
        exact fm_gRe O rfl trivial (by first | rw [he] | rfl) (by first | rw [he] | rfl)
    · have h2 : ¬ r1 = 4 := h
      have he := he.trans (if_neg h2)
      have hp := hp.2 h2
      refine fm_gr O 4 (C' := (58, [(6, .inr (.inr (.inr (.inr (6, (r3.2 13 0 1).toNatClampNeg))))), (5, .inl r3.1), (4, .inl r1), (3, .inr (.inr (.inr (.inr (17, fr.toNatClampNeg))))), (0, .inr (.inr (.inr (.inr (13, 0))))), (1, .inl op), (2, .inl fr)], [.inr (.inr (.inr (.inr (13, 0)))), .inl r3.1, .inr (.inr (.inr (.inr (10, (r3.2 13 0 1).toNatClampNeg))))], (r3.2, J, G, fm_P (1, 0) pb))) rfl ?_
      have hc := hp.1
      have hp := hp.2
      have K := fmC_subject_c (d := d) hl (by omega) r3.2 J G pb hc
      refine fm_cV0 O fmC_subject_o (i := 0) (as := []) (rest := [.inl r3.1, .inr (.inr (.inr (.inr (10, (r3.2 13 0 1).toNatClampNeg))))]) (v := some (.inr (.inr (.inr (.inr (2, (r3.2 13 0 1).toNatClampNeg)))))) rfl fk_1_41 rfl (by decide) fn_C_subject (Nat.le_of_ble_eq_true rfl) (K) ?_
      refine fm_gr O 4 (C' := (69, [(6, .inr (.inr (.inr (.inr (6, (r3.2 13 0 1).toNatClampNeg))))), (5, .inl r3.1), (4, .inl r1), (3, .inr (.inr (.inr (.inr (17, fr.toNatClampNeg))))), (0, .inr (.inr (.inr (.inr (13, 0))))), (1, .inl op), (2, .inl fr)], [.inl ((r3.2 2 ((r3.2 13 0 1).toNatClampNeg) 2) + (r3.2 17 fr.toNatClampNeg 2)), .inl r3.1, .inr (.inr (.inr (.inr (10, (r3.2 13 0 1).toNatClampNeg))))], (r3.2, J, G, fm_P (1, 0) pb))) rfl ?_
      refine fm_gg O rfl hp.1 ?_
      have hp := hp.2
      refine fm_gr O 3 (C' := (76, [(6, .inr (.inr (.inr (.inr (6, (r3.2 13 0 1).toNatClampNeg))))), (5, .inl r3.1), (4, .inl r1), (3, .inr (.inr (.inr (.inr (17, fr.toNatClampNeg))))), (0, .inr (.inr (.inr (.inr (13, 0))))), (1, .inl op), (2, .inl fr)], [.inl 22, .inl (r3.2 17 fr.toNatClampNeg 0)], (fm_u r3.2 10 ((r3.2 13 0 1).toNatClampNeg) r3.1.toNatClampNeg ((r3.2 2 ((r3.2 13 0 1).toNatClampNeg) 2) + (r3.2 17 fr.toNatClampNeg 2)), J, G, fm_P (1, 0) pb))) rfl ?_
      refine fm_gb O rfl (fun h => ?_) (fun h => ?_)
      · have h3 : (r3.2 17 fr.toNatClampNeg 0) = 22 := h
        have he := he.trans (if_pos h3)
        have hp := hp.1 h3
        refine fm_gr O 5 (C' := (90, [(6, .inr (.inr (.inr (.inr (6, (r3.2 13 0 1).toNatClampNeg))))), (5, .inl r3.1), (4, .inl r1), (3, .inr (.inr (.inr (.inr (17, fr.toNatClampNeg))))), (0, .inr (.inr (.inr (.inr (13, 0))))), (1, .inl op), (2, .inl fr)], [.inl (r3.2 17 fr.toNatClampNeg 3), .inl r3.1, .inr (.inr (.inr (.inr (11, (r3.2 13 0 1).toNatClampNeg))))], (fm_u r3.2 10 ((r3.2 13 0 1).toNatClampNeg) r3.1.toNatClampNeg ((r3.2 2 ((r3.2 13 0 1).toNatClampNeg) 2) + (r3.2 17 fr.toNatClampNeg 2)), J, G, fm_P (1, 0) pb))) rfl ?_
        refine fm_gg O rfl hp ?_
        refine fm_gr O 1 (C' := (103, [(6, .inr (.inr (.inr (.inr (6, (r3.2 13 0 1).toNatClampNeg))))), (5, .inl r3.1), (4, .inl r1), (3, .inr (.inr (.inr (.inr (17, fr.toNatClampNeg))))), (0, .inr (.inr (.inr (.inr (13, 0))))), (1, .inl op), (2, .inl fr)], [], (fm_u (fm_u r3.2 10 ((r3.2 13 0 1).toNatClampNeg) r3.1.toNatClampNeg ((r3.2 2 ((r3.2 13 0 1).toNatClampNeg) 2) + (r3.2 17 fr.toNatClampNeg 2))) 11 ((r3.2 13 0 1).toNatClampNeg) r3.1.toNatClampNeg (r3.2 17 fr.toNatClampNeg 3), J, G, fm_P (1, 0) pb))) rfl ?_
        exact fm_gRe O rfl trivial (by first | rw [he] | rfl) (by first | rw [he] | rfl)
      · have h3 : ¬ (r3.2 17 fr.toNatClampNeg 0) = 22 := h
        have he := he.trans (if_neg h3)
        have hp := hp.2 h3
        refine fm_gr O 4 (C' := (102, [(6, .inr (.inr (.inr (.inr (6, (r3.2 13 0 1).toNatClampNeg))))), (5, .inl r3.1), (4, .inl r1), (3, .inr (.inr (.inr (.inr (17, fr.toNatClampNeg))))), (0, .inr (.inr (.inr (.inr (13, 0))))), (1, .inl op), (2, .inl fr)], [.inl fr, .inl r3.1, .inr (.inr (.inr (.inr (12, (r3.2 13 0 1).toNatClampNeg))))], (fm_u r3.2 10 ((r3.2 13 0 1).toNatClampNeg) r3.1.toNatClampNeg ((r3.2 2 ((r3.2 13 0 1).toNatClampNeg) 2) + (r3.2 17 fr.toNatClampNeg 2)), J, G, fm_P (1, 0) pb))) rfl ?_
        refine fm_gg O rfl hp ?_
        exact fm_gRe O rfl trivial (by first | rw [he] | rfl) (by first | rw [he] | rfl)
def fmC_callFunction_L14_f : Nat → fm_MI → fm_MJ → fm_MG → (Nat × Nat) → Int32 → Nat → Int32 → fm_MI
  | 0, I, J, G, pb, y1, y2, y3 => I
  | n + 1, I, J, G, pb, y1, y2, y3 => if y3 < 0 then (fm_let (fmC_addRow_f I 29 y1) (fun (r1 : Int32 × fm_MI) => fm_let (fmC_put_f r1.2 (r1.2 2 y2 3)) (fun (r2 : fm_MI) => r2))) else (fm_let (fmC_take_f I (I 3 y2 y3.toNatClampNeg)) (fun (r3 : Int32 × fm_MI) => fmC_callFunction_L14_f n r3.2 J G pb y1 y2 (y3 + (-1))))
theorem fmC_callFunction_L14_e (n : Nat) (I : fm_MI) (J : fm_MJ) (G : fm_MG) (pb : Nat × Nat) (y1 : Int32) (y2 : Nat) (y3 : Int32) : fmC_callFunction_L14_f (n + 1) I J G pb y1 y2 y3 = if y3 < 0 then (fm_let (fmC_addRow_f I 29 y1) (fun (r1 : Int32 × fm_MI) => fm_let (fmC_put_f r1.2 (r1.2 2 y2 3)) (fun (r2 : fm_MI) => r2))) else (fm_let (fmC_take_f I (I 3 y2 y3.toNatClampNeg)) (fun (r3 : Int32 × fm_MI) => fmC_callFunction_L14_f n r3.2 J G pb y1 y2 (y3 + (-1)))) := rfl
def fmC_callFunction_L14_p : Nat → fm_MI → fm_MJ → fm_MG → (Nat × Nat) → Int32 → Nat → Int32 → Prop
  | 0, I, J, G, pb, y1, y2, y3 => False
  | n + 1, I, J, G, pb, y1, y2, y3 => (y3 < 0 → fmC_addRow_p I ∧ (fm_let (fmC_addRow_f I 29 y1) (fun (r1 : Int32 × fm_MI) => fmC_put_p r1.2 (r1.2 2 y2 3)))) ∧ (¬ y3 < 0 → (vp_in y3 6) ∧ (fmC_take_p I (I 3 y2 y3.toNatClampNeg) ∧ (fm_let (fmC_take_f I (I 3 y2 y3.toNatClampNeg)) (fun (r3 : Int32 × fm_MI) => fmC_callFunction_L14_p n r3.2 J G pb y1 y2 (y3 + (-1))))))
theorem fmC_callFunction_L14_q (n : Nat) (I : fm_MI) (J : fm_MJ) (G : fm_MG) (pb : Nat × Nat) (y1 : Int32) (y2 : Nat) (y3 : Int32) : fmC_callFunction_L14_p (n + 1) I J G pb y1 y2 y3 = ((y3 < 0 → fmC_addRow_p I ∧ (fm_let (fmC_addRow_f I 29 y1) (fun (r1 : Int32 × fm_MI) => fmC_put_p r1.2 (r1.2 2 y2 3)))) ∧ (¬ y3 < 0 → (vp_in y3 6) ∧ (fmC_take_p I (I 3 y2 y3.toNatClampNeg) ∧ (fm_let (fmC_take_f I (I 3 y2 y3.toNatClampNeg)) (fun (r3 : Int32 × fm_MI) => fmC_callFunction_L14_p n r3.2 J G pb y1 y2 (y3 + (-1))))))) := rfl
set_option maxRecDepth 100000 in
set_option maxHeartbeats 4000000 in
theorem fmC_callFunction_L14_c {E : fm_Ev} (hl : E.1.stackTraces = false) {d : Nat} (hd : 2 ≤ d + 1) (n : Nat) : ∀ (I : fm_MI) (J : fm_MJ) (G : fm_MG) (pb : Nat × Nat) (y1 : Int32) (y2 : Nat) (y3 : Int32), fmC_callFunction_L14_p n I J G pb y1 y2 y3 → fm_Go E (d + 1) fmC_callFunction 0 (14, [(0, .inr (.inr (.inr (.inr (13, 0))))), (1, .inl y1), (2, .inr (.inr (.inr (.inr (2, y2))))), (3, .inl y3)], [], (I, J, G, fm_P (1, 0) pb)) (fm_Zr E none (fmC_callFunction_L14_f n I J G pb y1 y2 y3, J, G, fm_P (1, 0) pb)) := by
  have O := fmC_callFunction_o.1
  induction n with
  | zero => intro I J G pb y1 y2 y3 hp; exact hp.elim
  | succ n ih =>
    intro I J G pb y1 y2 y3 hp
    rw [fmC_callFunction_L14_q] at hp
    have he := fmC_callFunction_L14_e n I J G pb y1 y2 y3
    refine fm_gr O 1 (C' := (15, [(0, .inr (.inr (.inr (.inr (13, 0))))), (1, .inl y1), (2, .inr (.inr (.inr (.inr (2, y2))))), (3, .inl y3)], [.inl y3], (I, J, G, fm_P (1, 0) pb))) rfl ?_
    refine fm_gb O rfl (fun h => ?_) (fun h => ?_)
    · have h1 : y3 < 0 := h
      have he := he.trans (if_pos h1)
      have hp := hp.1 h1
      refine fm_gr O 3 (C' := (39, [(0, .inr (.inr (.inr (.inr (13, 0))))), (1, .inl y1), (2, .inr (.inr (.inr (.inr (2, y2))))), (3, .inl y3)], [.inl y1, .inl 29, .inr (.inr (.inr (.inr (13, 0))))], (I, J, G, fm_P (1, 0) pb))) rfl ?_
      have hc := hp.1
      have hp := hp.2
      have K := fmC_addRow_c (d := d) hl (by omega) I J G pb 29 y1 hc
      generalize er1 : fmC_addRow_f I 29 y1 = r1 at he hp
      have he := he.trans (fm_letE _ _)
      have hp := fm_letP hp
      rw [er1] at K
      refine fm_cV0 O fmC_addRow_o (i := 0) (as := [.inl 29, .inl y1]) (rest := []) (v := some (.inl r1.1)) rfl fk_1_100 rfl (by decide) fn_C_addRow (Nat.le_of_ble_eq_true rfl) (K) ?_
      refine fm_gr O 4 (C' := (48, [(0, .inr (.inr (.inr (.inr (13, 0))))), (1, .inl y1), (2, .inr (.inr (.inr (.inr (2, y2))))), (3, .inl y3)], [.inl (r1.2 2 y2 3), .inr (.inr (.inr (.inr (13, 0))))], (r1.2, J, G, fm_P (1, 0) pb))) rfl ?_
      have K := fmC_put_c (d := d) hl (by omega) r1.2 J G pb (r1.2 2 y2 3) hp
      generalize er2 : fmC_put_f r1.2 (r1.2 2 y2 3) = r2 at he
      have he := he.trans (fm_letE _ _)
      rw [er2] at K
      refine fm_cV0 O fmC_put_o (i := 0) (as := [.inl (r1.2 2 y2 3)]) (rest := []) (v := none) rfl fk_1_105 rfl (by decide) fn_C_put (Nat.le_of_ble_eq_true rfl) (K) ?_
      exact fm_gRe O rfl trivial (by first | rw [he] | rfl) (by first | rw [he] | rfl)
    · have h1 : ¬ y3 < 0 := h
      have he := he.trans (if_neg h1)
      have hp := hp.2 h1
      refine fm_gr O 4 (C' := (24, [(0, .inr (.inr (.inr (.inr (13, 0))))), (1, .inl y1), (2, .inr (.inr (.inr (.inr (2, y2))))), (3, .inl y3)], [.inl y3, .inr (.inr (.inr (.inr (3, y2)))), .inr (.inr (.inr (.inr (13, 0))))], (I, J, G, fm_P (1, 0) pb))) rfl ?_
      refine fm_gg O rfl hp.1 ?_
      have hp := hp.2
      have hc := hp.1
      have hp := hp.2
      have K := fmC_take_c (d := d) hl (by omega) I J G pb (I 3 y2 y3.toNatClampNeg) hc
      generalize er3 : fmC_take_f I (I 3 y2 y3.toNatClampNeg) = r3 at he hp
      have he := he.trans (fm_letE _ _)
      have hp := fm_letP hp
      rw [er3] at K
      refine fm_cV0 O fmC_take_o (i := 0) (as := [.inl (I 3 y2 y3.toNatClampNeg)]) (rest := []) (v := some (.inl r3.1)) rfl fk_1_109 rfl (by decide) fn_C_take (Nat.le_of_ble_eq_true rfl) (K) ?_
      refine fm_gr O 3 (C' := (14, [(3, .inl (y3 + (-1))), (0, .inr (.inr (.inr (.inr (13, 0))))), (1, .inl y1), (2, .inr (.inr (.inr (.inr (2, y2)))))], [], (r3.2, J, G, fm_P (1, 0) pb))) rfl ?_
      refine fm_gL O [1, 2, 3, 0] rfl ?_
      rw [he]
      exact ih r3.2 J G pb y1 y2 (y3 + (-1)) hp
def fmC_callFunction_f (I : fm_MI) (J : fm_MJ) (G : fm_MG) (pb : Nat × Nat) (aa : Int32) : fm_MI :=
  fmC_callFunction_L14_f 4 I J G pb aa aa.toNatClampNeg ((I 2 aa.toNatClampNeg 1) - 1)
theorem fmC_callFunction_e (I : fm_MI) (J : fm_MJ) (G : fm_MG) (pb : Nat × Nat) (aa : Int32) : fmC_callFunction_f I J G pb aa = fmC_callFunction_L14_f 4 I J G pb aa aa.toNatClampNeg ((I 2 aa.toNatClampNeg 1) - 1) := rfl
def fmC_callFunction_p (I : fm_MI) (J : fm_MJ) (G : fm_MG) (pb : Nat × Nat) (aa : Int32) : Prop :=
  (vp_in aa 4) ∧ (fmC_callFunction_L14_p 4 I J G pb aa aa.toNatClampNeg ((I 2 aa.toNatClampNeg 1) - 1))
set_option maxRecDepth 100000 in
set_option maxHeartbeats 4000000 in
theorem fmC_callFunction_c {E : fm_Ev} (hl : E.1.stackTraces = false) {d : Nat} (hd : 2 ≤ d) (I : fm_MI) (J : fm_MJ) (G : fm_MG) (pb : Nat × Nat) (aa : Int32) (hp : fmC_callFunction_p I J G pb aa) : fm_Ct E d fmC_callFunction 0 [.inr (.inr (.inr (.inr (13, 0)))), .inl aa] (I, J, G, fm_P (1, 0) pb) none (fmC_callFunction_f I J G pb aa, J, G, fm_P (1, 0) pb) := by
  obtain ⟨d, rfl⟩ : ∃ d', d = d' + 1 := ⟨d - 1, by omega⟩
  refine fm_ct fmC_callFunction_o hl (Nat.le_of_ble_eq_true rfl) ?_
  have O := fmC_callFunction_o.1
  unfold fmC_callFunction_p at hp
  have he := fmC_callFunction_e I J G pb aa
  refine fm_gr O 3 (C' := (5, [(0, .inr (.inr (.inr (.inr (13, 0))))), (1, .inl aa)], [.inl aa, .inr (.inr (.inr (.inr (1, 0))))], (I, J, G, fm_P (1, 0) pb))) rfl ?_
  refine fm_gg O rfl hp.1 ?_
  have hp := hp.2
  refine fm_gr O 6 (C' := (14, [(3, .inl ((I 2 aa.toNatClampNeg 1) - 1)), (2, .inr (.inr (.inr (.inr (2, aa.toNatClampNeg))))), (0, .inr (.inr (.inr (.inr (13, 0))))), (1, .inl aa)], [], (I, J, G, fm_P (1, 0) pb))) rfl ?_
  refine fm_gL O [2, 3, 1, 0] rfl ?_
  rw [he]
  exact fmC_callFunction_L14_c hl hd 4 I J G pb aa aa.toNatClampNeg ((I 2 aa.toNatClampNeg 1) - 1) hp
end
section
/-! THE CHECKER, by program (wip/tools/walk.py, gen_c2.py) -/
def fmC_leave_f (I : fm_MI) (J : fm_MJ) (G : fm_MG) (pb : Nat × Nat) (op : Int32) (aa : Int32) : fm_MI :=
  if op = 26 then (fm_let (fmC_jump_f I op ((I 13 0 6) - aa)) (fun (r1 : fm_MI) => fm_let (fmC_die_f r1) (fun (r2 : fm_MI) => r2))) else (if op = 27 then (fm_let (fmC_take_f I 0) (fun (r3 : Int32 × fm_MI) => fm_let (fmC_jump_f r3.2 op ((r3.2 13 0 6) - aa)) (fun (r4 : fm_MI) => fm_let (fmR_neededByJump_f r4 (((r4 13 0 6) - aa).toNatClampNeg)) (fun (r5 : Int32) => fm_let (fmC_put_f r4 r5) (fun (r6 : fm_MI) => r6))))) else (if op = 28 then (fm_let (fmC_jump_f I 26 0) (fun (r7 : fm_MI) => fm_let (fmC_die_f r7) (fun (r8 : fm_MI) => r8))) else (if op = 29 then (fm_let (fmC_callFunction_f I J G pb aa) (fun (r9 : fm_MI) => r9)) else (fm_let (fmC_addRow_f I op aa) (fun (r10 : Int32 × fm_MI) => fm_let (fmC_die_f r10.2) (fun (r11 : fm_MI) => r11))))))
theorem fmC_leave_e (I : fm_MI) (J : fm_MJ) (G : fm_MG) (pb : Nat × Nat) (op : Int32) (aa : Int32) : fmC_leave_f I J G pb op aa = if op = 26 then (fm_let (fmC_jump_f I op ((I 13 0 6) - aa)) (fun (r1 : fm_MI) => fm_let (fmC_die_f r1) (fun (r2 : fm_MI) => r2))) else (if op = 27 then (fm_let (fmC_take_f I 0) (fun (r3 : Int32 × fm_MI) => fm_let (fmC_jump_f r3.2 op ((r3.2 13 0 6) - aa)) (fun (r4 : fm_MI) => fm_let (fmR_neededByJump_f r4 (((r4 13 0 6) - aa).toNatClampNeg)) (fun (r5 : Int32) => fm_let (fmC_put_f r4 r5) (fun (r6 : fm_MI) => r6))))) else (if op = 28 then (fm_let (fmC_jump_f I 26 0) (fun (r7 : fm_MI) => fm_let (fmC_die_f r7) (fun (r8 : fm_MI) => r8))) else (if op = 29 then (fm_let (fmC_callFunction_f I J G pb aa) (fun (r9 : fm_MI) => r9)) else (fm_let (fmC_addRow_f I op aa) (fun (r10 : Int32 × fm_MI) => fm_let (fmC_die_f r10.2) (fun (r11 : fm_MI) => r11)))))) := rfl
def fmC_leave_p (I : fm_MI) (J : fm_MJ) (G : fm_MG) (pb : Nat × Nat) (op : Int32) (aa : Int32) : Prop :=
  (op = 26 → fmC_jump_p I op ((I 13 0 6) - aa) ∧ (fm_let (fmC_jump_f I op ((I 13 0 6) - aa)) (fun (r1 : fm_MI) => fmC_die_p r1))) ∧ (¬ op = 26 → (op = 27 → fmC_take_p I 0 ∧ (fm_let (fmC_take_f I 0) (fun (r3 : Int32 × fm_MI) => fmC_jump_p r3.2 op ((r3.2 13 0 6) - aa) ∧ (fm_let (fmC_jump_f r3.2 op ((r3.2 13 0 6) - aa)) (fun (r4 : fm_MI) => (vp_in ((r4 13 0 6) - aa) 9) ∧ (fm_let (fmR_neededByJump_f r4 (((r4 13 0 6) - aa).toNatClampNeg)) (fun (r5 : Int32) => fmC_put_p r4 r5))))))) ∧ (¬ op = 27 → (op = 28 → fmC_jump_p I 26 0 ∧ (fm_let (fmC_jump_f I 26 0) (fun (r7 : fm_MI) => fmC_die_p r7))) ∧ (¬ op = 28 → (op = 29 → fmC_callFunction_p I J G pb aa) ∧ (¬ op = 29 → fmC_addRow_p I ∧ (fm_let (fmC_addRow_f I op aa) (fun (r10 : Int32 × fm_MI) => fmC_die_p r10.2))))))
set_option maxRecDepth 100000 in
set_option maxHeartbeats 4000000 in
theorem fmC_leave_c {E : fm_Ev} (hl : E.1.stackTraces = false) {d : Nat} (hd : 3 ≤ d) (I : fm_MI) (J : fm_MJ) (G : fm_MG) (pb : Nat × Nat) (op : Int32) (aa : Int32) (hp : fmC_leave_p I J G pb op aa) : fm_Ct E d fmC_leave 0 [.inr (.inr (.inr (.inr (13, 0)))), .inl op, .inl aa] (I, J, G, fm_P (1, 0) pb) none (fmC_leave_f I J G pb op aa, J, G, fm_P (1, 0) pb) := by
  obtain ⟨d, rfl⟩ : ∃ d', d = d' + 1 := ⟨d - 1, by omega⟩
  refine fm_ct fmC_leave_o hl (Nat.le_of_ble_eq_true rfl) ?_
  have O := fmC_leave_o.1
  unfold fmC_leave_p at hp
  have he := fmC_leave_e I J G pb op aa
  refine fm_gr O 1 (C' := (1, [(0, .inr (.inr (.inr (.inr (13, 0))))), (1, .inl op), (2, .inl aa)], [.inl op], (I, J, G, fm_P (1, 0) pb))) rfl ?_
  by_cases h1 : op = 26
  · have he := he.trans (if_pos h1)
    have hp := hp.1 h1
    refine fm_gs O 26 rfl (show op.toInt = 26 from by rw [h1]; decide) ?_
    refine fm_gr O 6 (C' := (40, [(0, .inr (.inr (.inr (.inr (13, 0))))), (1, .inl op), (2, .inl aa)], [.inl ((I 13 0 6) - aa), .inl op, .inr (.inr (.inr (.inr (13, 0))))], (I, J, G, fm_P (1, 0) pb))) rfl ?_
    have hc := hp.1
    have hp := hp.2
    have K := fmC_jump_c (d := d) hl (by omega) I J G pb op ((I 13 0 6) - aa) hc
    generalize er1 : fmC_jump_f I op ((I 13 0 6) - aa) = r1 at he hp
    have he := he.trans (fm_letE _ _)
    have hp := fm_letP hp
    rw [er1] at K
    refine fm_cV0 O fmC_jump_o (i := 0) (as := [.inl op, .inl ((I 13 0 6) - aa)]) (rest := []) (v := none) rfl fk_1_153 rfl (by decide) fn_C_jump (Nat.le_of_ble_eq_true rfl) (K) ?_
    refine fm_gr O 1 (C' := (44, [(0, .inr (.inr (.inr (.inr (13, 0))))), (1, .inl op), (2, .inl aa)], [.inr (.inr (.inr (.inr (13, 0))))], (r1, J, G, fm_P (1, 0) pb))) rfl ?_
    have K := fmC_die_c (d := d) hl (by omega) r1 J G pb hp
    generalize er2 : fmC_die_f r1 = r2 at he
    have he := he.trans (fm_letE _ _)
    rw [er2] at K
    refine fm_cV0 O fmC_die_o (i := 0) (as := []) (rest := []) (v := none) rfl fk_1_156 rfl (by decide) fn_C_die (Nat.le_of_ble_eq_true rfl) (K) ?_
    refine fm_gr O 1 (C' := (121, [(0, .inr (.inr (.inr (.inr (13, 0))))), (1, .inl op), (2, .inl aa)], [], (r2, J, G, fm_P (1, 0) pb))) rfl ?_
    exact fm_gRe O rfl trivial (by first | rw [he] | rfl) (by first | rw [he] | rfl)
  · have he := he.trans (if_neg h1)
    have hp := hp.2 h1
    by_cases h2 : op = 27
    · have he := he.trans (if_pos h2)
      have hp := hp.1 h2
      refine fm_gs O 27 rfl (show op.toInt = 27 from by rw [h2]; decide) ?_
      refine fm_gr O 2 (C' := (52, [(0, .inr (.inr (.inr (.inr (13, 0))))), (1, .inl op), (2, .inl aa)], [.inl 0, .inr (.inr (.inr (.inr (13, 0))))], (I, J, G, fm_P (1, 0) pb))) rfl ?_
      have hc := hp.1
      have hp := hp.2
      have K := fmC_take_c (d := d) hl (by omega) I J G pb 0 hc
      generalize er3 : fmC_take_f I 0 = r3 at he hp
      have he := he.trans (fm_letE _ _)
      have hp := fm_letP hp
      rw [er3] at K
      refine fm_cV0 O fmC_take_o (i := 0) (as := [.inl 0]) (rest := []) (v := some (.inl r3.1)) rfl fk_1_109 rfl (by decide) fn_C_take (Nat.le_of_ble_eq_true rfl) (K) ?_
      refine fm_gr O 7 (C' := (64, [(0, .inr (.inr (.inr (.inr (13, 0))))), (1, .inl op), (2, .inl aa)], [.inl ((r3.2 13 0 6) - aa), .inl op, .inr (.inr (.inr (.inr (13, 0))))], (r3.2, J, G, fm_P (1, 0) pb))) rfl ?_
      have hc := hp.1
      have hp := hp.2
      have K := fmC_jump_c (d := d) hl (by omega) r3.2 J G pb op ((r3.2 13 0 6) - aa) hc
      generalize er4 : fmC_jump_f r3.2 op ((r3.2 13 0 6) - aa) = r4 at he hp
      have he := he.trans (fm_letE _ _)
      have hp := fm_letP hp
      rw [er4] at K
      refine fm_cV0 O fmC_jump_o (i := 0) (as := [.inl op, .inl ((r3.2 13 0 6) - aa)]) (rest := []) (v := none) rfl fk_1_153 rfl (by decide) fn_C_jump (Nat.le_of_ble_eq_true rfl) (K) ?_
      refine fm_gr O 7 (C' := (78, [(0, .inr (.inr (.inr (.inr (13, 0))))), (1, .inl op), (2, .inl aa)], [.inl ((r4 13 0 6) - aa), .inr (.inr (.inr (.inr (16, 0)))), .inr (.inr (.inr (.inr (13, 0))))], (r4, J, G, fm_P (1, 0) pb))) rfl ?_
      refine fm_gg O rfl hp.1 ?_
      have hp := hp.2
      have K := fmR_neededByJump_c (d := d) hl (by omega) r4 J G ((1, 0)) pb (((r4 13 0 6) - aa).toNatClampNeg)
      generalize er5 : fmR_neededByJump_f r4 (((r4 13 0 6) - aa).toNatClampNeg) = r5 at he hp
      have he := he.trans (fm_letE _ _)
      have hp := fm_letP hp
      rw [er5] at K
      refine fm_cV0 O fmR_neededByJump_o (i := ((r4 13 0 6) - aa).toNatClampNeg) (as := []) (rest := [.inr (.inr (.inr (.inr (13, 0))))]) (v := some (.inl r5)) rfl fk_1_159 rfl (by decide) fn_R_neededByJump (Nat.le_of_ble_eq_true rfl) (K) ?_
      have K := fmC_put_c (d := d) hl (by omega) r4 J G pb r5 hp
      generalize er6 : fmC_put_f r4 r5 = r6 at he
      have he := he.trans (fm_letE _ _)
      rw [er6] at K
      refine fm_cV0 O fmC_put_o (i := 0) (as := [.inl r5]) (rest := []) (v := none) rfl fk_1_105 rfl (by decide) fn_C_put (Nat.le_of_ble_eq_true rfl) (K) ?_
      refine fm_gr O 1 (C' := (121, [(0, .inr (.inr (.inr (.inr (13, 0))))), (1, .inl op), (2, .inl aa)], [], (r6, J, G, fm_P (1, 0) pb))) rfl ?_
      exact fm_gRe O rfl trivial (by first | rw [he] | rfl) (by first | rw [he] | rfl)
    · have he := he.trans (if_neg h2)
      have hp := hp.2 h2
      by_cases h3 : op = 28
      · have he := he.trans (if_pos h3)
        have hp := hp.1 h3
        refine fm_gs O 28 rfl (show op.toInt = 28 from by rw [h3]; decide) ?_
        refine fm_gr O 3 (C' := (92, [(0, .inr (.inr (.inr (.inr (13, 0))))), (1, .inl op), (2, .inl aa)], [.inl 0, .inl 26, .inr (.inr (.inr (.inr (13, 0))))], (I, J, G, fm_P (1, 0) pb))) rfl ?_
        have hc := hp.1
        have hp := hp.2
        have K := fmC_jump_c (d := d) hl (by omega) I J G pb 26 0 hc
        generalize er7 : fmC_jump_f I 26 0 = r7 at he hp
        have he := he.trans (fm_letE _ _)
        have hp := fm_letP hp
        rw [er7] at K
        refine fm_cV0 O fmC_jump_o (i := 0) (as := [.inl 26, .inl 0]) (rest := []) (v := none) rfl fk_1_153 rfl (by decide) fn_C_jump (Nat.le_of_ble_eq_true rfl) (K) ?_
        refine fm_gr O 1 (C' := (96, [(0, .inr (.inr (.inr (.inr (13, 0))))), (1, .inl op), (2, .inl aa)], [.inr (.inr (.inr (.inr (13, 0))))], (r7, J, G, fm_P (1, 0) pb))) rfl ?_
        have K := fmC_die_c (d := d) hl (by omega) r7 J G pb hp
        generalize er8 : fmC_die_f r7 = r8 at he
        have he := he.trans (fm_letE _ _)
        rw [er8] at K
        refine fm_cV0 O fmC_die_o (i := 0) (as := []) (rest := []) (v := none) rfl fk_1_156 rfl (by decide) fn_C_die (Nat.le_of_ble_eq_true rfl) (K) ?_
        refine fm_gr O 1 (C' := (121, [(0, .inr (.inr (.inr (.inr (13, 0))))), (1, .inl op), (2, .inl aa)], [], (r8, J, G, fm_P (1, 0) pb))) rfl ?_
        exact fm_gRe O rfl trivial (by first | rw [he] | rfl) (by first | rw [he] | rfl)
      · have he := he.trans (if_neg h3)
        have hp := hp.2 h3
        by_cases h4 : op = 29
        · have he := he.trans (if_pos h4)
          have hp := hp.1 h4
          refine fm_gs O 29 rfl (show op.toInt = 29 from by rw [h4]; decide) ?_
          refine fm_gr O 2 (C' := (104, [(0, .inr (.inr (.inr (.inr (13, 0))))), (1, .inl op), (2, .inl aa)], [.inl aa, .inr (.inr (.inr (.inr (13, 0))))], (I, J, G, fm_P (1, 0) pb))) rfl ?_
          have K := fmC_callFunction_c (d := d) hl (by omega) I J G pb aa hp
          generalize er9 : fmC_callFunction_f I J G pb aa = r9 at he
          have he := he.trans (fm_letE _ _)
          rw [er9] at K
          refine fm_cV0 O fmC_callFunction_o (i := 0) (as := [.inl aa]) (rest := []) (v := none) rfl fk_1_163 rfl (by decide) fn_C_callFunction (Nat.le_of_ble_eq_true rfl) (K) ?_
          refine fm_gr O 1 (C' := (121, [(0, .inr (.inr (.inr (.inr (13, 0))))), (1, .inl op), (2, .inl aa)], [], (r9, J, G, fm_P (1, 0) pb))) rfl ?_
          exact fm_gRe O rfl trivial (by first | rw [he] | rfl) (by first | rw [he] | rfl)
        · have he := he.trans (if_neg h4)
          have hp := hp.2 h4
          refine fm_gt O rfl (by
              show op.toInt < 26 ∨ 29 < op.toInt
              have := lv_neT h1 (show (26 : Int32).toInt = 26 from by decide)
              have := lv_neT h2 (show (27 : Int32).toInt = 27 from by decide)
              have := lv_neT h3 (show (28 : Int32).toInt = 28 from by decide)
              have := lv_neT h4 (show (29 : Int32).toInt = 29 from by decide)
              omega) ?_
          refine fm_gr O 3 (C' := (113, [(0, .inr (.inr (.inr (.inr (13, 0))))), (1, .inl op), (2, .inl aa)], [.inl aa, .inl op, .inr (.inr (.inr (.inr (13, 0))))], (I, J, G, fm_P (1, 0) pb))) rfl ?_
          have hc := hp.1
          have hp := hp.2
          have K := fmC_addRow_c (d := d) hl (by omega) I J G pb op aa hc
          generalize er10 : fmC_addRow_f I op aa = r10 at he hp
          have he := he.trans (fm_letE _ _)
          have hp := fm_letP hp
          rw [er10] at K
          refine fm_cV0 O fmC_addRow_o (i := 0) (as := [.inl op, .inl aa]) (rest := []) (v := some (.inl r10.1)) rfl fk_1_100 rfl (by decide) fn_C_addRow (Nat.le_of_ble_eq_true rfl) (K) ?_
          refine fm_gr O 2 (C' := (118, [(0, .inr (.inr (.inr (.inr (13, 0))))), (1, .inl op), (2, .inl aa)], [.inr (.inr (.inr (.inr (13, 0))))], (r10.2, J, G, fm_P (1, 0) pb))) rfl ?_
          have K := fmC_die_c (d := d) hl (by omega) r10.2 J G pb hp
          generalize er11 : fmC_die_f r10.2 = r11 at he
          have he := he.trans (fm_letE _ _)
          rw [er11] at K
          refine fm_cV0 O fmC_die_o (i := 0) (as := []) (rest := []) (v := none) rfl fk_1_156 rfl (by decide) fn_C_die (Nat.le_of_ble_eq_true rfl) (K) ?_
          exact fm_gRe O rfl trivial (by first | rw [he] | rfl) (by first | rw [he] | rfl)
def fmC_instruction_f (I : fm_MI) (J : fm_MJ) (G : fm_MG) (pb : Nat × Nat) (op : Int32) (aa : Int32) : fm_MI :=
  fm_let (fmC_isAsSaid_f I op aa) (fun (r1 : Int32) => if r1 = 0 then (fm_u I 13 0 2 1) else (if 10 < op then (if 20 < op then (if 25 < op then (fm_let (fmC_leave_f I J G pb op aa) (fun (r2 : fm_MI) => r2)) else (fm_let (fmC_nest_f I J G pb op aa) (fun (r3 : fm_MI) => r3))) else (fm_let (fmC_compute_f I op aa) (fun (r4 : fm_MI) => r4))) else (fm_let (fmC_moveValues_f I op aa) (fun (r5 : fm_MI) => r5))))
theorem fmC_instruction_e (I : fm_MI) (J : fm_MJ) (G : fm_MG) (pb : Nat × Nat) (op : Int32) (aa : Int32) : fmC_instruction_f I J G pb op aa = fm_let (fmC_isAsSaid_f I op aa) (fun (r1 : Int32) => if r1 = 0 then (fm_u I 13 0 2 1) else (if 10 < op then (if 20 < op then (if 25 < op then (fm_let (fmC_leave_f I J G pb op aa) (fun (r2 : fm_MI) => r2)) else (fm_let (fmC_nest_f I J G pb op aa) (fun (r3 : fm_MI) => r3))) else (fm_let (fmC_compute_f I op aa) (fun (r4 : fm_MI) => r4))) else (fm_let (fmC_moveValues_f I op aa) (fun (r5 : fm_MI) => r5)))) := rfl
def fmC_instruction_p (I : fm_MI) (J : fm_MJ) (G : fm_MG) (pb : Nat × Nat) (op : Int32) (aa : Int32) : Prop :=
  fmC_isAsSaid_p I op aa ∧ (fm_let (fmC_isAsSaid_f I op aa) (fun (r1 : Int32) => (r1 = 0 → True) ∧ (¬ r1 = 0 → (10 < op → (20 < op → (25 < op → fmC_leave_p I J G pb op aa) ∧ (¬ 25 < op → fmC_nest_p I J G pb op aa)) ∧ (¬ 20 < op → fmC_compute_p I op aa)) ∧ (¬ 10 < op → fmC_moveValues_p I op aa))))
set_option maxRecDepth 100000 in
set_option maxHeartbeats 4000000 in
theorem fmC_instruction_c {E : fm_Ev} (hl : E.1.stackTraces = false) {d : Nat} (hd : 4 ≤ d) (I : fm_MI) (J : fm_MJ) (G : fm_MG) (pb : Nat × Nat) (op : Int32) (aa : Int32) (hp : fmC_instruction_p I J G pb op aa) : fm_Ct E d fmC_instruction 0 [.inr (.inr (.inr (.inr (13, 0)))), .inl op, .inl aa] (I, J, G, fm_P (1, 0) pb) none (fmC_instruction_f I J G pb op aa, J, G, fm_P (1, 0) pb) := by
  obtain ⟨d, rfl⟩ : ∃ d', d = d' + 1 := ⟨d - 1, by omega⟩
  refine fm_ct fmC_instruction_o hl (Nat.le_of_ble_eq_true rfl) ?_
  have O := fmC_instruction_o.1
  unfold fmC_instruction_p at hp
  have he := fmC_instruction_e I J G pb op aa
  refine fm_gr O 3 (C' := (3, [(0, .inr (.inr (.inr (.inr (13, 0))))), (1, .inl op), (2, .inl aa)], [.inl aa, .inl op, .inr (.inr (.inr (.inr (13, 0))))], (I, J, G, fm_P (1, 0) pb))) rfl ?_
  have hc := hp.1
  have hp := hp.2
  have K := fmC_isAsSaid_c (d := d) hl (by omega) I J G pb op aa hc
  generalize er1 : fmC_isAsSaid_f I op aa = r1 at he hp
  have he := he.trans (fm_letE _ _)
  have hp := fm_letP hp
  rw [er1] at K
  refine fm_cV0 O fmC_isAsSaid_o (i := 0) (as := [.inl op, .inl aa]) (rest := []) (v := some (.inl r1)) rfl fk_1_74 rfl (by decide) fn_C_isAsSaid (Nat.le_of_ble_eq_true rfl) (K) ?_
  refine fm_gb O rfl (fun h => ?_) (fun h => ?_)
  · have h1 : r1 = 0 := h
    have he := he.trans (if_pos h1)
    refine fm_gr O 4 (C' := (68, [(0, .inr (.inr (.inr (.inr (13, 0))))), (1, .inl op), (2, .inl aa)], [], (fm_u I 13 0 2 1, J, G, fm_P (1, 0) pb))) rfl ?_
    exact fm_gRe O rfl trivial (by first | rw [he] | rfl) (by first | rw [he] | rfl)
  · have h1 : ¬ r1 = 0 := h
    have he := he.trans (if_neg h1)
    have hp := hp.2 h1
    refine fm_gr O 2 (C' := (20, [(0, .inr (.inr (.inr (.inr (13, 0))))), (1, .inl op), (2, .inl aa)], [.inl 10, .inl op], (I, J, G, fm_P (1, 0) pb))) rfl ?_
    refine fm_gb O rfl (fun h => ?_) (fun h => ?_)
    · have h2 : 10 < op := h
      have he := he.trans (if_pos h2)
      have hp := hp.1 h2
      refine fm_gr O 2 (C' := (35, [(0, .inr (.inr (.inr (.inr (13, 0))))), (1, .inl op), (2, .inl aa)], [.inl 20, .inl op], (I, J, G, fm_P (1, 0) pb))) rfl ?_
      refine fm_gb O rfl (fun h => ?_) (fun h => ?_)
      · have h3 : 20 < op := h
        have he := he.trans (if_pos h3)
        have hp := hp.1 h3
        refine fm_gr O 2 (C' := (50, [(0, .inr (.inr (.inr (.inr (13, 0))))), (1, .inl op), (2, .inl aa)], [.inl 25, .inl op], (I, J, G, fm_P (1, 0) pb))) rfl ?_
        refine fm_gb O rfl (fun h => ?_) (fun h => ?_)
        · have h4 : 25 < op := h
          have he := he.trans (if_pos h4)
          have hp := hp.1 h4
          refine fm_gr O 3 (C' := (65, [(0, .inr (.inr (.inr (.inr (13, 0))))), (1, .inl op), (2, .inl aa)], [.inl aa, .inl op, .inr (.inr (.inr (.inr (13, 0))))], (I, J, G, fm_P (1, 0) pb))) rfl ?_
          have K := fmC_leave_c (d := d) hl (by omega) I J G pb op aa hp
          generalize er2 : fmC_leave_f I J G pb op aa = r2 at he
          have he := he.trans (fm_letE _ _)
          rw [er2] at K
          refine fm_cV0 O fmC_leave_o (i := 0) (as := [.inl op, .inl aa]) (rest := []) (v := none) rfl fk_1_87 rfl (by decide) fn_C_leave (Nat.le_of_ble_eq_true rfl) (K) ?_
          exact fm_gRe O rfl trivial (by first | rw [he] | rfl) (by first | rw [he] | rfl)
        · have h4 : ¬ 25 < op := h
          have he := he.trans (if_neg h4)
          have hp := hp.2 h4
          refine fm_gr O 3 (C' := (56, [(0, .inr (.inr (.inr (.inr (13, 0))))), (1, .inl op), (2, .inl aa)], [.inl aa, .inl op, .inr (.inr (.inr (.inr (13, 0))))], (I, J, G, fm_P (1, 0) pb))) rfl ?_
          have K := fmC_nest_c (d := d) hl (by omega) I J G pb op aa hp
          generalize er3 : fmC_nest_f I J G pb op aa = r3 at he
          have he := he.trans (fm_letE _ _)
          rw [er3] at K
          refine fm_cV0 O fmC_nest_o (i := 0) (as := [.inl op, .inl aa]) (rest := []) (v := none) rfl fk_1_84 rfl (by decide) fn_C_nest (Nat.le_of_ble_eq_true rfl) (K) ?_
          refine fm_gr O 1 (C' := (68, [(0, .inr (.inr (.inr (.inr (13, 0))))), (1, .inl op), (2, .inl aa)], [], (r3, J, G, fm_P (1, 0) pb))) rfl ?_
          exact fm_gRe O rfl trivial (by first | rw [he] | rfl) (by first | rw [he] | rfl)
      · have h3 : ¬ 20 < op := h
        have he := he.trans (if_neg h3)
        have hp := hp.2 h3
        refine fm_gr O 3 (C' := (41, [(0, .inr (.inr (.inr (.inr (13, 0))))), (1, .inl op), (2, .inl aa)], [.inl aa, .inl op, .inr (.inr (.inr (.inr (13, 0))))], (I, J, G, fm_P (1, 0) pb))) rfl ?_
        have K := fmC_compute_c (d := d) hl (by omega) I J G pb op aa hp
        generalize er4 : fmC_compute_f I op aa = r4 at he
        have he := he.trans (fm_letE _ _)
        rw [er4] at K
        refine fm_cV0 O fmC_compute_o (i := 0) (as := [.inl op, .inl aa]) (rest := []) (v := none) rfl fk_1_81 rfl (by decide) fn_C_compute (Nat.le_of_ble_eq_true rfl) (K) ?_
        refine fm_gr O 1 (C' := (68, [(0, .inr (.inr (.inr (.inr (13, 0))))), (1, .inl op), (2, .inl aa)], [], (r4, J, G, fm_P (1, 0) pb))) rfl ?_
        exact fm_gRe O rfl trivial (by first | rw [he] | rfl) (by first | rw [he] | rfl)
    · have h2 : ¬ 10 < op := h
      have he := he.trans (if_neg h2)
      have hp := hp.2 h2
      refine fm_gr O 3 (C' := (26, [(0, .inr (.inr (.inr (.inr (13, 0))))), (1, .inl op), (2, .inl aa)], [.inl aa, .inl op, .inr (.inr (.inr (.inr (13, 0))))], (I, J, G, fm_P (1, 0) pb))) rfl ?_
      have K := fmC_moveValues_c (d := d) hl (by omega) I J G pb op aa hp
      generalize er5 : fmC_moveValues_f I op aa = r5 at he
      have he := he.trans (fm_letE _ _)
      rw [er5] at K
      refine fm_cV0 O fmC_moveValues_o (i := 0) (as := [.inl op, .inl aa]) (rest := []) (v := none) rfl fk_1_78 rfl (by decide) fn_C_moveValues (Nat.le_of_ble_eq_true rfl) (K) ?_
      refine fm_gr O 1 (C' := (68, [(0, .inr (.inr (.inr (.inr (13, 0))))), (1, .inl op), (2, .inl aa)], [], (r5, J, G, fm_P (1, 0) pb))) rfl ?_
      exact fm_gRe O rfl trivial (by first | rw [he] | rfl) (by first | rw [he] | rfl)
end
