/-! THE WORDS OF CALLS, by program (wip/tools/gen_links.py) -/
theorem fm_tbP {w : Cond} (h : w ∈ k2_sels lw_privs) (hg : goodWord w = true) : w ∈ fm_TB := List.mem_filter.mpr ⟨List.mem_append_left _ h, hg⟩
theorem fk_8_59 : fm_lv 8 59 fmF_check.1 := ⟨fm_tb (List.mem_of_getElem? (i := 232) (by decide +kernel)) rfl, fm_tb (List.mem_of_getElem? (i := 233) (by decide +kernel)) rfl, fm_tb (List.mem_of_getElem? (i := 234) (by decide +kernel)) rfl⟩
theorem fn_F_check : fm_np fmF_check.1 0 := by unfold fm_np; decide +kernel
theorem fk_0_63 : fm_lv 0 63 fmC_firstFault.1 := ⟨fm_tb (List.mem_of_getElem? (i := 236) (by decide +kernel)) rfl, fm_tb (List.mem_of_getElem? (i := 237) (by decide +kernel)) rfl, fm_tb (List.mem_of_getElem? (i := 238) (by decide +kernel)) rfl⟩
theorem fn_C_firstFault : fm_np fmC_firstFault.1 2 := by unfold fm_np; decide +kernel
theorem fk_1_41 : fm_lv 1 41 fmC_subject.1 := ⟨fm_tb (List.mem_of_getElem? (i := 240) (by decide +kernel)) rfl, fm_tb (List.mem_of_getElem? (i := 242) (by decide +kernel)) rfl, fm_tbP (List.mem_of_getElem? (i := 0) (by decide +kernel)) rfl⟩
theorem fn_C_subject : fm_np fmC_subject.1 0 := by unfold fm_np; decide +kernel
theorem fk_1_57 : fm_lv 1 57 fmR_open.1 := ⟨fm_tb (List.mem_of_getElem? (i := 244) (by decide +kernel)) rfl, fm_tb (List.mem_of_getElem? (i := 245) (by decide +kernel)) rfl, fm_tb (List.mem_of_getElem? (i := 246) (by decide +kernel)) rfl⟩
theorem fn_R_open : fm_np fmR_open.1 5 := by unfold fm_np; decide +kernel
theorem fk_1_67 : fm_lv 1 67 fmC_instruction.1 := ⟨fm_tb (List.mem_of_getElem? (i := 248) (by decide +kernel)) rfl, fm_tb (List.mem_of_getElem? (i := 250) (by decide +kernel)) rfl, fm_tbP (List.mem_of_getElem? (i := 1) (by decide +kernel)) rfl⟩
theorem fn_C_instruction : fm_np fmC_instruction.1 2 := by unfold fm_np; decide +kernel
theorem fk_1_74 : fm_lv 1 74 fmC_isAsSaid.1 := ⟨fm_tb (List.mem_of_getElem? (i := 252) (by decide +kernel)) rfl, fm_tb (List.mem_of_getElem? (i := 254) (by decide +kernel)) rfl, fm_tbP (List.mem_of_getElem? (i := 2) (by decide +kernel)) rfl⟩
theorem fn_C_isAsSaid : fm_np fmC_isAsSaid.1 2 := by unfold fm_np; decide +kernel
theorem fk_1_78 : fm_lv 1 78 fmC_moveValues.1 := ⟨fm_tb (List.mem_of_getElem? (i := 259) (by decide +kernel)) rfl, fm_tb (List.mem_of_getElem? (i := 261) (by decide +kernel)) rfl, fm_tbP (List.mem_of_getElem? (i := 3) (by decide +kernel)) rfl⟩
theorem fn_C_moveValues : fm_np fmC_moveValues.1 2 := by unfold fm_np; decide +kernel
theorem fk_1_100 : fm_lv 1 100 fmC_addRow.1 := ⟨fm_tb (List.mem_of_getElem? (i := 263) (by decide +kernel)) rfl, fm_tb (List.mem_of_getElem? (i := 265) (by decide +kernel)) rfl, fm_tbP (List.mem_of_getElem? (i := 4) (by decide +kernel)) rfl⟩
theorem fn_C_addRow : fm_np fmC_addRow.1 2 := by unfold fm_np; decide +kernel
theorem fk_1_125 : fm_lv 1 125 fmC_isLive.1 := ⟨fm_tb (List.mem_of_getElem? (i := 267) (by decide +kernel)) rfl, fm_tb (List.mem_of_getElem? (i := 269) (by decide +kernel)) rfl, fm_tbP (List.mem_of_getElem? (i := 5) (by decide +kernel)) rfl⟩
theorem fn_C_isLive : fm_np fmC_isLive.1 0 := by unfold fm_np; decide +kernel
theorem fk_1_181 : fm_lv 1 181 fmK_add.1 := ⟨fm_tb (List.mem_of_getElem? (i := 271) (by decide +kernel)) rfl, fm_tb (List.mem_of_getElem? (i := 272) (by decide +kernel)) rfl, fm_tb (List.mem_of_getElem? (i := 273) (by decide +kernel)) rfl⟩
theorem fn_K_add : fm_np fmK_add.1 3 := by unfold fm_np; decide +kernel
theorem fk_1_105 : fm_lv 1 105 fmC_put.1 := ⟨fm_tb (List.mem_of_getElem? (i := 275) (by decide +kernel)) rfl, fm_tb (List.mem_of_getElem? (i := 277) (by decide +kernel)) rfl, fm_tbP (List.mem_of_getElem? (i := 6) (by decide +kernel)) rfl⟩
theorem fn_C_put : fm_np fmC_put.1 1 := by unfold fm_np; decide +kernel
theorem fk_1_109 : fm_lv 1 109 fmC_take.1 := ⟨fm_tb (List.mem_of_getElem? (i := 279) (by decide +kernel)) rfl, fm_tb (List.mem_of_getElem? (i := 281) (by decide +kernel)) rfl, fm_tbP (List.mem_of_getElem? (i := 7) (by decide +kernel)) rfl⟩
theorem fn_C_take : fm_np fmC_take.1 1 := by unfold fm_np; decide +kernel
theorem fk_1_81 : fm_lv 1 81 fmC_compute.1 := ⟨fm_tb (List.mem_of_getElem? (i := 283) (by decide +kernel)) rfl, fm_tb (List.mem_of_getElem? (i := 285) (by decide +kernel)) rfl, fm_tbP (List.mem_of_getElem? (i := 8) (by decide +kernel)) rfl⟩
theorem fn_C_compute : fm_np fmC_compute.1 2 := by unfold fm_np; decide +kernel
theorem fk_1_84 : fm_lv 1 84 fmC_nest.1 := ⟨fm_tb (List.mem_of_getElem? (i := 287) (by decide +kernel)) rfl, fm_tb (List.mem_of_getElem? (i := 289) (by decide +kernel)) rfl, fm_tbP (List.mem_of_getElem? (i := 9) (by decide +kernel)) rfl⟩
theorem fn_C_nest : fm_np fmC_nest.1 2 := by unfold fm_np; decide +kernel
theorem fk_1_113 : fm_lv 1 113 fmC_openFrame.1 := ⟨fm_tb (List.mem_of_getElem? (i := 291) (by decide +kernel)) rfl, fm_tb (List.mem_of_getElem? (i := 293) (by decide +kernel)) rfl, fm_tbP (List.mem_of_getElem? (i := 10) (by decide +kernel)) rfl⟩
theorem fn_C_openFrame : fm_np fmC_openFrame.1 2 := by unfold fm_np; decide +kernel
theorem fk_1_119 : fm_lv 1 119 fmC_turnToElse.1 := ⟨fm_tb (List.mem_of_getElem? (i := 295) (by decide +kernel)) rfl, fm_tb (List.mem_of_getElem? (i := 297) (by decide +kernel)) rfl, fm_tbP (List.mem_of_getElem? (i := 11) (by decide +kernel)) rfl⟩
theorem fn_C_turnToElse : fm_np fmC_turnToElse.1 0 := by unfold fm_np; decide +kernel
theorem fk_1_132 : fm_lv 1 132 fmC_takeJustWhatIsGiven.1 := ⟨fm_tb (List.mem_of_getElem? (i := 299) (by decide +kernel)) rfl, fm_tb (List.mem_of_getElem? (i := 301) (by decide +kernel)) rfl, fm_tbP (List.mem_of_getElem? (i := 12) (by decide +kernel)) rfl⟩
theorem fn_C_takeJustWhatIsGiven : fm_np fmC_takeJustWhatIsGiven.1 0 := by unfold fm_np; decide +kernel
theorem fk_1_138 : fm_lv 1 138 fmK_sendHere.1 := ⟨fm_tb (List.mem_of_getElem? (i := 303) (by decide +kernel)) rfl, fm_tb (List.mem_of_getElem? (i := 304) (by decide +kernel)) rfl, fm_tb (List.mem_of_getElem? (i := 305) (by decide +kernel)) rfl⟩
theorem fn_K_sendHere : fm_np fmK_sendHere.1 1 := by unfold fm_np; decide +kernel
theorem fk_1_122 : fm_lv 1 122 fmC_closeFrame.1 := ⟨fm_tb (List.mem_of_getElem? (i := 307) (by decide +kernel)) rfl, fm_tb (List.mem_of_getElem? (i := 309) (by decide +kernel)) rfl, fm_tbP (List.mem_of_getElem? (i := 13) (by decide +kernel)) rfl⟩
theorem fn_C_closeFrame : fm_np fmC_closeFrame.1 0 := by unfold fm_np; decide +kernel
theorem fk_1_147 : fm_lv 1 147 fmK_sendHereAllFor.1 := ⟨fm_tb (List.mem_of_getElem? (i := 311) (by decide +kernel)) rfl, fm_tb (List.mem_of_getElem? (i := 312) (by decide +kernel)) rfl, fm_tb (List.mem_of_getElem? (i := 313) (by decide +kernel)) rfl⟩
theorem fn_K_sendHereAllFor : fm_np fmK_sendHereAllFor.1 1 := by unfold fm_np; decide +kernel
theorem fk_1_87 : fm_lv 1 87 fmC_leave.1 := ⟨fm_tb (List.mem_of_getElem? (i := 315) (by decide +kernel)) rfl, fm_tb (List.mem_of_getElem? (i := 317) (by decide +kernel)) rfl, fm_tbP (List.mem_of_getElem? (i := 14) (by decide +kernel)) rfl⟩
theorem fn_C_leave : fm_np fmC_leave.1 2 := by unfold fm_np; decide +kernel
theorem fk_1_153 : fm_lv 1 153 fmC_jump.1 := ⟨fm_tb (List.mem_of_getElem? (i := 319) (by decide +kernel)) rfl, fm_tb (List.mem_of_getElem? (i := 321) (by decide +kernel)) rfl, fm_tbP (List.mem_of_getElem? (i := 15) (by decide +kernel)) rfl⟩
theorem fn_C_jump : fm_np fmC_jump.1 2 := by unfold fm_np; decide +kernel
theorem fk_1_159 : fm_lv 1 159 fmR_neededByJump.1 := ⟨fm_tb (List.mem_of_getElem? (i := 323) (by decide +kernel)) rfl, fm_tb (List.mem_of_getElem? (i := 324) (by decide +kernel)) rfl, fm_tb (List.mem_of_getElem? (i := 325) (by decide +kernel)) rfl⟩
theorem fn_R_neededByJump : fm_np fmR_neededByJump.1 0 := by unfold fm_np; decide +kernel
theorem fk_1_156 : fm_lv 1 156 fmC_die.1 := ⟨fm_tb (List.mem_of_getElem? (i := 327) (by decide +kernel)) rfl, fm_tb (List.mem_of_getElem? (i := 329) (by decide +kernel)) rfl, fm_tbP (List.mem_of_getElem? (i := 16) (by decide +kernel)) rfl⟩
theorem fn_C_die : fm_np fmC_die.1 0 := by unfold fm_np; decide +kernel
theorem fk_1_163 : fm_lv 1 163 fmC_callFunction.1 := ⟨fm_tb (List.mem_of_getElem? (i := 331) (by decide +kernel)) rfl, fm_tb (List.mem_of_getElem? (i := 333) (by decide +kernel)) rfl, fm_tbP (List.mem_of_getElem? (i := 17) (by decide +kernel)) rfl⟩
theorem fn_C_callFunction : fm_np fmC_callFunction.1 1 := by unfold fm_np; decide +kernel
theorem fk_1_71 : fm_lv 1 71 fmC_endOfCode.1 := ⟨fm_tb (List.mem_of_getElem? (i := 335) (by decide +kernel)) rfl, fm_tb (List.mem_of_getElem? (i := 337) (by decide +kernel)) rfl, fm_tbP (List.mem_of_getElem? (i := 18) (by decide +kernel)) rfl⟩
theorem fn_C_endOfCode : fm_np fmC_endOfCode.1 0 := by unfold fm_np; decide +kernel
theorem fk_8_73 : fm_lv 8 73 fmF_count.1 := ⟨fm_tb (List.mem_of_getElem? (i := 339) (by decide +kernel)) rfl, fm_tb (List.mem_of_getElem? (i := 340) (by decide +kernel)) rfl, fm_tb (List.mem_of_getElem? (i := 341) (by decide +kernel)) rfl⟩
theorem fn_F_count : fm_np fmF_count.1 1 := by unfold fm_np; decide +kernel
theorem fk_0_87 : fm_lv 0 87 fmF_functionsThere.1 := ⟨fm_tb (List.mem_of_getElem? (i := 343) (by decide +kernel)) rfl, fm_tb (List.mem_of_getElem? (i := 345) (by decide +kernel)) rfl, fm_tbP (List.mem_of_getElem? (i := 19) (by decide +kernel)) rfl⟩
theorem fn_F_functionsThere : fm_np fmF_functionsThere.1 0 := by unfold fm_np; decide +kernel
theorem fk_0_30 : fm_lst 0 30 fmF_isWithin.1 := ⟨fm_tb (List.mem_of_getElem? (i := 347) (by decide +kernel)) rfl, fm_tb (List.mem_of_getElem? (i := 257) (by decide +kernel)) rfl⟩
theorem fn_F_isWithin : fm_np fmF_isWithin.1 2 := by unfold fm_np; decide +kernel
theorem fk_8_41 : fm_lst 8 41 fmL_function.1 := ⟨fm_tb (List.mem_of_getElem? (i := 348) (by decide +kernel)) rfl, fm_tb (List.mem_of_getElem? (i := 349) (by decide +kernel)) rfl⟩
theorem fn_L_function : fm_np fmL_function.1 6 := by unfold fm_np; decide +kernel
theorem fk_8_7 : fm_lv 8 7 fmF_function.1 := ⟨fm_tb (List.mem_of_getElem? (i := 352) (by decide +kernel)) rfl, fm_tb (List.mem_of_getElem? (i := 353) (by decide +kernel)) rfl, fm_tb (List.mem_of_getElem? (i := 354) (by decide +kernel)) rfl⟩
theorem fn_F_function : fm_np fmF_function.1 5 := by unfold fm_np; decide +kernel
theorem fk_0_37 : fm_lv 0 37 fmU_declare.1 := ⟨fm_tb (List.mem_of_getElem? (i := 420) (by decide +kernel)) rfl, fm_tb (List.mem_of_getElem? (i := 421) (by decide +kernel)) rfl, fm_tb (List.mem_of_getElem? (i := 422) (by decide +kernel)) rfl⟩
theorem fn_U_declare : fm_np fmU_declare.1 4 := by unfold fm_np; decide +kernel
theorem fk_8_51 : fm_lst 8 51 fmL_emit.1 := ⟨fm_tb (List.mem_of_getElem? (i := 424) (by decide +kernel)) rfl, fm_tb (List.mem_of_getElem? (i := 425) (by decide +kernel)) rfl⟩
theorem fn_L_emit : fm_np fmL_emit.1 5 := by unfold fm_np; decide +kernel
theorem fk_8_15 : fm_lv 8 15 fmF_emit.1 := ⟨fm_tb (List.mem_of_getElem? (i := 428) (by decide +kernel)) rfl, fm_tb (List.mem_of_getElem? (i := 429) (by decide +kernel)) rfl, fm_tb (List.mem_of_getElem? (i := 430) (by decide +kernel)) rfl⟩
theorem fn_F_emit : fm_np fmF_emit.1 3 := by unfold fm_np; decide +kernel
theorem fk_0_45 : fm_lv 0 45 fmF_isThere.1 := ⟨fm_tb (List.mem_of_getElem? (i := 432) (by decide +kernel)) rfl, fm_tb (List.mem_of_getElem? (i := 434) (by decide +kernel)) rfl, fm_tbP (List.mem_of_getElem? (i := 21) (by decide +kernel)) rfl⟩
theorem fn_F_isThere : fm_np fmF_isThere.1 1 := by unfold fm_np; decide +kernel
theorem fk_0_56 : fm_lv 0 56 fmU_append.1 := ⟨fm_tb (List.mem_of_getElem? (i := 451) (by decide +kernel)) rfl, fm_tb (List.mem_of_getElem? (i := 452) (by decide +kernel)) rfl, fm_tb (List.mem_of_getElem? (i := 453) (by decide +kernel)) rfl⟩
theorem fn_U_append : fm_np fmU_append.1 2 := by unfold fm_np; decide +kernel
theorem fk_8_55 : fm_lst 8 55 fmL_erase.1 := ⟨fm_tb (List.mem_of_getElem? (i := 455) (by decide +kernel)) rfl, fm_tb (List.mem_of_getElem? (i := 456) (by decide +kernel)) rfl⟩
theorem fn_L_erase : fm_np fmL_erase.1 2 := by unfold fm_np; decide +kernel
theorem fk_8_21 : fm_lv 8 21 fmF_erase.1 := ⟨fm_tb (List.mem_of_getElem? (i := 458) (by decide +kernel)) rfl, fm_tb (List.mem_of_getElem? (i := 459) (by decide +kernel)) rfl, fm_tb (List.mem_of_getElem? (i := 460) (by decide +kernel)) rfl⟩
theorem fn_F_erase : fm_np fmF_erase.1 1 := by unfold fm_np; decide +kernel
theorem fk_8_65 : fm_lst 8 65 fmL_run.1 := ⟨fm_tb (List.mem_of_getElem? (i := 462) (by decide +kernel)) rfl, fm_tb (List.mem_of_getElem? (i := 463) (by decide +kernel)) rfl⟩
theorem fn_L_run : fm_np fmL_run.1 7 := by unfold fm_np; decide +kernel
theorem fk_8_25 : fm_lv 8 25 fmF_run.1 := ⟨fm_tb (List.mem_of_getElem? (i := 467) (by decide +kernel)) rfl, fm_tb (List.mem_of_getElem? (i := 468) (by decide +kernel)) rfl, fm_tb (List.mem_of_getElem? (i := 469) (by decide +kernel)) rfl⟩
theorem fn_F_run : fm_np fmF_run.1 5 := by unfold fm_np; decide +kernel
theorem fk_0_67 : fm_lv 0 67 fmM_begin.1 := ⟨fm_tb (List.mem_of_getElem? (i := 471) (by decide +kernel)) rfl, fm_tb (List.mem_of_getElem? (i := 472) (by decide +kernel)) rfl, fm_tb (List.mem_of_getElem? (i := 473) (by decide +kernel)) rfl⟩
theorem fn_M_begin : fm_np fmM_begin.1 2 := by unfold fm_np; decide +kernel
theorem fk_5_42 : fm_lv 5 42 fmM_enter.1 := ⟨fm_tb (List.mem_of_getElem? (i := 475) (by decide +kernel)) rfl, fm_tb (List.mem_of_getElem? (i := 477) (by decide +kernel)) rfl, fm_tbP (List.mem_of_getElem? (i := 22) (by decide +kernel)) rfl⟩
theorem fn_M_enter : fm_np fmM_enter.1 1 := by unfold fm_np; decide +kernel
theorem fk_0_71 : fm_lv 0 71 fmM_pass.1 := ⟨fm_tb (List.mem_of_getElem? (i := 482) (by decide +kernel)) rfl, fm_tb (List.mem_of_getElem? (i := 483) (by decide +kernel)) rfl, fm_tb (List.mem_of_getElem? (i := 484) (by decide +kernel)) rfl⟩
theorem fn_M_pass : fm_np fmM_pass.1 2 := by unfold fm_np; decide +kernel
theorem fk_5_52 : fm_lst 5 52 fmA_asFloat.1 := ⟨fm_tb (List.mem_of_getElem? (i := 486) (by decide +kernel)) rfl, fm_tb (List.mem_of_getElem? (i := 487) (by decide +kernel)) rfl⟩
theorem fn_A_asFloat : fm_np fmA_asFloat.1 1 := by unfold fm_np; decide +kernel
theorem fk_0_75 : fm_lv 0 75 fmM_work.1 := ⟨fm_tb (List.mem_of_getElem? (i := 489) (by decide +kernel)) rfl, fm_tb (List.mem_of_getElem? (i := 490) (by decide +kernel)) rfl, fm_tb (List.mem_of_getElem? (i := 491) (by decide +kernel)) rfl⟩
theorem fn_M_work : fm_np fmM_work.1 1 := by unfold fm_np; decide +kernel
theorem fk_5_58 : fm_lv 5 58 fmM_leaveWhatHasEnded.1 := ⟨fm_tb (List.mem_of_getElem? (i := 493) (by decide +kernel)) rfl, fm_tb (List.mem_of_getElem? (i := 495) (by decide +kernel)) rfl, fm_tbP (List.mem_of_getElem? (i := 23) (by decide +kernel)) rfl⟩
theorem fn_M_leaveWhatHasEnded : fm_np fmM_leaveWhatHasEnded.1 0 := by unfold fm_np; decide +kernel
theorem fk_5_95 : fm_lv 5 95 fmM_backToCaller.1 := ⟨fm_tb (List.mem_of_getElem? (i := 497) (by decide +kernel)) rfl, fm_tb (List.mem_of_getElem? (i := 499) (by decide +kernel)) rfl, fm_tbP (List.mem_of_getElem? (i := 24) (by decide +kernel)) rfl⟩
theorem fn_M_backToCaller : fm_np fmM_backToCaller.1 1 := by unfold fm_np; decide +kernel
theorem fk_5_102 : fm_lv 5 102 fmM_copy.1 := ⟨fm_tb (List.mem_of_getElem? (i := 501) (by decide +kernel)) rfl, fm_tb (List.mem_of_getElem? (i := 503) (by decide +kernel)) rfl, fm_tbP (List.mem_of_getElem? (i := 25) (by decide +kernel)) rfl⟩
theorem fn_M_copy : fm_np fmM_copy.1 2 := by unfold fm_np; decide +kernel
theorem fk_5_61 : fm_lv 5 61 fmM_step.1 := ⟨fm_tb (List.mem_of_getElem? (i := 505) (by decide +kernel)) rfl, fm_tb (List.mem_of_getElem? (i := 507) (by decide +kernel)) rfl, fm_tbP (List.mem_of_getElem? (i := 26) (by decide +kernel)) rfl⟩
theorem fn_M_step : fm_np fmM_step.1 0 := by unfold fm_np; decide +kernel
theorem fk_5_112 : fm_lv 5 112 fmM_moveValues.1 := ⟨fm_tb (List.mem_of_getElem? (i := 509) (by decide +kernel)) rfl, fm_tb (List.mem_of_getElem? (i := 511) (by decide +kernel)) rfl, fm_tbP (List.mem_of_getElem? (i := 27) (by decide +kernel)) rfl⟩
theorem fn_M_moveValues : fm_np fmM_moveValues.1 3 := by unfold fm_np; decide +kernel
theorem fk_5_116 : fm_lv 5 116 fmM_compute.1 := ⟨fm_tb (List.mem_of_getElem? (i := 515) (by decide +kernel)) rfl, fm_tb (List.mem_of_getElem? (i := 517) (by decide +kernel)) rfl, fm_tbP (List.mem_of_getElem? (i := 28) (by decide +kernel)) rfl⟩
theorem fn_M_compute : fm_np fmM_compute.1 3 := by unfold fm_np; decide +kernel
theorem fk_5_126 : fm_lv 5 126 fmM_convert.1 := ⟨fm_tb (List.mem_of_getElem? (i := 519) (by decide +kernel)) rfl, fm_tb (List.mem_of_getElem? (i := 521) (by decide +kernel)) rfl, fm_tbP (List.mem_of_getElem? (i := 29) (by decide +kernel)) rfl⟩
theorem fn_M_convert : fm_np fmM_convert.1 3 := by unfold fm_np; decide +kernel
theorem fk_5_141 : fm_lst 5 141 fmA_trapIfTooLarge.1 := ⟨fm_tb (List.mem_of_getElem? (i := 523) (by decide +kernel)) rfl, fm_tb (List.mem_of_getElem? (i := 524) (by decide +kernel)) rfl⟩
theorem fn_A_trapIfTooLarge : fm_np fmA_trapIfTooLarge.1 1 := by unfold fm_np; decide +kernel
theorem fk_5_129 : fm_lv 5 129 fmM_holds.1 := ⟨fm_tb (List.mem_of_getElem? (i := 543) (by decide +kernel)) rfl, fm_tb (List.mem_of_getElem? (i := 545) (by decide +kernel)) rfl, fm_tbP (List.mem_of_getElem? (i := 30) (by decide +kernel)) rfl⟩
theorem fn_M_holds : fm_np fmM_holds.1 3 := by unfold fm_np; decide +kernel
theorem fk_5_133 : fm_lst 5 133 fmA_ofWholes.1 := ⟨fm_tb (List.mem_of_getElem? (i := 547) (by decide +kernel)) rfl, fm_tb (List.mem_of_getElem? (i := 548) (by decide +kernel)) rfl⟩
theorem fn_A_ofWholes : fm_np fmA_ofWholes.1 4 := by unfold fm_np; decide +kernel
theorem fk_7_9 : fm_lst 7 9 fmA_wholeOutcome.1 := ⟨fm_tb (List.mem_of_getElem? (i := 550) (by decide +kernel)) rfl, fm_tb (List.mem_of_getElem? (i := 551) (by decide +kernel)) rfl⟩
theorem fn_A_wholeOutcome : fm_np fmA_wholeOutcome.1 4 := by unfold fm_np; decide +kernel
theorem fk_7_15 : fm_lst 7 15 fmA_divisor.1 := ⟨fm_tb (List.mem_of_getElem? (i := 553) (by decide +kernel)) rfl, fm_tb (List.mem_of_getElem? (i := 554) (by decide +kernel)) rfl⟩
theorem fn_A_divisor : fm_np fmA_divisor.1 1 := by unfold fm_np; decide +kernel
theorem fk_5_137 : fm_lst 5 137 fmA_ofFractions.1 := ⟨fm_tb (List.mem_of_getElem? (i := 556) (by decide +kernel)) rfl, fm_tb (List.mem_of_getElem? (i := 557) (by decide +kernel)) rfl⟩
theorem fn_A_ofFractions : fm_np fmA_ofFractions.1 4 := by unfold fm_np; decide +kernel
theorem fk_7_22 : fm_lst 7 22 fmA_isEndless.1 := ⟨fm_tb (List.mem_of_getElem? (i := 559) (by decide +kernel)) rfl, fm_tb (List.mem_of_getElem? (i := 560) (by decide +kernel)) rfl⟩
theorem fn_A_isEndless : fm_np fmA_isEndless.1 1 := by unfold fm_np; decide +kernel
theorem fk_7_26 : fm_lst 7 26 fmA_fractionOutcome.1 := ⟨fm_tb (List.mem_of_getElem? (i := 564) (by decide +kernel)) rfl, fm_tb (List.mem_of_getElem? (i := 565) (by decide +kernel)) rfl⟩
theorem fn_A_fractionOutcome : fm_np fmA_fractionOutcome.1 3 := by unfold fm_np; decide +kernel
theorem fk_7_30 : fm_lst 7 30 fmA_trapIfTooLarge.1 := ⟨fm_tb (List.mem_of_getElem? (i := 567) (by decide +kernel)) rfl, fm_tb (List.mem_of_getElem? (i := 524) (by decide +kernel)) rfl⟩
theorem fk_5_119 : fm_lv 5 119 fmM_goOnElsewhere.1 := ⟨fm_tb (List.mem_of_getElem? (i := 568) (by decide +kernel)) rfl, fm_tb (List.mem_of_getElem? (i := 570) (by decide +kernel)) rfl, fm_tbP (List.mem_of_getElem? (i := 31) (by decide +kernel)) rfl⟩
theorem fn_M_goOnElsewhere : fm_np fmM_goOnElsewhere.1 3 := by unfold fm_np; decide +kernel
theorem fk_5_148 : fm_lv 5 148 fmM_jump.1 := ⟨fm_tb (List.mem_of_getElem? (i := 572) (by decide +kernel)) rfl, fm_tb (List.mem_of_getElem? (i := 574) (by decide +kernel)) rfl, fm_tbP (List.mem_of_getElem? (i := 32) (by decide +kernel)) rfl⟩
theorem fn_M_jump : fm_np fmM_jump.1 3 := by unfold fm_np; decide +kernel
theorem fk_5_154 : fm_lv 5 154 fmM_callFunction.1 := ⟨fm_tb (List.mem_of_getElem? (i := 576) (by decide +kernel)) rfl, fm_tb (List.mem_of_getElem? (i := 578) (by decide +kernel)) rfl, fm_tbP (List.mem_of_getElem? (i := 33) (by decide +kernel)) rfl⟩
theorem fn_M_callFunction : fm_np fmM_callFunction.1 2 := by unfold fm_np; decide +kernel
theorem fk_0_79 : fm_lv 0 79 fmM_result.1 := ⟨fm_tb (List.mem_of_getElem? (i := 597) (by decide +kernel)) rfl, fm_tb (List.mem_of_getElem? (i := 598) (by decide +kernel)) rfl, fm_tb (List.mem_of_getElem? (i := 599) (by decide +kernel)) rfl⟩
theorem fn_M_result : fm_np fmM_result.1 1 := by unfold fm_np; decide +kernel
theorem fk_5_73 : fm_lv 5 73 fmM_valueOf.1 := ⟨fm_tb (List.mem_of_getElem? (i := 601) (by decide +kernel)) rfl, fm_tb (List.mem_of_getElem? (i := 603) (by decide +kernel)) rfl, fm_tbP (List.mem_of_getElem? (i := 34) (by decide +kernel)) rfl⟩
theorem fn_M_valueOf : fm_np fmM_valueOf.1 2 := by unfold fm_np; decide +kernel
theorem fk_8_69 : fm_lst 8 69 fmL_global.1 := ⟨fm_tb (List.mem_of_getElem? (i := 605) (by decide +kernel)) rfl, fm_tb (List.mem_of_getElem? (i := 606) (by decide +kernel)) rfl⟩
theorem fn_L_global : fm_np fmL_global.1 3 := by unfold fm_np; decide +kernel
theorem fk_8_33 : fm_lv 8 33 fmF_global.1 := ⟨fm_tb (List.mem_of_getElem? (i := 608) (by decide +kernel)) rfl, fm_tb (List.mem_of_getElem? (i := 609) (by decide +kernel)) rfl, fm_tb (List.mem_of_getElem? (i := 610) (by decide +kernel)) rfl⟩
theorem fn_F_global : fm_np fmF_global.1 1 := by unfold fm_np; decide +kernel
theorem fk_0_83 : fm_lv 0 83 fmM_valueOfGlobal.1 := ⟨fm_tb (List.mem_of_getElem? (i := 612) (by decide +kernel)) rfl, fm_tb (List.mem_of_getElem? (i := 613) (by decide +kernel)) rfl, fm_tb (List.mem_of_getElem? (i := 614) (by decide +kernel)) rfl⟩
theorem fn_M_valueOfGlobal : fm_np fmM_valueOfGlobal.1 1 := by unfold fm_np; decide +kernel
theorem fk_8_47 : fm_lv 8 47 fmD_thrown.1 := ⟨fm_tb (List.mem_of_getElem? (i := 723) (by decide +kernel)) rfl, fm_tb (List.mem_of_getElem? (i := 724) (by decide +kernel)) rfl, fm_tb (List.mem_of_getElem? (i := 725) (by decide +kernel)) rfl⟩
theorem fn_D_thrown : fm_np fmD_thrown.1 0 := by unfold fm_np; decide +kernel
theorem fk_8_46 : fm_lv 8 46 fmD_function.1 := ⟨fm_tb (List.mem_of_getElem? (i := 727) (by decide +kernel)) rfl, fm_tb (List.mem_of_getElem? (i := 728) (by decide +kernel)) rfl, fm_tb (List.mem_of_getElem? (i := 729) (by decide +kernel)) rfl⟩
theorem fn_D_function : fm_np fmD_function.1 5 := by unfold fm_np; decide +kernel
theorem fk_6_86 : fm_lst 6 86 fmD_in.1 := ⟨fm_tb (List.mem_of_getElem? (i := 731) (by decide +kernel)) rfl, fm_tb (List.mem_of_getElem? (i := 732) (by decide +kernel)) rfl⟩
theorem fn_D_in : fm_np fmD_in.1 3 := by unfold fm_np; decide +kernel
theorem fk_6_90 : fm_lv 6 90 fmD_bad.1 := ⟨fm_tb (List.mem_of_getElem? (i := 734) (by decide +kernel)) rfl, fm_tb (List.mem_of_getElem? (i := 736) (by decide +kernel)) rfl, fm_tbP (List.mem_of_getElem? (i := 35) (by decide +kernel)) rfl⟩
theorem fn_D_bad : fm_np fmD_bad.1 1 := by unfold fm_np; decide +kernel
theorem fk_8_54 : fm_lv 8 54 fmD_emit.1 := ⟨fm_tb (List.mem_of_getElem? (i := 738) (by decide +kernel)) rfl, fm_tb (List.mem_of_getElem? (i := 739) (by decide +kernel)) rfl, fm_tb (List.mem_of_getElem? (i := 740) (by decide +kernel)) rfl⟩
theorem fn_D_emit : fm_np fmD_emit.1 3 := by unfold fm_np; decide +kernel
theorem fk_6_98 : fm_lv 6 98 fmD_isFunction.1 := ⟨fm_tb (List.mem_of_getElem? (i := 742) (by decide +kernel)) rfl, fm_tb (List.mem_of_getElem? (i := 744) (by decide +kernel)) rfl, fm_tbP (List.mem_of_getElem? (i := 36) (by decide +kernel)) rfl⟩
theorem fn_D_isFunction : fm_np fmD_isFunction.1 1 := by unfold fm_np; decide +kernel
theorem fk_8_58 : fm_lv 8 58 fmD_erase.1 := ⟨fm_tb (List.mem_of_getElem? (i := 746) (by decide +kernel)) rfl, fm_tb (List.mem_of_getElem? (i := 747) (by decide +kernel)) rfl, fm_tb (List.mem_of_getElem? (i := 748) (by decide +kernel)) rfl⟩
theorem fn_D_erase : fm_np fmD_erase.1 1 := by unfold fm_np; decide +kernel
theorem fk_8_62 : fm_lv 8 62 fmD_check.1 := ⟨fm_tb (List.mem_of_getElem? (i := 750) (by decide +kernel)) rfl, fm_tb (List.mem_of_getElem? (i := 751) (by decide +kernel)) rfl, fm_tb (List.mem_of_getElem? (i := 752) (by decide +kernel)) rfl⟩
theorem fn_D_check : fm_np fmD_check.1 0 := by unfold fm_np; decide +kernel
theorem fk_6_158 : fm_lv 6 158 fmD_checkFunction.1 := ⟨fm_tb (List.mem_of_getElem? (i := 754) (by decide +kernel)) rfl, fm_tb (List.mem_of_getElem? (i := 756) (by decide +kernel)) rfl, fm_tbP (List.mem_of_getElem? (i := 37) (by decide +kernel)) rfl⟩
theorem fn_D_checkFunction : fm_np fmD_checkFunction.1 1 := by unfold fm_np; decide +kernel
theorem fk_6_125 : fm_lv 6 125 fmD_begin.1 := ⟨fm_tb (List.mem_of_getElem? (i := 758) (by decide +kernel)) rfl, fm_tb (List.mem_of_getElem? (i := 760) (by decide +kernel)) rfl, fm_tbP (List.mem_of_getElem? (i := 38) (by decide +kernel)) rfl⟩
theorem fn_D_begin : fm_np fmD_begin.1 2 := by unfold fm_np; decide +kernel
theorem fk_6_155 : fm_lv 6 155 fmD_checkOne.1 := ⟨fm_tb (List.mem_of_getElem? (i := 762) (by decide +kernel)) rfl, fm_tb (List.mem_of_getElem? (i := 764) (by decide +kernel)) rfl, fm_tbP (List.mem_of_getElem? (i := 39) (by decide +kernel)) rfl⟩
theorem fn_D_checkOne : fm_np fmD_checkOne.1 3 := by unfold fm_np; decide +kernel
theorem fk_6_119 : fm_lv 6 119 fmD_put.1 := ⟨fm_tb (List.mem_of_getElem? (i := 766) (by decide +kernel)) rfl, fm_tb (List.mem_of_getElem? (i := 768) (by decide +kernel)) rfl, fm_tbP (List.mem_of_getElem? (i := 40) (by decide +kernel)) rfl⟩
theorem fn_D_put : fm_np fmD_put.1 1 := by unfold fm_np; decide +kernel
theorem fk_6_132 : fm_lv 6 132 fmD_checkLocal.1 := ⟨fm_tb (List.mem_of_getElem? (i := 770) (by decide +kernel)) rfl, fm_tb (List.mem_of_getElem? (i := 772) (by decide +kernel)) rfl, fm_tbP (List.mem_of_getElem? (i := 41) (by decide +kernel)) rfl⟩
theorem fn_D_checkLocal : fm_np fmD_checkLocal.1 3 := by unfold fm_np; decide +kernel
theorem fk_6_115 : fm_lv 6 115 fmD_wrong.1 := ⟨fm_tb (List.mem_of_getElem? (i := 774) (by decide +kernel)) rfl, fm_tb (List.mem_of_getElem? (i := 776) (by decide +kernel)) rfl, fm_tbP (List.mem_of_getElem? (i := 42) (by decide +kernel)) rfl⟩
theorem fn_D_wrong : fm_np fmD_wrong.1 1 := by unfold fm_np; decide +kernel
theorem fk_6_111 : fm_lv 6 111 fmD_take.1 := ⟨fm_tb (List.mem_of_getElem? (i := 778) (by decide +kernel)) rfl, fm_tb (List.mem_of_getElem? (i := 780) (by decide +kernel)) rfl, fm_tbP (List.mem_of_getElem? (i := 43) (by decide +kernel)) rfl⟩
theorem fn_D_take : fm_np fmD_take.1 1 := by unfold fm_np; decide +kernel
theorem fk_6_136 : fm_lv 6 136 fmD_checkGlobal.1 := ⟨fm_tb (List.mem_of_getElem? (i := 782) (by decide +kernel)) rfl, fm_tb (List.mem_of_getElem? (i := 784) (by decide +kernel)) rfl, fm_tbP (List.mem_of_getElem? (i := 44) (by decide +kernel)) rfl⟩
theorem fn_D_checkGlobal : fm_np fmD_checkGlobal.1 2 := by unfold fm_np; decide +kernel
theorem fk_6_139 : fm_lv 6 139 fmD_choose.1 := ⟨fm_tb (List.mem_of_getElem? (i := 786) (by decide +kernel)) rfl, fm_tb (List.mem_of_getElem? (i := 788) (by decide +kernel)) rfl, fm_tbP (List.mem_of_getElem? (i := 45) (by decide +kernel)) rfl⟩
theorem fn_D_choose : fm_np fmD_choose.1 0 := by unfold fm_np; decide +kernel
theorem fk_6_142 : fm_lv 6 142 fmD_two.1 := ⟨fm_tb (List.mem_of_getElem? (i := 790) (by decide +kernel)) rfl, fm_tb (List.mem_of_getElem? (i := 792) (by decide +kernel)) rfl, fm_tbP (List.mem_of_getElem? (i := 46) (by decide +kernel)) rfl⟩
theorem fn_D_two : fm_np fmD_two.1 2 := by unfold fm_np; decide +kernel
theorem fk_6_145 : fm_lv 6 145 fmD_checkFrame.1 := ⟨fm_tb (List.mem_of_getElem? (i := 794) (by decide +kernel)) rfl, fm_tb (List.mem_of_getElem? (i := 796) (by decide +kernel)) rfl, fm_tbP (List.mem_of_getElem? (i := 47) (by decide +kernel)) rfl⟩
theorem fn_D_checkFrame : fm_np fmD_checkFrame.1 2 := by unfold fm_np; decide +kernel
theorem fk_6_129 : fm_lv 6 129 fmD_finish.1 := ⟨fm_tb (List.mem_of_getElem? (i := 798) (by decide +kernel)) rfl, fm_tb (List.mem_of_getElem? (i := 800) (by decide +kernel)) rfl, fm_tbP (List.mem_of_getElem? (i := 48) (by decide +kernel)) rfl⟩
theorem fn_D_finish : fm_np fmD_finish.1 0 := by unfold fm_np; decide +kernel
theorem fk_6_148 : fm_lv 6 148 fmD_jump.1 := ⟨fm_tb (List.mem_of_getElem? (i := 802) (by decide +kernel)) rfl, fm_tb (List.mem_of_getElem? (i := 804) (by decide +kernel)) rfl, fm_tbP (List.mem_of_getElem? (i := 49) (by decide +kernel)) rfl⟩
theorem fn_D_jump : fm_np fmD_jump.1 2 := by unfold fm_np; decide +kernel
theorem fk_6_122 : fm_lv 6 122 fmD_die.1 := ⟨fm_tb (List.mem_of_getElem? (i := 806) (by decide +kernel)) rfl, fm_tb (List.mem_of_getElem? (i := 808) (by decide +kernel)) rfl, fm_tbP (List.mem_of_getElem? (i := 50) (by decide +kernel)) rfl⟩
theorem fn_D_die : fm_np fmD_die.1 0 := by unfold fm_np; decide +kernel
theorem fk_6_152 : fm_lv 6 152 fmD_checkCall.1 := ⟨fm_tb (List.mem_of_getElem? (i := 810) (by decide +kernel)) rfl, fm_tb (List.mem_of_getElem? (i := 812) (by decide +kernel)) rfl, fm_tbP (List.mem_of_getElem? (i := 51) (by decide +kernel)) rfl⟩
theorem fn_D_checkCall : fm_np fmD_checkCall.1 1 := by unfold fm_np; decide +kernel
theorem fk_8_68 : fm_lv 8 68 fmD_run.1 := ⟨fm_tb (List.mem_of_getElem? (i := 814) (by decide +kernel)) rfl, fm_tb (List.mem_of_getElem? (i := 815) (by decide +kernel)) rfl, fm_tb (List.mem_of_getElem? (i := 816) (by decide +kernel)) rfl⟩
theorem fn_D_run : fm_np fmD_run.1 5 := by unfold fm_np; decide +kernel
theorem fk_6_232 : fm_lv 6 232 fmD_pass.1 := ⟨fm_tb (List.mem_of_getElem? (i := 818) (by decide +kernel)) rfl, fm_tb (List.mem_of_getElem? (i := 820) (by decide +kernel)) rfl, fm_tbP (List.mem_of_getElem? (i := 52) (by decide +kernel)) rfl⟩
theorem fn_D_pass : fm_np fmD_pass.1 3 := by unfold fm_np; decide +kernel
theorem fk_6_172 : fm_lv 6 172 fmD_push.1 := ⟨fm_tb (List.mem_of_getElem? (i := 822) (by decide +kernel)) rfl, fm_tb (List.mem_of_getElem? (i := 824) (by decide +kernel)) rfl, fm_tbP (List.mem_of_getElem? (i := 53) (by decide +kernel)) rfl⟩
theorem fn_D_push : fm_np fmD_push.1 3 := by unfold fm_np; decide +kernel
theorem fk_6_219 : fm_lv 6 219 fmD_enter.1 := ⟨fm_tb (List.mem_of_getElem? (i := 826) (by decide +kernel)) rfl, fm_tb (List.mem_of_getElem? (i := 828) (by decide +kernel)) rfl, fm_tbP (List.mem_of_getElem? (i := 54) (by decide +kernel)) rfl⟩
theorem fn_D_enter : fm_np fmD_enter.1 1 := by unfold fm_np; decide +kernel
theorem fk_6_236 : fm_lv 6 236 fmD_go.1 := ⟨fm_tb (List.mem_of_getElem? (i := 830) (by decide +kernel)) rfl, fm_tb (List.mem_of_getElem? (i := 832) (by decide +kernel)) rfl, fm_tbP (List.mem_of_getElem? (i := 55) (by decide +kernel)) rfl⟩
theorem fn_D_go : fm_np fmD_go.1 1 := by unfold fm_np; decide +kernel
theorem fk_6_216 : fm_lv 6 216 fmD_leave.1 := ⟨fm_tb (List.mem_of_getElem? (i := 834) (by decide +kernel)) rfl, fm_tb (List.mem_of_getElem? (i := 836) (by decide +kernel)) rfl, fm_tbP (List.mem_of_getElem? (i := 56) (by decide +kernel)) rfl⟩
theorem fn_D_leave : fm_np fmD_leave.1 1 := by unfold fm_np; decide +kernel
theorem fk_6_190 : fm_lv 6 190 fmD_keep.1 := ⟨fm_tb (List.mem_of_getElem? (i := 838) (by decide +kernel)) rfl, fm_tb (List.mem_of_getElem? (i := 840) (by decide +kernel)) rfl, fm_tbP (List.mem_of_getElem? (i := 57) (by decide +kernel)) rfl⟩
theorem fn_D_keep : fm_np fmD_keep.1 2 := by unfold fm_np; decide +kernel
theorem fk_6_228 : fm_lv 6 228 fmD_perform.1 := ⟨fm_tb (List.mem_of_getElem? (i := 842) (by decide +kernel)) rfl, fm_tb (List.mem_of_getElem? (i := 844) (by decide +kernel)) rfl, fm_tbP (List.mem_of_getElem? (i := 58) (by decide +kernel)) rfl⟩
theorem fn_D_perform : fm_np fmD_perform.1 4 := by unfold fm_np; decide +kernel
theorem fk_6_204 : fm_lv 6 204 fmD_choice.1 := ⟨fm_tb (List.mem_of_getElem? (i := 848) (by decide +kernel)) rfl, fm_tb (List.mem_of_getElem? (i := 850) (by decide +kernel)) rfl, fm_tbP (List.mem_of_getElem? (i := 59) (by decide +kernel)) rfl⟩
theorem fn_D_choice : fm_np fmD_choice.1 0 := by unfold fm_np; decide +kernel
theorem fk_6_207 : fm_lv 6 207 fmD_convert.1 := ⟨fm_tb (List.mem_of_getElem? (i := 852) (by decide +kernel)) rfl, fm_tb (List.mem_of_getElem? (i := 854) (by decide +kernel)) rfl, fm_tbP (List.mem_of_getElem? (i := 60) (by decide +kernel)) rfl⟩
theorem fn_D_convert : fm_np fmD_convert.1 2 := by unfold fm_np; decide +kernel
theorem fk_6_180 : fm_lst 6 180 fmD_large.1 := ⟨fm_tb (List.mem_of_getElem? (i := 856) (by decide +kernel)) rfl, fm_tb (List.mem_of_getElem? (i := 857) (by decide +kernel)) rfl⟩
theorem fn_D_large : fm_np fmD_large.1 1 := by unfold fm_np; decide +kernel
theorem fk_6_210 : fm_lv 6 210 fmD_openFrame.1 := ⟨fm_tb (List.mem_of_getElem? (i := 861) (by decide +kernel)) rfl, fm_tb (List.mem_of_getElem? (i := 863) (by decide +kernel)) rfl, fm_tbP (List.mem_of_getElem? (i := 61) (by decide +kernel)) rfl⟩
theorem fn_D_openFrame : fm_np fmD_openFrame.1 1 := by unfold fm_np; decide +kernel
theorem fk_6_194 : fm_lv 6 194 fmD_endOf.1 := ⟨fm_tb (List.mem_of_getElem? (i := 865) (by decide +kernel)) rfl, fm_tb (List.mem_of_getElem? (i := 867) (by decide +kernel)) rfl, fm_tbP (List.mem_of_getElem? (i := 62) (by decide +kernel)) rfl⟩
theorem fn_D_endOf : fm_np fmD_endOf.1 3 := by unfold fm_np; decide +kernel
theorem fk_6_213 : fm_lv 6 213 fmD_jumpTo.1 := ⟨fm_tb (List.mem_of_getElem? (i := 869) (by decide +kernel)) rfl, fm_tb (List.mem_of_getElem? (i := 871) (by decide +kernel)) rfl, fm_tbP (List.mem_of_getElem? (i := 63) (by decide +kernel)) rfl⟩
theorem fn_D_jumpTo : fm_np fmD_jumpTo.1 2 := by unfold fm_np; decide +kernel
theorem fk_6_222 : fm_lv 6 222 fmD_arithmetic.1 := ⟨fm_tb (List.mem_of_getElem? (i := 873) (by decide +kernel)) rfl, fm_tb (List.mem_of_getElem? (i := 875) (by decide +kernel)) rfl, fm_tbP (List.mem_of_getElem? (i := 64) (by decide +kernel)) rfl⟩
theorem fn_D_arithmetic : fm_np fmD_arithmetic.1 2 := by unfold fm_np; decide +kernel
theorem fk_6_168 : fm_lv 6 168 fmD_fractions.1 := ⟨fm_tb (List.mem_of_getElem? (i := 877) (by decide +kernel)) rfl, fm_tb (List.mem_of_getElem? (i := 879) (by decide +kernel)) rfl, fm_tbP (List.mem_of_getElem? (i := 65) (by decide +kernel)) rfl⟩
theorem fn_D_fractions : fm_np fmD_fractions.1 4 := by unfold fm_np; decide +kernel
theorem fk_6_176 : fm_lst 6 176 fmD_small.1 := ⟨fm_tb (List.mem_of_getElem? (i := 881) (by decide +kernel)) rfl, fm_tb (List.mem_of_getElem? (i := 882) (by decide +kernel)) rfl⟩
theorem fn_D_small : fm_np fmD_small.1 3 := by unfold fm_np; decide +kernel
theorem fk_6_239 : fm_lst 6 239 fmD_told.1 := ⟨fm_tb (List.mem_of_getElem? (i := 884) (by decide +kernel)) rfl, fm_tb (List.mem_of_getElem? (i := 885) (by decide +kernel)) rfl⟩
theorem fn_D_told : fm_np fmD_told.1 3 := by unfold fm_np; decide +kernel
theorem fk_8_72 : fm_lv 8 72 fmD_global.1 := ⟨fm_tb (List.mem_of_getElem? (i := 887) (by decide +kernel)) rfl, fm_tb (List.mem_of_getElem? (i := 888) (by decide +kernel)) rfl, fm_tb (List.mem_of_getElem? (i := 889) (by decide +kernel)) rfl⟩
theorem fn_D_global : fm_np fmD_global.1 1 := by unfold fm_np; decide +kernel
theorem fk_8_77 : fm_lv 8 77 fmD_count.1 := ⟨fm_tb (List.mem_of_getElem? (i := 891) (by decide +kernel)) rfl, fm_tb (List.mem_of_getElem? (i := 892) (by decide +kernel)) rfl, fm_tb (List.mem_of_getElem? (i := 893) (by decide +kernel)) rfl⟩
theorem fn_D_count : fm_np fmD_count.1 1 := by unfold fm_np; decide +kernel
theorem fn_F_isWithin0 : Cond.static fmF_isWithin.1 ∈ fm_TB := fm_tb (List.mem_of_getElem? (i := 257) (by decide +kernel)) rfl
