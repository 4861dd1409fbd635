/-! THE CONSTRUCTORS (wip/tools/gen28.py) -/
def fmk_R_y : MethodName := ⟨"FlatModule$Frame", "<init>", "()V"⟩
set_option maxRecDepth 100000 in
theorem fmk_R_cw : Cond.code fmk_R_y prog_5_method_1_code 1 none ∈ fm_TB := fm_tb (List.mem_of_getElem? (i := 39) rfl) rfl
theorem fmk_R_iw : Cond.instantiable (fm_cn 3) (fm_nf 3) ∈ fm_TB := (fm_tb (List.mem_of_getElem? (i := 36) (by decide +kernel)) rfl)
theorem fmk_R_nw : Cond.initialized (fm_cn 3) ∈ fm_TB := (fm_tb (List.mem_of_getElem? (i := 3) (by decide +kernel)) rfl)
theorem fmk_R_mw : Cond.instanceMethod fmk_R_y ∈ fm_TB := (fm_tb (List.mem_of_getElem? (i := 38) (by decide +kernel)) rfl)
theorem fmk_R_d0 : decode prog_5_method_1_code 0 = .ok (.aload_n 0, 1) := by decide +kernel
theorem fmk_R_d1 : decode prog_5_method_1_code 1 = .ok (.invokespecial 3, 3) := by decide +kernel
theorem fmk_R_d4 : decode prog_5_method_1_code 4 = .ok (.return_, 1) := by decide +kernel
def fmk_R_w (cA : Nat → ClassId) (h0 : Nat) (_ : Unit) : va_W := [(h0, .inr (3, fm_df 3))]
set_option maxHeartbeats 4000000 in
set_option maxRecDepth 100000 in
theorem fmk_R (l : Launch) (D : va_G) (cA : Nat → ClassId) : fm_Kc l D cA fmk_R_y prog_5_method_1_code 1 3 (fmk_R_w cA) 1 0 0 := by
  refine fm_kM (by decide +kernel) rfl rfl (by decide) ?_
  intro p e s m below meth c A h0 ls X hin hr h hl
  have hx := X.1
  have hb := X.2.1
  have h : fm_kw D A s ([(h0, .inr (3, [.int 0, .int 0, .int 0, .int 0, .int 0, .int 0, .int 0]))]) s.heap [] := h
  refine lv_aload_n hx hb fmk_R_d0 rfl (lv_at hl 0 rfl) ?_
  refine fm_kobj X (fm_tb (List.mem_of_getElem? (i := 40) (by decide +kernel)) rfl) hl.1 fmk_R_d1 (by show 1 ≤ 1; decide) (by show 41 ≤ 41 * 1; decide) ?_
  exact fm_kret X hr () h (by show 0 ≤ 0; decide) (by show 0 ≤ 0; decide) fmk_R_d4
def fmk_K_y : MethodName := ⟨"FlatModule$FlatCode", "<init>", "()V"⟩
set_option maxRecDepth 100000 in
theorem fmk_K_cw : Cond.code fmk_K_y prog_4_method_1_code 1 none ∈ fm_TB := fm_tb (List.mem_of_getElem? (i := 141) rfl) rfl
theorem fmk_K_iw : Cond.instantiable (fm_cn 2) (fm_nf 2) ∈ fm_TB := (fm_tb (List.mem_of_getElem? (i := 138) (by decide +kernel)) rfl)
theorem fmk_K_nw : Cond.initialized (fm_cn 2) ∈ fm_TB := (fm_tb (List.mem_of_getElem? (i := 6) (by decide +kernel)) rfl)
theorem fmk_K_mw : Cond.instanceMethod fmk_K_y ∈ fm_TB := (fm_tb (List.mem_of_getElem? (i := 140) (by decide +kernel)) rfl)
theorem fmk_K_d0 : decode prog_4_method_1_code 0 = .ok (.aload_n 0, 1) := by decide +kernel
theorem fmk_K_d1 : decode prog_4_method_1_code 1 = .ok (.invokespecial 3, 3) := by decide +kernel
theorem fmk_K_d4 : decode prog_4_method_1_code 4 = .ok (.aload_n 0, 1) := by decide +kernel
theorem fmk_K_d5 : decode prog_4_method_1_code 5 = .ok (.bipush 40, 2) := by decide +kernel
theorem fmk_K_d7 : decode prog_4_method_1_code 7 = .ok (.newarray .int, 2) := by decide +kernel
theorem fmk_K_d9 : decode prog_4_method_1_code 9 = .ok (.putfield 9, 3) := by decide +kernel
theorem fmk_K_d12 : decode prog_4_method_1_code 12 = .ok (.aload_n 0, 1) := by decide +kernel
theorem fmk_K_d13 : decode prog_4_method_1_code 13 = .ok (.bipush 40, 2) := by decide +kernel
theorem fmk_K_d15 : decode prog_4_method_1_code 15 = .ok (.newarray .int, 2) := by decide +kernel
theorem fmk_K_d17 : decode prog_4_method_1_code 17 = .ok (.putfield 15, 3) := by decide +kernel
theorem fmk_K_d20 : decode prog_4_method_1_code 20 = .ok (.aload_n 0, 1) := by decide +kernel
theorem fmk_K_d21 : decode prog_4_method_1_code 21 = .ok (.bipush 40, 2) := by decide +kernel
theorem fmk_K_d23 : decode prog_4_method_1_code 23 = .ok (.newarray .int, 2) := by decide +kernel
theorem fmk_K_d25 : decode prog_4_method_1_code 25 = .ok (.putfield 18, 3) := by decide +kernel
theorem fmk_K_d28 : decode prog_4_method_1_code 28 = .ok (.aload_n 0, 1) := by decide +kernel
theorem fmk_K_d29 : decode prog_4_method_1_code 29 = .ok (.bipush 40, 2) := by decide +kernel
theorem fmk_K_d31 : decode prog_4_method_1_code 31 = .ok (.newarray .int, 2) := by decide +kernel
theorem fmk_K_d33 : decode prog_4_method_1_code 33 = .ok (.putfield 21, 3) := by decide +kernel
theorem fmk_K_d36 : decode prog_4_method_1_code 36 = .ok (.aload_n 0, 1) := by decide +kernel
theorem fmk_K_d37 : decode prog_4_method_1_code 37 = .ok (.bipush 40, 2) := by decide +kernel
theorem fmk_K_d39 : decode prog_4_method_1_code 39 = .ok (.newarray .int, 2) := by decide +kernel
theorem fmk_K_d41 : decode prog_4_method_1_code 41 = .ok (.putfield 24, 3) := by decide +kernel
theorem fmk_K_d44 : decode prog_4_method_1_code 44 = .ok (.aload_n 0, 1) := by decide +kernel
theorem fmk_K_d45 : decode prog_4_method_1_code 45 = .ok (.bipush 40, 2) := by decide +kernel
theorem fmk_K_d47 : decode prog_4_method_1_code 47 = .ok (.newarray .int, 2) := by decide +kernel
theorem fmk_K_d49 : decode prog_4_method_1_code 49 = .ok (.putfield 27, 3) := by decide +kernel
theorem fmk_K_d52 : decode prog_4_method_1_code 52 = .ok (.return_, 1) := by decide +kernel
def fmk_K_w (cA : Nat → ClassId) (h0 : Nat) (u : List Nat) : va_W := [(h0, .inr (2, [.int 0, .ref (u.getD 0 0), .ref (u.getD 1 0), .ref (u.getD 2 0), .ref (u.getD 3 0), .ref (u.getD 4 0), .ref (u.getD 5 0)])), (u.getD 0 0, .inl (cA 0, 40, fm_z 0)), (u.getD 1 0, .inl (cA 0, 40, fm_z 0)), (u.getD 2 0, .inl (cA 0, 40, fm_z 0)), (u.getD 3 0, .inl (cA 0, 40, fm_z 0)), (u.getD 4 0, .inl (cA 0, 40, fm_z 0)), (u.getD 5 0, .inl (cA 0, 40, fm_z 0))]
set_option maxHeartbeats 4000000 in
set_option maxRecDepth 100000 in
theorem fmk_K (l : Launch) (D : va_G) (cA : Nat → ClassId) : fm_Kc l D cA fmk_K_y prog_4_method_1_code 1 2 (fmk_K_w cA) 1 6 240 := by
  refine fm_kM (by decide +kernel) rfl rfl (by decide) ?_
  intro p e s m below meth c A h0 ls X hin hr h hl
  have hx := X.1
  have hb := X.2.1
  have h : fm_kw D A s ([(h0, .inr (2, [.int 0, .null, .null, .null, .null, .null, .null]))]) s.heap [] := h
  refine lv_aload_n hx hb fmk_K_d0 rfl (lv_at hl 0 rfl) ?_
  refine fm_kobj X (fm_tb (List.mem_of_getElem? (i := 142) (by decide +kernel)) rfl) hl.1 fmk_K_d1 (by show 1 ≤ 1; decide) (by show 41 ≤ 41 * 1; decide) ?_
  refine lv_aload_n hx hb fmk_K_d4 rfl (lv_at hl 0 rfl) ?_
  refine lv_bipush (v := 40) hx hb fmk_K_d5 (by decide +kernel) ?_
  refine fm_knew X 0 40 (by decide) (by decide) (by decide +kernel) (by decide) (by show 0 + 1 ≤ 6; decide) (by show 0 + 40 ≤ 240; decide) fmk_K_d7 h (fun q7 H h => ?_)
  have h : fm_kw D A s ([(h0, .inr (2, [.int 0, .null, .null, .null, .null, .null, .null])), (q7, .inl (cA 0, 40, fm_z 0))]) H _ := h
  refine fm_kput X hin fm_f2_o (ix := 9) (k := 1) rfl rfl (Nat.le_of_ble_eq_true rfl) fmk_K_d9 h (fun H locs h => ?_)
  have h : fm_kw D A s ([(h0, .inr (2, [.int 0, .ref q7, .null, .null, .null, .null, .null])), (q7, .inl (cA 0, 40, fm_z 0))]) H _ := h
  refine lv_aload_n hx hb fmk_K_d12 rfl (lv_at hl 0 rfl) ?_
  refine lv_bipush (v := 40) hx hb fmk_K_d13 (by decide +kernel) ?_
  refine fm_knew X 0 40 (by decide) (by decide) (by decide +kernel) (by decide) (by show 1 + 1 ≤ 6; decide) (by show 40 + 40 ≤ 240; decide) fmk_K_d15 h (fun q15 H h => ?_)
  have h : fm_kw D A s ([(h0, .inr (2, [.int 0, .ref q7, .null, .null, .null, .null, .null])), (q7, .inl (cA 0, 40, fm_z 0)), (q15, .inl (cA 0, 40, fm_z 0))]) H _ := h
  refine fm_kput X hin fm_f2_o (ix := 15) (k := 2) rfl rfl (Nat.le_of_ble_eq_true rfl) fmk_K_d17 h (fun H locs h => ?_)
  have h : fm_kw D A s ([(h0, .inr (2, [.int 0, .ref q7, .ref q15, .null, .null, .null, .null])), (q7, .inl (cA 0, 40, fm_z 0)), (q15, .inl (cA 0, 40, fm_z 0))]) H _ := h
  refine lv_aload_n hx hb fmk_K_d20 rfl (lv_at hl 0 rfl) ?_
  refine lv_bipush (v := 40) hx hb fmk_K_d21 (by decide +kernel) ?_
  refine fm_knew X 0 40 (by decide) (by decide) (by decide +kernel) (by decide) (by show 2 + 1 ≤ 6; decide) (by show 80 + 40 ≤ 240; decide) fmk_K_d23 h (fun q23 H h => ?_)
  have h : fm_kw D A s ([(h0, .inr (2, [.int 0, .ref q7, .ref q15, .null, .null, .null, .null])), (q7, .inl (cA 0, 40, fm_z 0)), (q15, .inl (cA 0, 40, fm_z 0)), (q23, .inl (cA 0, 40, fm_z 0))]) H _ := h
  refine fm_kput X hin fm_f2_o (ix := 18) (k := 3) rfl rfl (Nat.le_of_ble_eq_true rfl) fmk_K_d25 h (fun H locs h => ?_)
  have h : fm_kw D A s ([(h0, .inr (2, [.int 0, .ref q7, .ref q15, .ref q23, .null, .null, .null])), (q7, .inl (cA 0, 40, fm_z 0)), (q15, .inl (cA 0, 40, fm_z 0)), (q23, .inl (cA 0, 40, fm_z 0))]) H _ := h
  refine lv_aload_n hx hb fmk_K_d28 rfl (lv_at hl 0 rfl) ?_
  refine lv_bipush (v := 40) hx hb fmk_K_d29 (by decide +kernel) ?_
  refine fm_knew X 0 40 (by decide) (by decide) (by decide +kernel) (by decide) (by show 3 + 1 ≤ 6; decide) (by show 120 + 40 ≤ 240; decide) fmk_K_d31 h (fun q31 H h => ?_)
  have h : fm_kw D A s ([(h0, .inr (2, [.int 0, .ref q7, .ref q15, .ref q23, .null, .null, .null])), (q7, .inl (cA 0, 40, fm_z 0)), (q15, .inl (cA 0, 40, fm_z 0)), (q23, .inl (cA 0, 40, fm_z 0)), (q31, .inl (cA 0, 40, fm_z 0))]) H _ := h
  refine fm_kput X hin fm_f2_o (ix := 21) (k := 4) rfl rfl (Nat.le_of_ble_eq_true rfl) fmk_K_d33 h (fun H locs h => ?_)
  have h : fm_kw D A s ([(h0, .inr (2, [.int 0, .ref q7, .ref q15, .ref q23, .ref q31, .null, .null])), (q7, .inl (cA 0, 40, fm_z 0)), (q15, .inl (cA 0, 40, fm_z 0)), (q23, .inl (cA 0, 40, fm_z 0)), (q31, .inl (cA 0, 40, fm_z 0))]) H _ := h
  refine lv_aload_n hx hb fmk_K_d36 rfl (lv_at hl 0 rfl) ?_
  refine lv_bipush (v := 40) hx hb fmk_K_d37 (by decide +kernel) ?_
  refine fm_knew X 0 40 (by decide) (by decide) (by decide +kernel) (by decide) (by show 4 + 1 ≤ 6; decide) (by show 160 + 40 ≤ 240; decide) fmk_K_d39 h (fun q39 H h => ?_)
  have h : fm_kw D A s ([(h0, .inr (2, [.int 0, .ref q7, .ref q15, .ref q23, .ref q31, .null, .null])), (q7, .inl (cA 0, 40, fm_z 0)), (q15, .inl (cA 0, 40, fm_z 0)), (q23, .inl (cA 0, 40, fm_z 0)), (q31, .inl (cA 0, 40, fm_z 0)), (q39, .inl (cA 0, 40, fm_z 0))]) H _ := h
  refine fm_kput X hin fm_f2_o (ix := 24) (k := 5) rfl rfl (Nat.le_of_ble_eq_true rfl) fmk_K_d41 h (fun H locs h => ?_)
  have h : fm_kw D A s ([(h0, .inr (2, [.int 0, .ref q7, .ref q15, .ref q23, .ref q31, .ref q39, .null])), (q7, .inl (cA 0, 40, fm_z 0)), (q15, .inl (cA 0, 40, fm_z 0)), (q23, .inl (cA 0, 40, fm_z 0)), (q31, .inl (cA 0, 40, fm_z 0)), (q39, .inl (cA 0, 40, fm_z 0))]) H _ := h
  refine lv_aload_n hx hb fmk_K_d44 rfl (lv_at hl 0 rfl) ?_
  refine lv_bipush (v := 40) hx hb fmk_K_d45 (by decide +kernel) ?_
  refine fm_knew X 0 40 (by decide) (by decide) (by decide +kernel) (by decide) (by show 5 + 1 ≤ 6; decide) (by show 200 + 40 ≤ 240; decide) fmk_K_d47 h (fun q47 H h => ?_)
  have h : fm_kw D A s ([(h0, .inr (2, [.int 0, .ref q7, .ref q15, .ref q23, .ref q31, .ref q39, .null])), (q7, .inl (cA 0, 40, fm_z 0)), (q15, .inl (cA 0, 40, fm_z 0)), (q23, .inl (cA 0, 40, fm_z 0)), (q31, .inl (cA 0, 40, fm_z 0)), (q39, .inl (cA 0, 40, fm_z 0)), (q47, .inl (cA 0, 40, fm_z 0))]) H _ := h
  refine fm_kput X hin fm_f2_o (ix := 27) (k := 6) rfl rfl (Nat.le_of_ble_eq_true rfl) fmk_K_d49 h (fun H locs h => ?_)
  have h : fm_kw D A s ([(h0, .inr (2, [.int 0, .ref q7, .ref q15, .ref q23, .ref q31, .ref q39, .ref q47])), (q7, .inl (cA 0, 40, fm_z 0)), (q15, .inl (cA 0, 40, fm_z 0)), (q23, .inl (cA 0, 40, fm_z 0)), (q31, .inl (cA 0, 40, fm_z 0)), (q39, .inl (cA 0, 40, fm_z 0)), (q47, .inl (cA 0, 40, fm_z 0))]) H _ := h
  exact fm_kret X hr [q7, q15, q23, q31, q39, q47] h (by show 6 ≤ 6; decide) (by show 240 ≤ 240; decide) fmk_K_d52
def fmk_U_y : MethodName := ⟨"FlatModule$Function", "<init>", "()V"⟩
set_option maxRecDepth 100000 in
theorem fmk_U_cw : Cond.code fmk_U_y prog_6_method_1_code 1 none ∈ fm_TB := fm_tb (List.mem_of_getElem? (i := 135) rfl) rfl
theorem fmk_U_iw : Cond.instantiable (fm_cn 4) (fm_nf 4) ∈ fm_TB := (fm_tb (List.mem_of_getElem? (i := 132) (by decide +kernel)) rfl)
theorem fmk_U_nw : Cond.initialized (fm_cn 4) ∈ fm_TB := (fm_tb (List.mem_of_getElem? (i := 5) (by decide +kernel)) rfl)
theorem fmk_U_mw : Cond.instanceMethod fmk_U_y ∈ fm_TB := (fm_tb (List.mem_of_getElem? (i := 134) (by decide +kernel)) rfl)
theorem fmk_U_d0 : decode prog_6_method_1_code 0 = .ok (.aload_n 0, 1) := by decide +kernel
theorem fmk_U_d1 : decode prog_6_method_1_code 1 = .ok (.invokespecial 3, 3) := by decide +kernel
theorem fmk_U_d4 : decode prog_6_method_1_code 4 = .ok (.aload_n 0, 1) := by decide +kernel
theorem fmk_U_d5 : decode prog_6_method_1_code 5 = .ok (.bipush 6, 2) := by decide +kernel
theorem fmk_U_d7 : decode prog_6_method_1_code 7 = .ok (.newarray .int, 2) := by decide +kernel
theorem fmk_U_d9 : decode prog_6_method_1_code 9 = .ok (.putfield 9, 3) := by decide +kernel
theorem fmk_U_d12 : decode prog_6_method_1_code 12 = .ok (.aload_n 0, 1) := by decide +kernel
theorem fmk_U_d13 : decode prog_6_method_1_code 13 = .ok (.bipush 40, 2) := by decide +kernel
theorem fmk_U_d15 : decode prog_6_method_1_code 15 = .ok (.newarray .int, 2) := by decide +kernel
theorem fmk_U_d17 : decode prog_6_method_1_code 17 = .ok (.putfield 15, 3) := by decide +kernel
theorem fmk_U_d20 : decode prog_6_method_1_code 20 = .ok (.aload_n 0, 1) := by decide +kernel
theorem fmk_U_d21 : decode prog_6_method_1_code 21 = .ok (.bipush 40, 2) := by decide +kernel
theorem fmk_U_d23 : decode prog_6_method_1_code 23 = .ok (.newarray .int, 2) := by decide +kernel
theorem fmk_U_d25 : decode prog_6_method_1_code 25 = .ok (.putfield 18, 3) := by decide +kernel
theorem fmk_U_d28 : decode prog_6_method_1_code 28 = .ok (.aload_n 0, 1) := by decide +kernel
theorem fmk_U_d29 : decode prog_6_method_1_code 29 = .ok (.new 21, 3) := by decide +kernel
theorem fmk_U_d32 : decode prog_6_method_1_code 32 = .ok (.dup, 1) := by decide +kernel
theorem fmk_U_d33 : decode prog_6_method_1_code 33 = .ok (.invokespecial 23, 3) := by decide +kernel
theorem fmk_U_d36 : decode prog_6_method_1_code 36 = .ok (.putfield 24, 3) := by decide +kernel
theorem fmk_U_d39 : decode prog_6_method_1_code 39 = .ok (.return_, 1) := by decide +kernel
def fmk_U_w (cA : Nat → ClassId) (h0 : Nat) (u : List Nat × List Nat) : va_W := [(h0, .inr (4, [.int 0, .int 0, .int 0, .int 0, .int 0, .ref (u.1.getD 0 0), .ref (u.1.getD 1 0), .ref (u.1.getD 2 0), .ref (u.1.getD 3 0)])), (u.1.getD 0 0, .inl (cA 0, 6, fm_z 0)), (u.1.getD 1 0, .inl (cA 0, 40, fm_z 0)), (u.1.getD 2 0, .inl (cA 0, 40, fm_z 0))] ++ fmk_K_w cA (u.1.getD 3 0) u.2
set_option maxHeartbeats 4000000 in
set_option maxRecDepth 100000 in
theorem fmk_U (l : Launch) (D : va_G) (cA : Nat → ClassId) : fm_Kc l D cA fmk_U_y prog_6_method_1_code 1 4 (fmk_U_w cA) 2 10 333 := by
  refine fm_kM (by decide +kernel) rfl rfl (by decide) ?_
  intro p e s m below meth c A h0 ls X hin hr h hl
  have hx := X.1
  have hb := X.2.1
  have h : fm_kw D A s ([(h0, .inr (4, [.int 0, .int 0, .int 0, .int 0, .int 0, .null, .null, .null, .null]))]) s.heap [] := h
  refine lv_aload_n hx hb fmk_U_d0 rfl (lv_at hl 0 rfl) ?_
  refine fm_kobj X (fm_tb (List.mem_of_getElem? (i := 136) (by decide +kernel)) rfl) hl.1 fmk_U_d1 (by show 1 ≤ 2; decide) (by show 41 ≤ 41 * 2; decide) ?_
  refine lv_aload_n hx hb fmk_U_d4 rfl (lv_at hl 0 rfl) ?_
  refine lv_bipush (v := 6) hx hb fmk_U_d5 (by decide +kernel) ?_
  refine fm_knew X 0 6 (by decide) (by decide) (by decide +kernel) (by decide) (by show 0 + 1 ≤ 10; decide) (by show 0 + 6 ≤ 333; decide) fmk_U_d7 h (fun q7 H h => ?_)
  have h : fm_kw D A s ([(h0, .inr (4, [.int 0, .int 0, .int 0, .int 0, .int 0, .null, .null, .null, .null])), (q7, .inl (cA 0, 6, fm_z 0))]) H _ := h
  refine fm_kput X hin fm_f4_o (ix := 9) (k := 5) rfl rfl (Nat.le_of_ble_eq_true rfl) fmk_U_d9 h (fun H locs h => ?_)
  have h : fm_kw D A s ([(h0, .inr (4, [.int 0, .int 0, .int 0, .int 0, .int 0, .ref q7, .null, .null, .null])), (q7, .inl (cA 0, 6, fm_z 0))]) H _ := h
  refine lv_aload_n hx hb fmk_U_d12 rfl (lv_at hl 0 rfl) ?_
  refine lv_bipush (v := 40) hx hb fmk_U_d13 (by decide +kernel) ?_
  refine fm_knew X 0 40 (by decide) (by decide) (by decide +kernel) (by decide) (by show 1 + 1 ≤ 10; decide) (by show 6 + 40 ≤ 333; decide) fmk_U_d15 h (fun q15 H h => ?_)
  have h : fm_kw D A s ([(h0, .inr (4, [.int 0, .int 0, .int 0, .int 0, .int 0, .ref q7, .null, .null, .null])), (q7, .inl (cA 0, 6, fm_z 0)), (q15, .inl (cA 0, 40, fm_z 0))]) H _ := h
  refine fm_kput X hin fm_f4_o (ix := 15) (k := 6) rfl rfl (Nat.le_of_ble_eq_true rfl) fmk_U_d17 h (fun H locs h => ?_)
  have h : fm_kw D A s ([(h0, .inr (4, [.int 0, .int 0, .int 0, .int 0, .int 0, .ref q7, .ref q15, .null, .null])), (q7, .inl (cA 0, 6, fm_z 0)), (q15, .inl (cA 0, 40, fm_z 0))]) H _ := h
  refine lv_aload_n hx hb fmk_U_d20 rfl (lv_at hl 0 rfl) ?_
  refine lv_bipush (v := 40) hx hb fmk_U_d21 (by decide +kernel) ?_
  refine fm_knew X 0 40 (by decide) (by decide) (by decide +kernel) (by decide) (by show 2 + 1 ≤ 10; decide) (by show 46 + 40 ≤ 333; decide) fmk_U_d23 h (fun q23 H h => ?_)
  have h : fm_kw D A s ([(h0, .inr (4, [.int 0, .int 0, .int 0, .int 0, .int 0, .ref q7, .ref q15, .null, .null])), (q7, .inl (cA 0, 6, fm_z 0)), (q15, .inl (cA 0, 40, fm_z 0)), (q23, .inl (cA 0, 40, fm_z 0))]) H _ := h
  refine fm_kput X hin fm_f4_o (ix := 18) (k := 7) rfl rfl (Nat.le_of_ble_eq_true rfl) fmk_U_d25 h (fun H locs h => ?_)
  have h : fm_kw D A s ([(h0, .inr (4, [.int 0, .int 0, .int 0, .int 0, .int 0, .ref q7, .ref q15, .ref q23, .null])), (q7, .inl (cA 0, 6, fm_z 0)), (q15, .inl (cA 0, 40, fm_z 0)), (q23, .inl (cA 0, 40, fm_z 0))]) H _ := h
  refine lv_aload_n hx hb fmk_U_d28 rfl (lv_at hl 0 rfl) ?_
  refine fm_knc X (fmk_K l D cA) (by decide) rfl fmk_K_cw (fm_tb (List.mem_of_getElem? (i := 137) (by decide +kernel)) rfl) fmk_K_iw fmk_K_nw (Or.inr X.2.2.2.2.2.2.2.1.2.2.2.1) fmk_K_mw (by decide) ⟨by decide +kernel, by decide +kernel⟩ hl.1 (Nat.le_of_ble_eq_true rfl) (by show 1 + 1 ≤ 2; decide) (by show 41 * (1 + 1) ≤ 41 * 2; decide) (by show 3 + 1 + 6 ≤ 10; decide) (by show 86 + 7 + 240 ≤ 333; decide) fmk_U_d29 fmk_U_d32 fmk_U_d33 h (fun q29_0 u29_0 H locs h => ?_)
  have h : fm_kw D A s ([(h0, .inr (4, [.int 0, .int 0, .int 0, .int 0, .int 0, .ref q7, .ref q15, .ref q23, .null])), (q7, .inl (cA 0, 6, fm_z 0)), (q15, .inl (cA 0, 40, fm_z 0)), (q23, .inl (cA 0, 40, fm_z 0))] ++ fmk_K_w cA q29_0 u29_0) H _ := h
  refine fm_kput X hin fm_f4_o (ix := 24) (k := 8) rfl rfl (Nat.le_of_ble_eq_true rfl) fmk_U_d36 h (fun H locs h => ?_)
  have h : fm_kw D A s ([(h0, .inr (4, [.int 0, .int 0, .int 0, .int 0, .int 0, .ref q7, .ref q15, .ref q23, .ref q29_0])), (q7, .inl (cA 0, 6, fm_z 0)), (q15, .inl (cA 0, 40, fm_z 0)), (q23, .inl (cA 0, 40, fm_z 0))] ++ fmk_K_w cA q29_0 u29_0) H _ := h
  exact fm_kret X hr ([q7, q15, q23, q29_0], u29_0) h (by show 10 ≤ 10; decide) (by show 333 ≤ 333; decide) fmk_U_d39
def fmk_M_y : MethodName := ⟨"FlatModule$Machine", "<init>", "()V"⟩
set_option maxRecDepth 100000 in
theorem fmk_M_cw : Cond.code fmk_M_y prog_7_method_1_code 1 none ∈ fm_TB := fm_tb (List.mem_of_getElem? (i := 97) rfl) rfl
theorem fmk_M_iw : Cond.instantiable (fm_cn 5) (fm_nf 5) ∈ fm_TB := (fm_tb (List.mem_of_getElem? (i := 94) (by decide +kernel)) rfl)
theorem fmk_M_nw : Cond.initialized (fm_cn 5) ∈ fm_TB := (fm_tb (List.mem_of_getElem? (i := 4) (by decide +kernel)) rfl)
theorem fmk_M_mw : Cond.instanceMethod fmk_M_y ∈ fm_TB := (fm_tb (List.mem_of_getElem? (i := 96) (by decide +kernel)) rfl)
theorem fmk_M_d0 : decode prog_7_method_1_code 0 = .ok (.aload_n 0, 1) := by decide +kernel
theorem fmk_M_d1 : decode prog_7_method_1_code 1 = .ok (.invokespecial 5, 3) := by decide +kernel
theorem fmk_M_d4 : decode prog_7_method_1_code 4 = .ok (.aload_n 0, 1) := by decide +kernel
theorem fmk_M_d5 : decode prog_7_method_1_code 5 = .ok (.iconst 0, 1) := by decide +kernel
theorem fmk_M_d6 : decode prog_7_method_1_code 6 = .ok (.anewarray 11, 3) := by decide +kernel
theorem fmk_M_d9 : decode prog_7_method_1_code 9 = .ok (.putfield 13, 3) := by decide +kernel
theorem fmk_M_d12 : decode prog_7_method_1_code 12 = .ok (.aload_n 0, 1) := by decide +kernel
theorem fmk_M_d13 : decode prog_7_method_1_code 13 = .ok (.sipush 212, 3) := by decide +kernel
theorem fmk_M_d16 : decode prog_7_method_1_code 16 = .ok (.newarray .long, 2) := by decide +kernel
theorem fmk_M_d18 : decode prog_7_method_1_code 18 = .ok (.putfield 17, 3) := by decide +kernel
theorem fmk_M_d21 : decode prog_7_method_1_code 21 = .ok (.aload_n 0, 1) := by decide +kernel
theorem fmk_M_d22 : decode prog_7_method_1_code 22 = .ok (.sipush 212, 3) := by decide +kernel
theorem fmk_M_d25 : decode prog_7_method_1_code 25 = .ok (.newarray .double, 2) := by decide +kernel
theorem fmk_M_d27 : decode prog_7_method_1_code 27 = .ok (.putfield 21, 3) := by decide +kernel
theorem fmk_M_d30 : decode prog_7_method_1_code 30 = .ok (.aload_n 0, 1) := by decide +kernel
theorem fmk_M_d31 : decode prog_7_method_1_code 31 = .ok (.bipush 8, 2) := by decide +kernel
theorem fmk_M_d33 : decode prog_7_method_1_code 33 = .ok (.newarray .int, 2) := by decide +kernel
theorem fmk_M_d35 : decode prog_7_method_1_code 35 = .ok (.putfield 25, 3) := by decide +kernel
theorem fmk_M_d38 : decode prog_7_method_1_code 38 = .ok (.aload_n 0, 1) := by decide +kernel
theorem fmk_M_d39 : decode prog_7_method_1_code 39 = .ok (.bipush 8, 2) := by decide +kernel
theorem fmk_M_d41 : decode prog_7_method_1_code 41 = .ok (.newarray .int, 2) := by decide +kernel
theorem fmk_M_d43 : decode prog_7_method_1_code 43 = .ok (.putfield 29, 3) := by decide +kernel
theorem fmk_M_d46 : decode prog_7_method_1_code 46 = .ok (.return_, 1) := by decide +kernel
def fmk_M_w (cA : Nat → ClassId) (z0 h0 : Nat) (u : List Nat) : va_W := [(h0, .inr (5, [.int 0, .int 0, .ref (u.getD 0 0), .ref (u.getD 1 0), .ref (u.getD 2 0), .int 0, .int 0, .ref (u.getD 3 0), .ref (u.getD 4 0)])), (u.getD 0 0, .inl (cA 4, 0, .inr (.inr (.inr (.inr (fun _ => some z0)))))), (u.getD 1 0, .inl (cA 1, 212, fm_z 1)), (u.getD 2 0, .inl (cA 2, 212, fm_z 2)), (u.getD 3 0, .inl (cA 0, 8, fm_z 0)), (u.getD 4 0, .inl (cA 0, 8, fm_z 0))]
set_option maxHeartbeats 4000000 in
set_option maxRecDepth 100000 in
theorem fmk_M (l : Launch) (D : va_G) (cA : Nat → ClassId) (z0 : Nat) : fm_Kc l D cA fmk_M_y prog_7_method_1_code 1 5 (fmk_M_w cA z0) 1 5 440 := by
  refine fm_kM (by decide +kernel) rfl rfl (by decide) ?_
  intro p e s m below meth c A h0 ls X hin hr h hl
  have hx := X.1
  have hb := X.2.1
  have h : fm_kw D A s ([(h0, .inr (5, [.int 0, .int 0, .null, .null, .null, .int 0, .int 0, .null, .null]))]) s.heap [] := h
  refine lv_aload_n hx hb fmk_M_d0 rfl (lv_at hl 0 rfl) ?_
  refine fm_kobj X (fm_tb (List.mem_of_getElem? (i := 98) (by decide +kernel)) rfl) hl.1 fmk_M_d1 (by show 1 ≤ 1; decide) (by show 41 ≤ 41 * 1; decide) ?_
  refine lv_aload_n hx hb fmk_M_d4 rfl (lv_at hl 0 rfl) ?_
  refine lv_iconst (v := 0) hx hb fmk_M_d5 (by decide +kernel) ?_
  refine fm_knq X 4 0 (by decide) (fm_tb (List.mem_of_getElem? (i := 99) (by decide +kernel)) rfl) (by decide) (by decide +kernel) (by decide) (by show 0 + 1 ≤ 5; decide) (by show 0 + 0 ≤ 440; decide) fmk_M_d6 h (fun q6 H h => ?_)
  have h : fm_kw D A s ([(h0, .inr (5, [.int 0, .int 0, .null, .null, .null, .int 0, .int 0, .null, .null])), (q6, .inl (cA 4, 0, .inr (.inr (.inr (.inr (fun _ => none))))))]) H _ := h
  refine fm_kput X hin fm_f5_o (ix := 13) (k := 2) rfl rfl (Nat.le_of_ble_eq_true rfl) fmk_M_d9 h (fun H locs h => ?_)
  have h : fm_kw D A s ([(h0, .inr (5, [.int 0, .int 0, .ref q6, .null, .null, .int 0, .int 0, .null, .null])), (q6, .inl (cA 4, 0, .inr (.inr (.inr (.inr (fun _ => none))))))]) H _ := h
  refine lv_aload_n hx hb fmk_M_d12 rfl (lv_at hl 0 rfl) ?_
  refine lv_sipush (v := 212) hx hb fmk_M_d13 (by decide +kernel) ?_
  refine fm_knew X 1 212 (by decide) (by decide) (by decide +kernel) (by decide) (by show 1 + 1 ≤ 5; decide) (by show 0 + 212 ≤ 440; decide) fmk_M_d16 h (fun q16 H h => ?_)
  have h : fm_kw D A s ([(h0, .inr (5, [.int 0, .int 0, .ref q6, .null, .null, .int 0, .int 0, .null, .null])), (q6, .inl (cA 4, 0, .inr (.inr (.inr (.inr (fun _ => none)))))), (q16, .inl (cA 1, 212, fm_z 1))]) H _ := h
  refine fm_kput X hin fm_f5_o (ix := 17) (k := 3) rfl rfl (Nat.le_of_ble_eq_true rfl) fmk_M_d18 h (fun H locs h => ?_)
  have h : fm_kw D A s ([(h0, .inr (5, [.int 0, .int 0, .ref q6, .ref q16, .null, .int 0, .int 0, .null, .null])), (q6, .inl (cA 4, 0, .inr (.inr (.inr (.inr (fun _ => none)))))), (q16, .inl (cA 1, 212, fm_z 1))]) H _ := h
  refine lv_aload_n hx hb fmk_M_d21 rfl (lv_at hl 0 rfl) ?_
  refine lv_sipush (v := 212) hx hb fmk_M_d22 (by decide +kernel) ?_
  refine fm_knew X 2 212 (by decide) (by decide) (by decide +kernel) (by decide) (by show 2 + 1 ≤ 5; decide) (by show 212 + 212 ≤ 440; decide) fmk_M_d25 h (fun q25 H h => ?_)
  have h : fm_kw D A s ([(h0, .inr (5, [.int 0, .int 0, .ref q6, .ref q16, .null, .int 0, .int 0, .null, .null])), (q6, .inl (cA 4, 0, .inr (.inr (.inr (.inr (fun _ => none)))))), (q16, .inl (cA 1, 212, fm_z 1)), (q25, .inl (cA 2, 212, fm_z 2))]) H _ := h
  refine fm_kput X hin fm_f5_o (ix := 21) (k := 4) rfl rfl (Nat.le_of_ble_eq_true rfl) fmk_M_d27 h (fun H locs h => ?_)
  have h : fm_kw D A s ([(h0, .inr (5, [.int 0, .int 0, .ref q6, .ref q16, .ref q25, .int 0, .int 0, .null, .null])), (q6, .inl (cA 4, 0, .inr (.inr (.inr (.inr (fun _ => none)))))), (q16, .inl (cA 1, 212, fm_z 1)), (q25, .inl (cA 2, 212, fm_z 2))]) H _ := h
  refine lv_aload_n hx hb fmk_M_d30 rfl (lv_at hl 0 rfl) ?_
  refine lv_bipush (v := 8) hx hb fmk_M_d31 (by decide +kernel) ?_
  refine fm_knew X 0 8 (by decide) (by decide) (by decide +kernel) (by decide) (by show 3 + 1 ≤ 5; decide) (by show 424 + 8 ≤ 440; decide) fmk_M_d33 h (fun q33 H h => ?_)
  have h : fm_kw D A s ([(h0, .inr (5, [.int 0, .int 0, .ref q6, .ref q16, .ref q25, .int 0, .int 0, .null, .null])), (q6, .inl (cA 4, 0, .inr (.inr (.inr (.inr (fun _ => none)))))), (q16, .inl (cA 1, 212, fm_z 1)), (q25, .inl (cA 2, 212, fm_z 2)), (q33, .inl (cA 0, 8, fm_z 0))]) H _ := h
  refine fm_kput X hin fm_f5_o (ix := 25) (k := 7) rfl rfl (Nat.le_of_ble_eq_true rfl) fmk_M_d35 h (fun H locs h => ?_)
  have h : fm_kw D A s ([(h0, .inr (5, [.int 0, .int 0, .ref q6, .ref q16, .ref q25, .int 0, .int 0, .ref q33, .null])), (q6, .inl (cA 4, 0, .inr (.inr (.inr (.inr (fun _ => none)))))), (q16, .inl (cA 1, 212, fm_z 1)), (q25, .inl (cA 2, 212, fm_z 2)), (q33, .inl (cA 0, 8, fm_z 0))]) H _ := h
  refine lv_aload_n hx hb fmk_M_d38 rfl (lv_at hl 0 rfl) ?_
  refine lv_bipush (v := 8) hx hb fmk_M_d39 (by decide +kernel) ?_
  refine fm_knew X 0 8 (by decide) (by decide) (by decide +kernel) (by decide) (by show 4 + 1 ≤ 5; decide) (by show 432 + 8 ≤ 440; decide) fmk_M_d41 h (fun q41 H h => ?_)
  have h : fm_kw D A s ([(h0, .inr (5, [.int 0, .int 0, .ref q6, .ref q16, .ref q25, .int 0, .int 0, .ref q33, .null])), (q6, .inl (cA 4, 0, .inr (.inr (.inr (.inr (fun _ => none)))))), (q16, .inl (cA 1, 212, fm_z 1)), (q25, .inl (cA 2, 212, fm_z 2)), (q33, .inl (cA 0, 8, fm_z 0)), (q41, .inl (cA 0, 8, fm_z 0))]) H _ := h
  refine fm_kput X hin fm_f5_o (ix := 29) (k := 8) rfl rfl (Nat.le_of_ble_eq_true rfl) fmk_M_d43 h (fun H locs h => ?_)
  have h : fm_kw D A s ([(h0, .inr (5, [.int 0, .int 0, .ref q6, .ref q16, .ref q25, .int 0, .int 0, .ref q33, .ref q41])), (q6, .inl (cA 4, 0, .inr (.inr (.inr (.inr (fun _ => none)))))), (q16, .inl (cA 1, 212, fm_z 1)), (q25, .inl (cA 2, 212, fm_z 2)), (q33, .inl (cA 0, 8, fm_z 0)), (q41, .inl (cA 0, 8, fm_z 0))]) H _ := h
  have h := fm_kre (q0 := 1) (g := fun _ => some z0) rfl (fun j hj => absurd hj (Nat.not_lt_zero j)) h
  exact fm_kret X hr [q6, q16, q25, q33, q41] h (by show 5 ≤ 5; decide) (by show 440 ≤ 440; decide) fmk_M_d46
def fmk_D_y : MethodName := ⟨"FlatModuleModel", "<init>", "()V"⟩
set_option maxRecDepth 100000 in
theorem fmk_D_cw : Cond.code fmk_D_y prog_9_method_1_code 1 none ∈ fm_TB := fm_tb (List.mem_of_getElem? (i := 620) rfl) rfl
theorem fmk_D_iw : Cond.instantiable (fm_cn 6) (fm_nf 6) ∈ fm_TB := (fm_tb (List.mem_of_getElem? (i := 617) (by decide +kernel)) rfl)
theorem fmk_D_nw : Cond.initialized (fm_cn 6) ∈ fm_TB := (fm_tb (List.mem_of_getElem? (i := 7) (by decide +kernel)) rfl)
theorem fmk_D_mw : Cond.instanceMethod fmk_D_y ∈ fm_TB := (fm_tb (List.mem_of_getElem? (i := 619) (by decide +kernel)) rfl)
theorem fmk_D_d0 : decode prog_9_method_1_code 0 = .ok (.aload_n 0, 1) := by decide +kernel
theorem fmk_D_d1 : decode prog_9_method_1_code 1 = .ok (.invokespecial 1, 3) := by decide +kernel
theorem fmk_D_d4 : decode prog_9_method_1_code 4 = .ok (.aload_n 0, 1) := by decide +kernel
theorem fmk_D_d5 : decode prog_9_method_1_code 5 = .ok (.sipush 160, 3) := by decide +kernel
theorem fmk_D_d8 : decode prog_9_method_1_code 8 = .ok (.newarray .int, 2) := by decide +kernel
theorem fmk_D_d10 : decode prog_9_method_1_code 10 = .ok (.putfield 7, 3) := by decide +kernel
theorem fmk_D_d13 : decode prog_9_method_1_code 13 = .ok (.aload_n 0, 1) := by decide +kernel
theorem fmk_D_d14 : decode prog_9_method_1_code 14 = .ok (.sipush 160, 3) := by decide +kernel
theorem fmk_D_d17 : decode prog_9_method_1_code 17 = .ok (.newarray .int, 2) := by decide +kernel
theorem fmk_D_d19 : decode prog_9_method_1_code 19 = .ok (.putfield 13, 3) := by decide +kernel
theorem fmk_D_d22 : decode prog_9_method_1_code 22 = .ok (.aload_n 0, 1) := by decide +kernel
theorem fmk_D_d23 : decode prog_9_method_1_code 23 = .ok (.iconst 4, 1) := by decide +kernel
theorem fmk_D_d24 : decode prog_9_method_1_code 24 = .ok (.newarray .int, 2) := by decide +kernel
theorem fmk_D_d26 : decode prog_9_method_1_code 26 = .ok (.putfield 16, 3) := by decide +kernel
theorem fmk_D_d29 : decode prog_9_method_1_code 29 = .ok (.aload_n 0, 1) := by decide +kernel
theorem fmk_D_d30 : decode prog_9_method_1_code 30 = .ok (.iconst 4, 1) := by decide +kernel
theorem fmk_D_d31 : decode prog_9_method_1_code 31 = .ok (.newarray .int, 2) := by decide +kernel
theorem fmk_D_d33 : decode prog_9_method_1_code 33 = .ok (.putfield 19, 3) := by decide +kernel
theorem fmk_D_d36 : decode prog_9_method_1_code 36 = .ok (.aload_n 0, 1) := by decide +kernel
theorem fmk_D_d37 : decode prog_9_method_1_code 37 = .ok (.iconst 4, 1) := by decide +kernel
theorem fmk_D_d38 : decode prog_9_method_1_code 38 = .ok (.newarray .int, 2) := by decide +kernel
theorem fmk_D_d40 : decode prog_9_method_1_code 40 = .ok (.putfield 22, 3) := by decide +kernel
theorem fmk_D_d43 : decode prog_9_method_1_code 43 = .ok (.aload_n 0, 1) := by decide +kernel
theorem fmk_D_d44 : decode prog_9_method_1_code 44 = .ok (.bipush 24, 2) := by decide +kernel
theorem fmk_D_d46 : decode prog_9_method_1_code 46 = .ok (.newarray .int, 2) := by decide +kernel
theorem fmk_D_d48 : decode prog_9_method_1_code 48 = .ok (.putfield 25, 3) := by decide +kernel
theorem fmk_D_d51 : decode prog_9_method_1_code 51 = .ok (.aload_n 0, 1) := by decide +kernel
theorem fmk_D_d52 : decode prog_9_method_1_code 52 = .ok (.iconst 4, 1) := by decide +kernel
theorem fmk_D_d53 : decode prog_9_method_1_code 53 = .ok (.newarray .int, 2) := by decide +kernel
theorem fmk_D_d55 : decode prog_9_method_1_code 55 = .ok (.putfield 28, 3) := by decide +kernel
theorem fmk_D_d58 : decode prog_9_method_1_code 58 = .ok (.aload_n 0, 1) := by decide +kernel
theorem fmk_D_d59 : decode prog_9_method_1_code 59 = .ok (.iconst 4, 1) := by decide +kernel
theorem fmk_D_d60 : decode prog_9_method_1_code 60 = .ok (.newarray .boolean, 2) := by decide +kernel
theorem fmk_D_d62 : decode prog_9_method_1_code 62 = .ok (.putfield 31, 3) := by decide +kernel
theorem fmk_D_d65 : decode prog_9_method_1_code 65 = .ok (.aload_n 0, 1) := by decide +kernel
theorem fmk_D_d66 : decode prog_9_method_1_code 66 = .ok (.iconst 4, 1) := by decide +kernel
theorem fmk_D_d67 : decode prog_9_method_1_code 67 = .ok (.newarray .long, 2) := by decide +kernel
theorem fmk_D_d69 : decode prog_9_method_1_code 69 = .ok (.putfield 35, 3) := by decide +kernel
theorem fmk_D_d72 : decode prog_9_method_1_code 72 = .ok (.aload_n 0, 1) := by decide +kernel
theorem fmk_D_d73 : decode prog_9_method_1_code 73 = .ok (.iconst 4, 1) := by decide +kernel
theorem fmk_D_d74 : decode prog_9_method_1_code 74 = .ok (.newarray .double, 2) := by decide +kernel
theorem fmk_D_d76 : decode prog_9_method_1_code 76 = .ok (.putfield 39, 3) := by decide +kernel
theorem fmk_D_d79 : decode prog_9_method_1_code 79 = .ok (.aload_n 0, 1) := by decide +kernel
theorem fmk_D_d80 : decode prog_9_method_1_code 80 = .ok (.bipush 24, 2) := by decide +kernel
theorem fmk_D_d82 : decode prog_9_method_1_code 82 = .ok (.newarray .int, 2) := by decide +kernel
theorem fmk_D_d84 : decode prog_9_method_1_code 84 = .ok (.putfield 43, 3) := by decide +kernel
theorem fmk_D_d87 : decode prog_9_method_1_code 87 = .ok (.aload_n 0, 1) := by decide +kernel
theorem fmk_D_d88 : decode prog_9_method_1_code 88 = .ok (.bipush 12, 2) := by decide +kernel
theorem fmk_D_d90 : decode prog_9_method_1_code 90 = .ok (.newarray .int, 2) := by decide +kernel
theorem fmk_D_d92 : decode prog_9_method_1_code 92 = .ok (.putfield 46, 3) := by decide +kernel
theorem fmk_D_d95 : decode prog_9_method_1_code 95 = .ok (.aload_n 0, 1) := by decide +kernel
theorem fmk_D_d96 : decode prog_9_method_1_code 96 = .ok (.bipush 12, 2) := by decide +kernel
theorem fmk_D_d98 : decode prog_9_method_1_code 98 = .ok (.newarray .int, 2) := by decide +kernel
theorem fmk_D_d100 : decode prog_9_method_1_code 100 = .ok (.putfield 49, 3) := by decide +kernel
theorem fmk_D_d103 : decode prog_9_method_1_code 103 = .ok (.aload_n 0, 1) := by decide +kernel
theorem fmk_D_d104 : decode prog_9_method_1_code 104 = .ok (.bipush 12, 2) := by decide +kernel
theorem fmk_D_d106 : decode prog_9_method_1_code 106 = .ok (.newarray .int, 2) := by decide +kernel
theorem fmk_D_d108 : decode prog_9_method_1_code 108 = .ok (.putfield 52, 3) := by decide +kernel
theorem fmk_D_d111 : decode prog_9_method_1_code 111 = .ok (.aload_n 0, 1) := by decide +kernel
theorem fmk_D_d112 : decode prog_9_method_1_code 112 = .ok (.bipush 12, 2) := by decide +kernel
theorem fmk_D_d114 : decode prog_9_method_1_code 114 = .ok (.newarray .boolean, 2) := by decide +kernel
theorem fmk_D_d116 : decode prog_9_method_1_code 116 = .ok (.putfield 55, 3) := by decide +kernel
theorem fmk_D_d119 : decode prog_9_method_1_code 119 = .ok (.aload_n 0, 1) := by decide +kernel
theorem fmk_D_d120 : decode prog_9_method_1_code 120 = .ok (.sipush 260, 3) := by decide +kernel
theorem fmk_D_d123 : decode prog_9_method_1_code 123 = .ok (.newarray .long, 2) := by decide +kernel
theorem fmk_D_d125 : decode prog_9_method_1_code 125 = .ok (.putfield 58, 3) := by decide +kernel
theorem fmk_D_d128 : decode prog_9_method_1_code 128 = .ok (.aload_n 0, 1) := by decide +kernel
theorem fmk_D_d129 : decode prog_9_method_1_code 129 = .ok (.sipush 260, 3) := by decide +kernel
theorem fmk_D_d132 : decode prog_9_method_1_code 132 = .ok (.newarray .double, 2) := by decide +kernel
theorem fmk_D_d134 : decode prog_9_method_1_code 134 = .ok (.putfield 61, 3) := by decide +kernel
theorem fmk_D_d137 : decode prog_9_method_1_code 137 = .ok (.aload_n 0, 1) := by decide +kernel
theorem fmk_D_d138 : decode prog_9_method_1_code 138 = .ok (.bipush 10, 2) := by decide +kernel
theorem fmk_D_d140 : decode prog_9_method_1_code 140 = .ok (.newarray .int, 2) := by decide +kernel
theorem fmk_D_d142 : decode prog_9_method_1_code 142 = .ok (.putfield 64, 3) := by decide +kernel
theorem fmk_D_d145 : decode prog_9_method_1_code 145 = .ok (.aload_n 0, 1) := by decide +kernel
theorem fmk_D_d146 : decode prog_9_method_1_code 146 = .ok (.bipush 10, 2) := by decide +kernel
theorem fmk_D_d148 : decode prog_9_method_1_code 148 = .ok (.newarray .int, 2) := by decide +kernel
theorem fmk_D_d150 : decode prog_9_method_1_code 150 = .ok (.putfield 67, 3) := by decide +kernel
theorem fmk_D_d153 : decode prog_9_method_1_code 153 = .ok (.aload_n 0, 1) := by decide +kernel
theorem fmk_D_d154 : decode prog_9_method_1_code 154 = .ok (.bipush 10, 2) := by decide +kernel
theorem fmk_D_d156 : decode prog_9_method_1_code 156 = .ok (.newarray .int, 2) := by decide +kernel
theorem fmk_D_d158 : decode prog_9_method_1_code 158 = .ok (.putfield 70, 3) := by decide +kernel
theorem fmk_D_d161 : decode prog_9_method_1_code 161 = .ok (.aload_n 0, 1) := by decide +kernel
theorem fmk_D_d162 : decode prog_9_method_1_code 162 = .ok (.bipush 90, 2) := by decide +kernel
theorem fmk_D_d164 : decode prog_9_method_1_code 164 = .ok (.newarray .int, 2) := by decide +kernel
theorem fmk_D_d166 : decode prog_9_method_1_code 166 = .ok (.putfield 73, 3) := by decide +kernel
theorem fmk_D_d169 : decode prog_9_method_1_code 169 = .ok (.aload_n 0, 1) := by decide +kernel
theorem fmk_D_d170 : decode prog_9_method_1_code 170 = .ok (.bipush 90, 2) := by decide +kernel
theorem fmk_D_d172 : decode prog_9_method_1_code 172 = .ok (.newarray .int, 2) := by decide +kernel
theorem fmk_D_d174 : decode prog_9_method_1_code 174 = .ok (.putfield 76, 3) := by decide +kernel
theorem fmk_D_d177 : decode prog_9_method_1_code 177 = .ok (.aload_n 0, 1) := by decide +kernel
theorem fmk_D_d178 : decode prog_9_method_1_code 178 = .ok (.bipush 10, 2) := by decide +kernel
theorem fmk_D_d180 : decode prog_9_method_1_code 180 = .ok (.newarray .int, 2) := by decide +kernel
theorem fmk_D_d182 : decode prog_9_method_1_code 182 = .ok (.putfield 79, 3) := by decide +kernel
theorem fmk_D_d185 : decode prog_9_method_1_code 185 = .ok (.return_, 1) := by decide +kernel
def fmk_D_w (cA : Nat → ClassId) (h0 : Nat) (u : List Nat) : va_W := [(h0, .inr (6, [.ref (u.getD 0 0), .ref (u.getD 1 0), .ref (u.getD 2 0), .ref (u.getD 3 0), .ref (u.getD 4 0), .ref (u.getD 5 0), .ref (u.getD 6 0), .ref (u.getD 7 0), .ref (u.getD 8 0), .ref (u.getD 9 0), .ref (u.getD 10 0), .ref (u.getD 11 0), .ref (u.getD 12 0), .ref (u.getD 13 0), .ref (u.getD 14 0), .int 0, .int 0, .int 0, .int 0, .int 0, .ref (u.getD 15 0), .ref (u.getD 16 0), .ref (u.getD 17 0), .ref (u.getD 18 0), .ref (u.getD 19 0), .ref (u.getD 20 0), .ref (u.getD 21 0), .ref (u.getD 22 0), .int 0, .int 0, .int 0, .int 0, .int 0])), (u.getD 0 0, .inl (cA 0, 160, fm_z 0)), (u.getD 1 0, .inl (cA 0, 160, fm_z 0)), (u.getD 2 0, .inl (cA 0, 4, fm_z 0)), (u.getD 3 0, .inl (cA 0, 4, fm_z 0)), (u.getD 4 0, .inl (cA 0, 4, fm_z 0)), (u.getD 5 0, .inl (cA 0, 24, fm_z 0)), (u.getD 6 0, .inl (cA 0, 4, fm_z 0)), (u.getD 7 0, .inl (cA 3, 4, fm_z 3)), (u.getD 8 0, .inl (cA 1, 4, fm_z 1)), (u.getD 9 0, .inl (cA 2, 4, fm_z 2)), (u.getD 10 0, .inl (cA 0, 24, fm_z 0)), (u.getD 11 0, .inl (cA 0, 12, fm_z 0)), (u.getD 12 0, .inl (cA 0, 12, fm_z 0)), (u.getD 13 0, .inl (cA 0, 12, fm_z 0)), (u.getD 14 0, .inl (cA 3, 12, fm_z 3)), (u.getD 15 0, .inl (cA 1, 260, fm_z 1)), (u.getD 16 0, .inl (cA 2, 260, fm_z 2)), (u.getD 17 0, .inl (cA 0, 10, fm_z 0)), (u.getD 18 0, .inl (cA 0, 10, fm_z 0)), (u.getD 19 0, .inl (cA 0, 10, fm_z 0)), (u.getD 20 0, .inl (cA 0, 90, fm_z 0)), (u.getD 21 0, .inl (cA 0, 90, fm_z 0)), (u.getD 22 0, .inl (cA 0, 10, fm_z 0))]
set_option maxHeartbeats 4000000 in
set_option maxRecDepth 100000 in
theorem fmk_D (l : Launch) (D : va_G) (cA : Nat → ClassId) : fm_Kc l D cA fmk_D_y prog_9_method_1_code 1 6 (fmk_D_w cA) 1 23 1184 := by
  refine fm_kM (by decide +kernel) rfl rfl (by decide) ?_
  intro p e s m below meth c A h0 ls X hin hr h hl
  have hx := X.1
  have hb := X.2.1
  have h : fm_kw D A s ([(h0, .inr (6, [.null, .null, .null, .null, .null, .null, .null, .null, .null, .null, .null, .null, .null, .null, .null, .int 0, .int 0, .int 0, .int 0, .int 0, .null, .null, .null, .null, .null, .null, .null, .null, .int 0, .int 0, .int 0, .int 0, .int 0]))]) s.heap [] := h
  refine lv_aload_n hx hb fmk_D_d0 rfl (lv_at hl 0 rfl) ?_
  refine fm_kobj X (fm_tb (List.mem_of_getElem? (i := 621) (by decide +kernel)) rfl) hl.1 fmk_D_d1 (by show 1 ≤ 1; decide) (by show 41 ≤ 41 * 1; decide) ?_
  refine lv_aload_n hx hb fmk_D_d4 rfl (lv_at hl 0 rfl) ?_
  refine lv_sipush (v := 160) hx hb fmk_D_d5 (by decide +kernel) ?_
  refine fm_knew X 0 160 (by decide) (by decide) (by decide +kernel) (by decide) (by show 0 + 1 ≤ 23; decide) (by show 0 + 160 ≤ 1184; decide) fmk_D_d8 h (fun q8 H h => ?_)
  have h : fm_kw D A s ([(h0, .inr (6, [.null, .null, .null, .null, .null, .null, .null, .null, .null, .null, .null, .null, .null, .null, .null, .int 0, .int 0, .int 0, .int 0, .int 0, .null, .null, .null, .null, .null, .null, .null, .null, .int 0, .int 0, .int 0, .int 0, .int 0])), (q8, .inl (cA 0, 160, fm_z 0))]) H _ := h
  refine fm_kput X hin fm_f6_o (ix := 7) (k := 0) rfl rfl (Nat.le_of_ble_eq_true rfl) fmk_D_d10 h (fun H locs h => ?_)
  have h : fm_kw D A s ([(h0, .inr (6, [.ref q8, .null, .null, .null, .null, .null, .null, .null, .null, .null, .null, .null, .null, .null, .null, .int 0, .int 0, .int 0, .int 0, .int 0, .null, .null, .null, .null, .null, .null, .null, .null, .int 0, .int 0, .int 0, .int 0, .int 0])), (q8, .inl (cA 0, 160, fm_z 0))]) H _ := h
  refine lv_aload_n hx hb fmk_D_d13 rfl (lv_at hl 0 rfl) ?_
  refine lv_sipush (v := 160) hx hb fmk_D_d14 (by decide +kernel) ?_
  refine fm_knew X 0 160 (by decide) (by decide) (by decide +kernel) (by decide) (by show 1 + 1 ≤ 23; decide) (by show 160 + 160 ≤ 1184; decide) fmk_D_d17 h (fun q17 H h => ?_)
  have h : fm_kw D A s ([(h0, .inr (6, [.ref q8, .null, .null, .null, .null, .null, .null, .null, .null, .null, .null, .null, .null, .null, .null, .int 0, .int 0, .int 0, .int 0, .int 0, .null, .null, .null, .null, .null, .null, .null, .null, .int 0, .int 0, .int 0, .int 0, .int 0])), (q8, .inl (cA 0, 160, fm_z 0)), (q17, .inl (cA 0, 160, fm_z 0))]) H _ := h
  refine fm_kput X hin fm_f6_o (ix := 13) (k := 1) rfl rfl (Nat.le_of_ble_eq_true rfl) fmk_D_d19 h (fun H locs h => ?_)
  have h : fm_kw D A s ([(h0, .inr (6, [.ref q8, .ref q17, .null, .null, .null, .null, .null, .null, .null, .null, .null, .null, .null, .null, .null, .int 0, .int 0, .int 0, .int 0, .int 0, .null, .null, .null, .null, .null, .null, .null, .null, .int 0, .int 0, .int 0, .int 0, .int 0])), (q8, .inl (cA 0, 160, fm_z 0)), (q17, .inl (cA 0, 160, fm_z 0))]) H _ := h
  refine lv_aload_n hx hb fmk_D_d22 rfl (lv_at hl 0 rfl) ?_
  refine lv_iconst (v := 4) hx hb fmk_D_d23 (by decide +kernel) ?_
  refine fm_knew X 0 4 (by decide) (by decide) (by decide +kernel) (by decide) (by show 2 + 1 ≤ 23; decide) (by show 320 + 4 ≤ 1184; decide) fmk_D_d24 h (fun q24 H h => ?_)
  have h : fm_kw D A s ([(h0, .inr (6, [.ref q8, .ref q17, .null, .null, .null, .null, .null, .null, .null, .null, .null, .null, .null, .null, .null, .int 0, .int 0, .int 0, .int 0, .int 0, .null, .null, .null, .null, .null, .null, .null, .null, .int 0, .int 0, .int 0, .int 0, .int 0])), (q8, .inl (cA 0, 160, fm_z 0)), (q17, .inl (cA 0, 160, fm_z 0)), (q24, .inl (cA 0, 4, fm_z 0))]) H _ := h
  refine fm_kput X hin fm_f6_o (ix := 16) (k := 2) rfl rfl (Nat.le_of_ble_eq_true rfl) fmk_D_d26 h (fun H locs h => ?_)
  have h : fm_kw D A s ([(h0, .inr (6, [.ref q8, .ref q17, .ref q24, .null, .null, .null, .null, .null, .null, .null, .null, .null, .null, .null, .null, .int 0, .int 0, .int 0, .int 0, .int 0, .null, .null, .null, .null, .null, .null, .null, .null, .int 0, .int 0, .int 0, .int 0, .int 0])), (q8, .inl (cA 0, 160, fm_z 0)), (q17, .inl (cA 0, 160, fm_z 0)), (q24, .inl (cA 0, 4, fm_z 0))]) H _ := h
  refine lv_aload_n hx hb fmk_D_d29 rfl (lv_at hl 0 rfl) ?_
  refine lv_iconst (v := 4) hx hb fmk_D_d30 (by decide +kernel) ?_
  refine fm_knew X 0 4 (by decide) (by decide) (by decide +kernel) (by decide) (by show 3 + 1 ≤ 23; decide) (by show 324 + 4 ≤ 1184; decide) fmk_D_d31 h (fun q31 H h => ?_)
  have h : fm_kw D A s ([(h0, .inr (6, [.ref q8, .ref q17, .ref q24, .null, .null, .null, .null, .null, .null, .null, .null, .null, .null, .null, .null, .int 0, .int 0, .int 0, .int 0, .int 0, .null, .null, .null, .null, .null, .null, .null, .null, .int 0, .int 0, .int 0, .int 0, .int 0])), (q8, .inl (cA 0, 160, fm_z 0)), (q17, .inl (cA 0, 160, fm_z 0)), (q24, .inl (cA 0, 4, fm_z 0)), (q31, .inl (cA 0, 4, fm_z 0))]) H _ := h
  refine fm_kput X hin fm_f6_o (ix := 19) (k := 3) rfl rfl (Nat.le_of_ble_eq_true rfl) fmk_D_d33 h (fun H locs h => ?_)
  have h : fm_kw D A s ([(h0, .inr (6, [.ref q8, .ref q17, .ref q24, .ref q31, .null, .null, .null, .null, .null, .null, .null, .null, .null, .null, .null, .int 0, .int 0, .int 0, .int 0, .int 0, .null, .null, .null, .null, .null, .null, .null, .null, .int 0, .int 0, .int 0, .int 0, .int 0])), (q8, .inl (cA 0, 160, fm_z 0)), (q17, .inl (cA 0, 160, fm_z 0)), (q24, .inl (cA 0, 4, fm_z 0)), (q31, .inl (cA 0, 4, fm_z 0))]) H _ := h
  refine lv_aload_n hx hb fmk_D_d36 rfl (lv_at hl 0 rfl) ?_
  refine lv_iconst (v := 4) hx hb fmk_D_d37 (by decide +kernel) ?_
  refine fm_knew X 0 4 (by decide) (by decide) (by decide +kernel) (by decide) (by show 4 + 1 ≤ 23; decide) (by show 328 + 4 ≤ 1184; decide) fmk_D_d38 h (fun q38 H h => ?_)
  have h : fm_kw D A s ([(h0, .inr (6, [.ref q8, .ref q17, .ref q24, .ref q31, .null, .null, .null, .null, .null, .null, .null, .null, .null, .null, .null, .int 0, .int 0, .int 0, .int 0, .int 0, .null, .null, .null, .null, .null, .null, .null, .null, .int 0, .int 0, .int 0, .int 0, .int 0])), (q8, .inl (cA 0, 160, fm_z 0)), (q17, .inl (cA 0, 160, fm_z 0)), (q24, .inl (cA 0, 4, fm_z 0)), (q31, .inl (cA 0, 4, fm_z 0)), (q38, .inl (cA 0, 4, fm_z 0))]) H _ := h
  refine fm_kput X hin fm_f6_o (ix := 22) (k := 4) rfl rfl (Nat.le_of_ble_eq_true rfl) fmk_D_d40 h (fun H locs h => ?_)
  have h : fm_kw D A s ([(h0, .inr (6, [.ref q8, .ref q17, .ref q24, .ref q31, .ref q38, .null, .null, .null, .null, .null, .null, .null, .null, .null, .null, .int 0, .int 0, .int 0, .int 0, .int 0, .null, .null, .null, .null, .null, .null, .null, .null, .int 0, .int 0, .int 0, .int 0, .int 0])), (q8, .inl (cA 0, 160, fm_z 0)), (q17, .inl (cA 0, 160, fm_z 0)), (q24, .inl (cA 0, 4, fm_z 0)), (q31, .inl (cA 0, 4, fm_z 0)), (q38, .inl (cA 0, 4, fm_z 0))]) H _ := h
  refine lv_aload_n hx hb fmk_D_d43 rfl (lv_at hl 0 rfl) ?_
  refine lv_bipush (v := 24) hx hb fmk_D_d44 (by decide +kernel) ?_
  refine fm_knew X 0 24 (by decide) (by decide) (by decide +kernel) (by decide) (by show 5 + 1 ≤ 23; decide) (by show 332 + 24 ≤ 1184; decide) fmk_D_d46 h (fun q46 H h => ?_)
  have h : fm_kw D A s ([(h0, .inr (6, [.ref q8, .ref q17, .ref q24, .ref q31, .ref q38, .null, .null, .null, .null, .null, .null, .null, .null, .null, .null, .int 0, .int 0, .int 0, .int 0, .int 0, .null, .null, .null, .null, .null, .null, .null, .null, .int 0, .int 0, .int 0, .int 0, .int 0])), (q8, .inl (cA 0, 160, fm_z 0)), (q17, .inl (cA 0, 160, fm_z 0)), (q24, .inl (cA 0, 4, fm_z 0)), (q31, .inl (cA 0, 4, fm_z 0)), (q38, .inl (cA 0, 4, fm_z 0)), (q46, .inl (cA 0, 24, fm_z 0))]) H _ := h
  refine fm_kput X hin fm_f6_o (ix := 25) (k := 5) rfl rfl (Nat.le_of_ble_eq_true rfl) fmk_D_d48 h (fun H locs h => ?_)
  have h : fm_kw D A s ([(h0, .inr (6, [.ref q8, .ref q17, .ref q24, .ref q31, .ref q38, .ref q46, .null, .null, .null, .null, .null, .null, .null, .null, .null, .int 0, .int 0, .int 0, .int 0, .int 0, .null, .null, .null, .null, .null, .null, .null, .null, .int 0, .int 0, .int 0, .int 0, .int 0])), (q8, .inl (cA 0, 160, fm_z 0)), (q17, .inl (cA 0, 160, fm_z 0)), (q24, .inl (cA 0, 4, fm_z 0)), (q31, .inl (cA 0, 4, fm_z 0)), (q38, .inl (cA 0, 4, fm_z 0)), (q46, .inl (cA 0, 24, fm_z 0))]) H _ := h
  refine lv_aload_n hx hb fmk_D_d51 rfl (lv_at hl 0 rfl) ?_
  refine lv_iconst (v := 4) hx hb fmk_D_d52 (by decide +kernel) ?_
  refine fm_knew X 0 4 (by decide) (by decide) (by decide +kernel) (by decide) (by show 6 + 1 ≤ 23; decide) (by show 356 + 4 ≤ 1184; decide) fmk_D_d53 h (fun q53 H h => ?_)
  have h : fm_kw D A s ([(h0, .inr (6, [.ref q8, .ref q17, .ref q24, .ref q31, .ref q38, .ref q46, .null, .null, .null, .null, .null, .null, .null, .null, .null, .int 0, .int 0, .int 0, .int 0, .int 0, .null, .null, .null, .null, .null, .null, .null, .null, .int 0, .int 0, .int 0, .int 0, .int 0])), (q8, .inl (cA 0, 160, fm_z 0)), (q17, .inl (cA 0, 160, fm_z 0)), (q24, .inl (cA 0, 4, fm_z 0)), (q31, .inl (cA 0, 4, fm_z 0)), (q38, .inl (cA 0, 4, fm_z 0)), (q46, .inl (cA 0, 24, fm_z 0)), (q53, .inl (cA 0, 4, fm_z 0))]) H _ := h
  refine fm_kput X hin fm_f6_o (ix := 28) (k := 6) rfl rfl (Nat.le_of_ble_eq_true rfl) fmk_D_d55 h (fun H locs h => ?_)
  have h : fm_kw D A s ([(h0, .inr (6, [.ref q8, .ref q17, .ref q24, .ref q31, .ref q38, .ref q46, .ref q53, .null, .null, .null, .null, .null, .null, .null, .null, .int 0, .int 0, .int 0, .int 0, .int 0, .null, .null, .null, .null, .null, .null, .null, .null, .int 0, .int 0, .int 0, .int 0, .int 0])), (q8, .inl (cA 0, 160, fm_z 0)), (q17, .inl (cA 0, 160, fm_z 0)), (q24, .inl (cA 0, 4, fm_z 0)), (q31, .inl (cA 0, 4, fm_z 0)), (q38, .inl (cA 0, 4, fm_z 0)), (q46, .inl (cA 0, 24, fm_z 0)), (q53, .inl (cA 0, 4, fm_z 0))]) H _ := h
  refine lv_aload_n hx hb fmk_D_d58 rfl (lv_at hl 0 rfl) ?_
  refine lv_iconst (v := 4) hx hb fmk_D_d59 (by decide +kernel) ?_
  refine fm_knew X 3 4 (by decide) (by decide) (by decide +kernel) (by decide) (by show 7 + 1 ≤ 23; decide) (by show 360 + 4 ≤ 1184; decide) fmk_D_d60 h (fun q60 H h => ?_)
  have h : fm_kw D A s ([(h0, .inr (6, [.ref q8, .ref q17, .ref q24, .ref q31, .ref q38, .ref q46, .ref q53, .null, .null, .null, .null, .null, .null, .null, .null, .int 0, .int 0, .int 0, .int 0, .int 0, .null, .null, .null, .null, .null, .null, .null, .null, .int 0, .int 0, .int 0, .int 0, .int 0])), (q8, .inl (cA 0, 160, fm_z 0)), (q17, .inl (cA 0, 160, fm_z 0)), (q24, .inl (cA 0, 4, fm_z 0)), (q31, .inl (cA 0, 4, fm_z 0)), (q38, .inl (cA 0, 4, fm_z 0)), (q46, .inl (cA 0, 24, fm_z 0)), (q53, .inl (cA 0, 4, fm_z 0)), (q60, .inl (cA 3, 4, fm_z 3))]) H _ := h
  refine fm_kput X hin fm_f6_o (ix := 31) (k := 7) rfl rfl (Nat.le_of_ble_eq_true rfl) fmk_D_d62 h (fun H locs h => ?_)
  have h : fm_kw D A s ([(h0, .inr (6, [.ref q8, .ref q17, .ref q24, .ref q31, .ref q38, .ref q46, .ref q53, .ref q60, .null, .null, .null, .null, .null, .null, .null, .int 0, .int 0, .int 0, .int 0, .int 0, .null, .null, .null, .null, .null, .null, .null, .null, .int 0, .int 0, .int 0, .int 0, .int 0])), (q8, .inl (cA 0, 160, fm_z 0)), (q17, .inl (cA 0, 160, fm_z 0)), (q24, .inl (cA 0, 4, fm_z 0)), (q31, .inl (cA 0, 4, fm_z 0)), (q38, .inl (cA 0, 4, fm_z 0)), (q46, .inl (cA 0, 24, fm_z 0)), (q53, .inl (cA 0, 4, fm_z 0)), (q60, .inl (cA 3, 4, fm_z 3))]) H _ := h
  refine lv_aload_n hx hb fmk_D_d65 rfl (lv_at hl 0 rfl) ?_
  refine lv_iconst (v := 4) hx hb fmk_D_d66 (by decide +kernel) ?_
  refine fm_knew X 1 4 (by decide) (by decide) (by decide +kernel) (by decide) (by show 8 + 1 ≤ 23; decide) (by show 364 + 4 ≤ 1184; decide) fmk_D_d67 h (fun q67 H h => ?_)
  have h : fm_kw D A s ([(h0, .inr (6, [.ref q8, .ref q17, .ref q24, .ref q31, .ref q38, .ref q46, .ref q53, .ref q60, .null, .null, .null, .null, .null, .null, .null, .int 0, .int 0, .int 0, .int 0, .int 0, .null, .null, .null, .null, .null, .null, .null, .null, .int 0, .int 0, .int 0, .int 0, .int 0])), (q8, .inl (cA 0, 160, fm_z 0)), (q17, .inl (cA 0, 160, fm_z 0)), (q24, .inl (cA 0, 4, fm_z 0)), (q31, .inl (cA 0, 4, fm_z 0)), (q38, .inl (cA 0, 4, fm_z 0)), (q46, .inl (cA 0, 24, fm_z 0)), (q53, .inl (cA 0, 4, fm_z 0)), (q60, .inl (cA 3, 4, fm_z 3)), (q67, .inl (cA 1, 4, fm_z 1))]) H _ := h
  refine fm_kput X hin fm_f6_o (ix := 35) (k := 8) rfl rfl (Nat.le_of_ble_eq_true rfl) fmk_D_d69 h (fun H locs h => ?_)
  have h : fm_kw D A s ([(h0, .inr (6, [.ref q8, .ref q17, .ref q24, .ref q31, .ref q38, .ref q46, .ref q53, .ref q60, .ref q67, .null, .null, .null, .null, .null, .null, .int 0, .int 0, .int 0, .int 0, .int 0, .null, .null, .null, .null, .null, .null, .null, .null, .int 0, .int 0, .int 0, .int 0, .int 0])), (q8, .inl (cA 0, 160, fm_z 0)), (q17, .inl (cA 0, 160, fm_z 0)), (q24, .inl (cA 0, 4, fm_z 0)), (q31, .inl (cA 0, 4, fm_z 0)), (q38, .inl (cA 0, 4, fm_z 0)), (q46, .inl (cA 0, 24, fm_z 0)), (q53, .inl (cA 0, 4, fm_z 0)), (q60, .inl (cA 3, 4, fm_z 3)), (q67, .inl (cA 1, 4, fm_z 1))]) H _ := h
  refine lv_aload_n hx hb fmk_D_d72 rfl (lv_at hl 0 rfl) ?_
  refine lv_iconst (v := 4) hx hb fmk_D_d73 (by decide +kernel) ?_
  refine fm_knew X 2 4 (by decide) (by decide) (by decide +kernel) (by decide) (by show 9 + 1 ≤ 23; decide) (by show 368 + 4 ≤ 1184; decide) fmk_D_d74 h (fun q74 H h => ?_)
  have h : fm_kw D A s ([(h0, .inr (6, [.ref q8, .ref q17, .ref q24, .ref q31, .ref q38, .ref q46, .ref q53, .ref q60, .ref q67, .null, .null, .null, .null, .null, .null, .int 0, .int 0, .int 0, .int 0, .int 0, .null, .null, .null, .null, .null, .null, .null, .null, .int 0, .int 0, .int 0, .int 0, .int 0])), (q8, .inl (cA 0, 160, fm_z 0)), (q17, .inl (cA 0, 160, fm_z 0)), (q24, .inl (cA 0, 4, fm_z 0)), (q31, .inl (cA 0, 4, fm_z 0)), (q38, .inl (cA 0, 4, fm_z 0)), (q46, .inl (cA 0, 24, fm_z 0)), (q53, .inl (cA 0, 4, fm_z 0)), (q60, .inl (cA 3, 4, fm_z 3)), (q67, .inl (cA 1, 4, fm_z 1)), (q74, .inl (cA 2, 4, fm_z 2))]) H _ := h
  refine fm_kput X hin fm_f6_o (ix := 39) (k := 9) rfl rfl (Nat.le_of_ble_eq_true rfl) fmk_D_d76 h (fun H locs h => ?_)
  have h : fm_kw D A s ([(h0, .inr (6, [.ref q8, .ref q17, .ref q24, .ref q31, .ref q38, .ref q46, .ref q53, .ref q60, .ref q67, .ref q74, .null, .null, .null, .null, .null, .int 0, .int 0, .int 0, .int 0, .int 0, .null, .null, .null, .null, .null, .null, .null, .null, .int 0, .int 0, .int 0, .int 0, .int 0])), (q8, .inl (cA 0, 160, fm_z 0)), (q17, .inl (cA 0, 160, fm_z 0)), (q24, .inl (cA 0, 4, fm_z 0)), (q31, .inl (cA 0, 4, fm_z 0)), (q38, .inl (cA 0, 4, fm_z 0)), (q46, .inl (cA 0, 24, fm_z 0)), (q53, .inl (cA 0, 4, fm_z 0)), (q60, .inl (cA 3, 4, fm_z 3)), (q67, .inl (cA 1, 4, fm_z 1)), (q74, .inl (cA 2, 4, fm_z 2))]) H _ := h
  refine lv_aload_n hx hb fmk_D_d79 rfl (lv_at hl 0 rfl) ?_
  refine lv_bipush (v := 24) hx hb fmk_D_d80 (by decide +kernel) ?_
  refine fm_knew X 0 24 (by decide) (by decide) (by decide +kernel) (by decide) (by show 10 + 1 ≤ 23; decide) (by show 372 + 24 ≤ 1184; decide) fmk_D_d82 h (fun q82 H h => ?_)
  have h : fm_kw D A s ([(h0, .inr (6, [.ref q8, .ref q17, .ref q24, .ref q31, .ref q38, .ref q46, .ref q53, .ref q60, .ref q67, .ref q74, .null, .null, .null, .null, .null, .int 0, .int 0, .int 0, .int 0, .int 0, .null, .null, .null, .null, .null, .null, .null, .null, .int 0, .int 0, .int 0, .int 0, .int 0])), (q8, .inl (cA 0, 160, fm_z 0)), (q17, .inl (cA 0, 160, fm_z 0)), (q24, .inl (cA 0, 4, fm_z 0)), (q31, .inl (cA 0, 4, fm_z 0)), (q38, .inl (cA 0, 4, fm_z 0)), (q46, .inl (cA 0, 24, fm_z 0)), (q53, .inl (cA 0, 4, fm_z 0)), (q60, .inl (cA 3, 4, fm_z 3)), (q67, .inl (cA 1, 4, fm_z 1)), (q74, .inl (cA 2, 4, fm_z 2)), (q82, .inl (cA 0, 24, fm_z 0))]) H _ := h
  refine fm_kput X hin fm_f6_o (ix := 43) (k := 10) rfl rfl (Nat.le_of_ble_eq_true rfl) fmk_D_d84 h (fun H locs h => ?_)
  have h : fm_kw D A s ([(h0, .inr (6, [.ref q8, .ref q17, .ref q24, .ref q31, .ref q38, .ref q46, .ref q53, .ref q60, .ref q67, .ref q74, .ref q82, .null, .null, .null, .null, .int 0, .int 0, .int 0, .int 0, .int 0, .null, .null, .null, .null, .null, .null, .null, .null, .int 0, .int 0, .int 0, .int 0, .int 0])), (q8, .inl (cA 0, 160, fm_z 0)), (q17, .inl (cA 0, 160, fm_z 0)), (q24, .inl (cA 0, 4, fm_z 0)), (q31, .inl (cA 0, 4, fm_z 0)), (q38, .inl (cA 0, 4, fm_z 0)), (q46, .inl (cA 0, 24, fm_z 0)), (q53, .inl (cA 0, 4, fm_z 0)), (q60, .inl (cA 3, 4, fm_z 3)), (q67, .inl (cA 1, 4, fm_z 1)), (q74, .inl (cA 2, 4, fm_z 2)), (q82, .inl (cA 0, 24, fm_z 0))]) H _ := h
  refine lv_aload_n hx hb fmk_D_d87 rfl (lv_at hl 0 rfl) ?_
  refine lv_bipush (v := 12) hx hb fmk_D_d88 (by decide +kernel) ?_
  refine fm_knew X 0 12 (by decide) (by decide) (by decide +kernel) (by decide) (by show 11 + 1 ≤ 23; decide) (by show 396 + 12 ≤ 1184; decide) fmk_D_d90 h (fun q90 H h => ?_)
  have h : fm_kw D A s ([(h0, .inr (6, [.ref q8, .ref q17, .ref q24, .ref q31, .ref q38, .ref q46, .ref q53, .ref q60, .ref q67, .ref q74, .ref q82, .null, .null, .null, .null, .int 0, .int 0, .int 0, .int 0, .int 0, .null, .null, .null, .null, .null, .null, .null, .null, .int 0, .int 0, .int 0, .int 0, .int 0])), (q8, .inl (cA 0, 160, fm_z 0)), (q17, .inl (cA 0, 160, fm_z 0)), (q24, .inl (cA 0, 4, fm_z 0)), (q31, .inl (cA 0, 4, fm_z 0)), (q38, .inl (cA 0, 4, fm_z 0)), (q46, .inl (cA 0, 24, fm_z 0)), (q53, .inl (cA 0, 4, fm_z 0)), (q60, .inl (cA 3, 4, fm_z 3)), (q67, .inl (cA 1, 4, fm_z 1)), (q74, .inl (cA 2, 4, fm_z 2)), (q82, .inl (cA 0, 24, fm_z 0)), (q90, .inl (cA 0, 12, fm_z 0))]) H _ := h
  refine fm_kput X hin fm_f6_o (ix := 46) (k := 11) rfl rfl (Nat.le_of_ble_eq_true rfl) fmk_D_d92 h (fun H locs h => ?_)
  have h : fm_kw D A s ([(h0, .inr (6, [.ref q8, .ref q17, .ref q24, .ref q31, .ref q38, .ref q46, .ref q53, .ref q60, .ref q67, .ref q74, .ref q82, .ref q90, .null, .null, .null, .int 0, .int 0, .int 0, .int 0, .int 0, .null, .null, .null, .null, .null, .null, .null, .null, .int 0, .int 0, .int 0, .int 0, .int 0])), (q8, .inl (cA 0, 160, fm_z 0)), (q17, .inl (cA 0, 160, fm_z 0)), (q24, .inl (cA 0, 4, fm_z 0)), (q31, .inl (cA 0, 4, fm_z 0)), (q38, .inl (cA 0, 4, fm_z 0)), (q46, .inl (cA 0, 24, fm_z 0)), (q53, .inl (cA 0, 4, fm_z 0)), (q60, .inl (cA 3, 4, fm_z 3)), (q67, .inl (cA 1, 4, fm_z 1)), (q74, .inl (cA 2, 4, fm_z 2)), (q82, .inl (cA 0, 24, fm_z 0)), (q90, .inl (cA 0, 12, fm_z 0))]) H _ := h
  refine lv_aload_n hx hb fmk_D_d95 rfl (lv_at hl 0 rfl) ?_
  refine lv_bipush (v := 12) hx hb fmk_D_d96 (by decide +kernel) ?_
  refine fm_knew X 0 12 (by decide) (by decide) (by decide +kernel) (by decide) (by show 12 + 1 ≤ 23; decide) (by show 408 + 12 ≤ 1184; decide) fmk_D_d98 h (fun q98 H h => ?_)
  have h : fm_kw D A s ([(h0, .inr (6, [.ref q8, .ref q17, .ref q24, .ref q31, .ref q38, .ref q46, .ref q53, .ref q60, .ref q67, .ref q74, .ref q82, .ref q90, .null, .null, .null, .int 0, .int 0, .int 0, .int 0, .int 0, .null, .null, .null, .null, .null, .null, .null, .null, .int 0, .int 0, .int 0, .int 0, .int 0])), (q8, .inl (cA 0, 160, fm_z 0)), (q17, .inl (cA 0, 160, fm_z 0)), (q24, .inl (cA 0, 4, fm_z 0)), (q31, .inl (cA 0, 4, fm_z 0)), (q38, .inl (cA 0, 4, fm_z 0)), (q46, .inl (cA 0, 24, fm_z 0)), (q53, .inl (cA 0, 4, fm_z 0)), (q60, .inl (cA 3, 4, fm_z 3)), (q67, .inl (cA 1, 4, fm_z 1)), (q74, .inl (cA 2, 4, fm_z 2)), (q82, .inl (cA 0, 24, fm_z 0)), (q90, .inl (cA 0, 12, fm_z 0)), (q98, .inl (cA 0, 12, fm_z 0))]) H _ := h
  refine fm_kput X hin fm_f6_o (ix := 49) (k := 12) rfl rfl (Nat.le_of_ble_eq_true rfl) fmk_D_d100 h (fun H locs h => ?_)
  have h : fm_kw D A s ([(h0, .inr (6, [.ref q8, .ref q17, .ref q24, .ref q31, .ref q38, .ref q46, .ref q53, .ref q60, .ref q67, .ref q74, .ref q82, .ref q90, .ref q98, .null, .null, .int 0, .int 0, .int 0, .int 0, .int 0, .null, .null, .null, .null, .null, .null, .null, .null, .int 0, .int 0, .int 0, .int 0, .int 0])), (q8, .inl (cA 0, 160, fm_z 0)), (q17, .inl (cA 0, 160, fm_z 0)), (q24, .inl (cA 0, 4, fm_z 0)), (q31, .inl (cA 0, 4, fm_z 0)), (q38, .inl (cA 0, 4, fm_z 0)), (q46, .inl (cA 0, 24, fm_z 0)), (q53, .inl (cA 0, 4, fm_z 0)), (q60, .inl (cA 3, 4, fm_z 3)), (q67, .inl (cA 1, 4, fm_z 1)), (q74, .inl (cA 2, 4, fm_z 2)), (q82, .inl (cA 0, 24, fm_z 0)), (q90, .inl (cA 0, 12, fm_z 0)), (q98, .inl (cA 0, 12, fm_z 0))]) H _ := h
  refine lv_aload_n hx hb fmk_D_d103 rfl (lv_at hl 0 rfl) ?_
  refine lv_bipush (v := 12) hx hb fmk_D_d104 (by decide +kernel) ?_
  refine fm_knew X 0 12 (by decide) (by decide) (by decide +kernel) (by decide) (by show 13 + 1 ≤ 23; decide) (by show 420 + 12 ≤ 1184; decide) fmk_D_d106 h (fun q106 H h => ?_)
  have h : fm_kw D A s ([(h0, .inr (6, [.ref q8, .ref q17, .ref q24, .ref q31, .ref q38, .ref q46, .ref q53, .ref q60, .ref q67, .ref q74, .ref q82, .ref q90, .ref q98, .null, .null, .int 0, .int 0, .int 0, .int 0, .int 0, .null, .null, .null, .null, .null, .null, .null, .null, .int 0, .int 0, .int 0, .int 0, .int 0])), (q8, .inl (cA 0, 160, fm_z 0)), (q17, .inl (cA 0, 160, fm_z 0)), (q24, .inl (cA 0, 4, fm_z 0)), (q31, .inl (cA 0, 4, fm_z 0)), (q38, .inl (cA 0, 4, fm_z 0)), (q46, .inl (cA 0, 24, fm_z 0)), (q53, .inl (cA 0, 4, fm_z 0)), (q60, .inl (cA 3, 4, fm_z 3)), (q67, .inl (cA 1, 4, fm_z 1)), (q74, .inl (cA 2, 4, fm_z 2)), (q82, .inl (cA 0, 24, fm_z 0)), (q90, .inl (cA 0, 12, fm_z 0)), (q98, .inl (cA 0, 12, fm_z 0)), (q106, .inl (cA 0, 12, fm_z 0))]) H _ := h
  refine fm_kput X hin fm_f6_o (ix := 52) (k := 13) rfl rfl (Nat.le_of_ble_eq_true rfl) fmk_D_d108 h (fun H locs h => ?_)
  have h : fm_kw D A s ([(h0, .inr (6, [.ref q8, .ref q17, .ref q24, .ref q31, .ref q38, .ref q46, .ref q53, .ref q60, .ref q67, .ref q74, .ref q82, .ref q90, .ref q98, .ref q106, .null, .int 0, .int 0, .int 0, .int 0, .int 0, .null, .null, .null, .null, .null, .null, .null, .null, .int 0, .int 0, .int 0, .int 0, .int 0])), (q8, .inl (cA 0, 160, fm_z 0)), (q17, .inl (cA 0, 160, fm_z 0)), (q24, .inl (cA 0, 4, fm_z 0)), (q31, .inl (cA 0, 4, fm_z 0)), (q38, .inl (cA 0, 4, fm_z 0)), (q46, .inl (cA 0, 24, fm_z 0)), (q53, .inl (cA 0, 4, fm_z 0)), (q60, .inl (cA 3, 4, fm_z 3)), (q67, .inl (cA 1, 4, fm_z 1)), (q74, .inl (cA 2, 4, fm_z 2)), (q82, .inl (cA 0, 24, fm_z 0)), (q90, .inl (cA 0, 12, fm_z 0)), (q98, .inl (cA 0, 12, fm_z 0)), (q106, .inl (cA 0, 12, fm_z 0))]) H _ := h
  refine lv_aload_n hx hb fmk_D_d111 rfl (lv_at hl 0 rfl) ?_
  refine lv_bipush (v := 12) hx hb fmk_D_d112 (by decide +kernel) ?_
  refine fm_knew X 3 12 (by decide) (by decide) (by decide +kernel) (by decide) (by show 14 + 1 ≤ 23; decide) (by show 432 + 12 ≤ 1184; decide) fmk_D_d114 h (fun q114 H h => ?_)
  have h : fm_kw D A s ([(h0, .inr (6, [.ref q8, .ref q17, .ref q24, .ref q31, .ref q38, .ref q46, .ref q53, .ref q60, .ref q67, .ref q74, .ref q82, .ref q90, .ref q98, .ref q106, .null, .int 0, .int 0, .int 0, .int 0, .int 0, .null, .null, .null, .null, .null, .null, .null, .null, .int 0, .int 0, .int 0, .int 0, .int 0])), (q8, .inl (cA 0, 160, fm_z 0)), (q17, .inl (cA 0, 160, fm_z 0)), (q24, .inl (cA 0, 4, fm_z 0)), (q31, .inl (cA 0, 4, fm_z 0)), (q38, .inl (cA 0, 4, fm_z 0)), (q46, .inl (cA 0, 24, fm_z 0)), (q53, .inl (cA 0, 4, fm_z 0)), (q60, .inl (cA 3, 4, fm_z 3)), (q67, .inl (cA 1, 4, fm_z 1)), (q74, .inl (cA 2, 4, fm_z 2)), (q82, .inl (cA 0, 24, fm_z 0)), (q90, .inl (cA 0, 12, fm_z 0)), (q98, .inl (cA 0, 12, fm_z 0)), (q106, .inl (cA 0, 12, fm_z 0)), (q114, .inl (cA 3, 12, fm_z 3))]) H _ := h
  refine fm_kput X hin fm_f6_o (ix := 55) (k := 14) rfl rfl (Nat.le_of_ble_eq_true rfl) fmk_D_d116 h (fun H locs h => ?_)
  have h : fm_kw D A s ([(h0, .inr (6, [.ref q8, .ref q17, .ref q24, .ref q31, .ref q38, .ref q46, .ref q53, .ref q60, .ref q67, .ref q74, .ref q82, .ref q90, .ref q98, .ref q106, .ref q114, .int 0, .int 0, .int 0, .int 0, .int 0, .null, .null, .null, .null, .null, .null, .null, .null, .int 0, .int 0, .int 0, .int 0, .int 0])), (q8, .inl (cA 0, 160, fm_z 0)), (q17, .inl (cA 0, 160, fm_z 0)), (q24, .inl (cA 0, 4, fm_z 0)), (q31, .inl (cA 0, 4, fm_z 0)), (q38, .inl (cA 0, 4, fm_z 0)), (q46, .inl (cA 0, 24, fm_z 0)), (q53, .inl (cA 0, 4, fm_z 0)), (q60, .inl (cA 3, 4, fm_z 3)), (q67, .inl (cA 1, 4, fm_z 1)), (q74, .inl (cA 2, 4, fm_z 2)), (q82, .inl (cA 0, 24, fm_z 0)), (q90, .inl (cA 0, 12, fm_z 0)), (q98, .inl (cA 0, 12, fm_z 0)), (q106, .inl (cA 0, 12, fm_z 0)), (q114, .inl (cA 3, 12, fm_z 3))]) H _ := h
  refine lv_aload_n hx hb fmk_D_d119 rfl (lv_at hl 0 rfl) ?_
  refine lv_sipush (v := 260) hx hb fmk_D_d120 (by decide +kernel) ?_
  refine fm_knew X 1 260 (by decide) (by decide) (by decide +kernel) (by decide) (by show 15 + 1 ≤ 23; decide) (by show 444 + 260 ≤ 1184; decide) fmk_D_d123 h (fun q123 H h => ?_)
  have h : fm_kw D A s ([(h0, .inr (6, [.ref q8, .ref q17, .ref q24, .ref q31, .ref q38, .ref q46, .ref q53, .ref q60, .ref q67, .ref q74, .ref q82, .ref q90, .ref q98, .ref q106, .ref q114, .int 0, .int 0, .int 0, .int 0, .int 0, .null, .null, .null, .null, .null, .null, .null, .null, .int 0, .int 0, .int 0, .int 0, .int 0])), (q8, .inl (cA 0, 160, fm_z 0)), (q17, .inl (cA 0, 160, fm_z 0)), (q24, .inl (cA 0, 4, fm_z 0)), (q31, .inl (cA 0, 4, fm_z 0)), (q38, .inl (cA 0, 4, fm_z 0)), (q46, .inl (cA 0, 24, fm_z 0)), (q53, .inl (cA 0, 4, fm_z 0)), (q60, .inl (cA 3, 4, fm_z 3)), (q67, .inl (cA 1, 4, fm_z 1)), (q74, .inl (cA 2, 4, fm_z 2)), (q82, .inl (cA 0, 24, fm_z 0)), (q90, .inl (cA 0, 12, fm_z 0)), (q98, .inl (cA 0, 12, fm_z 0)), (q106, .inl (cA 0, 12, fm_z 0)), (q114, .inl (cA 3, 12, fm_z 3)), (q123, .inl (cA 1, 260, fm_z 1))]) H _ := h
  refine fm_kput X hin fm_f6_o (ix := 58) (k := 20) rfl rfl (Nat.le_of_ble_eq_true rfl) fmk_D_d125 h (fun H locs h => ?_)
  have h : fm_kw D A s ([(h0, .inr (6, [.ref q8, .ref q17, .ref q24, .ref q31, .ref q38, .ref q46, .ref q53, .ref q60, .ref q67, .ref q74, .ref q82, .ref q90, .ref q98, .ref q106, .ref q114, .int 0, .int 0, .int 0, .int 0, .int 0, .ref q123, .null, .null, .null, .null, .null, .null, .null, .int 0, .int 0, .int 0, .int 0, .int 0])), (q8, .inl (cA 0, 160, fm_z 0)), (q17, .inl (cA 0, 160, fm_z 0)), (q24, .inl (cA 0, 4, fm_z 0)), (q31, .inl (cA 0, 4, fm_z 0)), (q38, .inl (cA 0, 4, fm_z 0)), (q46, .inl (cA 0, 24, fm_z 0)), (q53, .inl (cA 0, 4, fm_z 0)), (q60, .inl (cA 3, 4, fm_z 3)), (q67, .inl (cA 1, 4, fm_z 1)), (q74, .inl (cA 2, 4, fm_z 2)), (q82, .inl (cA 0, 24, fm_z 0)), (q90, .inl (cA 0, 12, fm_z 0)), (q98, .inl (cA 0, 12, fm_z 0)), (q106, .inl (cA 0, 12, fm_z 0)), (q114, .inl (cA 3, 12, fm_z 3)), (q123, .inl (cA 1, 260, fm_z 1))]) H _ := h
  refine lv_aload_n hx hb fmk_D_d128 rfl (lv_at hl 0 rfl) ?_
  refine lv_sipush (v := 260) hx hb fmk_D_d129 (by decide +kernel) ?_
  refine fm_knew X 2 260 (by decide) (by decide) (by decide +kernel) (by decide) (by show 16 + 1 ≤ 23; decide) (by show 704 + 260 ≤ 1184; decide) fmk_D_d132 h (fun q132 H h => ?_)
  have h : fm_kw D A s ([(h0, .inr (6, [.ref q8, .ref q17, .ref q24, .ref q31, .ref q38, .ref q46, .ref q53, .ref q60, .ref q67, .ref q74, .ref q82, .ref q90, .ref q98, .ref q106, .ref q114, .int 0, .int 0, .int 0, .int 0, .int 0, .ref q123, .null, .null, .null, .null, .null, .null, .null, .int 0, .int 0, .int 0, .int 0, .int 0])), (q8, .inl (cA 0, 160, fm_z 0)), (q17, .inl (cA 0, 160, fm_z 0)), (q24, .inl (cA 0, 4, fm_z 0)), (q31, .inl (cA 0, 4, fm_z 0)), (q38, .inl (cA 0, 4, fm_z 0)), (q46, .inl (cA 0, 24, fm_z 0)), (q53, .inl (cA 0, 4, fm_z 0)), (q60, .inl (cA 3, 4, fm_z 3)), (q67, .inl (cA 1, 4, fm_z 1)), (q74, .inl (cA 2, 4, fm_z 2)), (q82, .inl (cA 0, 24, fm_z 0)), (q90, .inl (cA 0, 12, fm_z 0)), (q98, .inl (cA 0, 12, fm_z 0)), (q106, .inl (cA 0, 12, fm_z 0)), (q114, .inl (cA 3, 12, fm_z 3)), (q123, .inl (cA 1, 260, fm_z 1)), (q132, .inl (cA 2, 260, fm_z 2))]) H _ := h
  refine fm_kput X hin fm_f6_o (ix := 61) (k := 21) rfl rfl (Nat.le_of_ble_eq_true rfl) fmk_D_d134 h (fun H locs h => ?_)
  have h : fm_kw D A s ([(h0, .inr (6, [.ref q8, .ref q17, .ref q24, .ref q31, .ref q38, .ref q46, .ref q53, .ref q60, .ref q67, .ref q74, .ref q82, .ref q90, .ref q98, .ref q106, .ref q114, .int 0, .int 0, .int 0, .int 0, .int 0, .ref q123, .ref q132, .null, .null, .null, .null, .null, .null, .int 0, .int 0, .int 0, .int 0, .int 0])), (q8, .inl (cA 0, 160, fm_z 0)), (q17, .inl (cA 0, 160, fm_z 0)), (q24, .inl (cA 0, 4, fm_z 0)), (q31, .inl (cA 0, 4, fm_z 0)), (q38, .inl (cA 0, 4, fm_z 0)), (q46, .inl (cA 0, 24, fm_z 0)), (q53, .inl (cA 0, 4, fm_z 0)), (q60, .inl (cA 3, 4, fm_z 3)), (q67, .inl (cA 1, 4, fm_z 1)), (q74, .inl (cA 2, 4, fm_z 2)), (q82, .inl (cA 0, 24, fm_z 0)), (q90, .inl (cA 0, 12, fm_z 0)), (q98, .inl (cA 0, 12, fm_z 0)), (q106, .inl (cA 0, 12, fm_z 0)), (q114, .inl (cA 3, 12, fm_z 3)), (q123, .inl (cA 1, 260, fm_z 1)), (q132, .inl (cA 2, 260, fm_z 2))]) H _ := h
  refine lv_aload_n hx hb fmk_D_d137 rfl (lv_at hl 0 rfl) ?_
  refine lv_bipush (v := 10) hx hb fmk_D_d138 (by decide +kernel) ?_
  refine fm_knew X 0 10 (by decide) (by decide) (by decide +kernel) (by decide) (by show 17 + 1 ≤ 23; decide) (by show 964 + 10 ≤ 1184; decide) fmk_D_d140 h (fun q140 H h => ?_)
  have h : fm_kw D A s ([(h0, .inr (6, [.ref q8, .ref q17, .ref q24, .ref q31, .ref q38, .ref q46, .ref q53, .ref q60, .ref q67, .ref q74, .ref q82, .ref q90, .ref q98, .ref q106, .ref q114, .int 0, .int 0, .int 0, .int 0, .int 0, .ref q123, .ref q132, .null, .null, .null, .null, .null, .null, .int 0, .int 0, .int 0, .int 0, .int 0])), (q8, .inl (cA 0, 160, fm_z 0)), (q17, .inl (cA 0, 160, fm_z 0)), (q24, .inl (cA 0, 4, fm_z 0)), (q31, .inl (cA 0, 4, fm_z 0)), (q38, .inl (cA 0, 4, fm_z 0)), (q46, .inl (cA 0, 24, fm_z 0)), (q53, .inl (cA 0, 4, fm_z 0)), (q60, .inl (cA 3, 4, fm_z 3)), (q67, .inl (cA 1, 4, fm_z 1)), (q74, .inl (cA 2, 4, fm_z 2)), (q82, .inl (cA 0, 24, fm_z 0)), (q90, .inl (cA 0, 12, fm_z 0)), (q98, .inl (cA 0, 12, fm_z 0)), (q106, .inl (cA 0, 12, fm_z 0)), (q114, .inl (cA 3, 12, fm_z 3)), (q123, .inl (cA 1, 260, fm_z 1)), (q132, .inl (cA 2, 260, fm_z 2)), (q140, .inl (cA 0, 10, fm_z 0))]) H _ := h
  refine fm_kput X hin fm_f6_o (ix := 64) (k := 22) rfl rfl (Nat.le_of_ble_eq_true rfl) fmk_D_d142 h (fun H locs h => ?_)
  have h : fm_kw D A s ([(h0, .inr (6, [.ref q8, .ref q17, .ref q24, .ref q31, .ref q38, .ref q46, .ref q53, .ref q60, .ref q67, .ref q74, .ref q82, .ref q90, .ref q98, .ref q106, .ref q114, .int 0, .int 0, .int 0, .int 0, .int 0, .ref q123, .ref q132, .ref q140, .null, .null, .null, .null, .null, .int 0, .int 0, .int 0, .int 0, .int 0])), (q8, .inl (cA 0, 160, fm_z 0)), (q17, .inl (cA 0, 160, fm_z 0)), (q24, .inl (cA 0, 4, fm_z 0)), (q31, .inl (cA 0, 4, fm_z 0)), (q38, .inl (cA 0, 4, fm_z 0)), (q46, .inl (cA 0, 24, fm_z 0)), (q53, .inl (cA 0, 4, fm_z 0)), (q60, .inl (cA 3, 4, fm_z 3)), (q67, .inl (cA 1, 4, fm_z 1)), (q74, .inl (cA 2, 4, fm_z 2)), (q82, .inl (cA 0, 24, fm_z 0)), (q90, .inl (cA 0, 12, fm_z 0)), (q98, .inl (cA 0, 12, fm_z 0)), (q106, .inl (cA 0, 12, fm_z 0)), (q114, .inl (cA 3, 12, fm_z 3)), (q123, .inl (cA 1, 260, fm_z 1)), (q132, .inl (cA 2, 260, fm_z 2)), (q140, .inl (cA 0, 10, fm_z 0))]) H _ := h
  refine lv_aload_n hx hb fmk_D_d145 rfl (lv_at hl 0 rfl) ?_
  refine lv_bipush (v := 10) hx hb fmk_D_d146 (by decide +kernel) ?_
  refine fm_knew X 0 10 (by decide) (by decide) (by decide +kernel) (by decide) (by show 18 + 1 ≤ 23; decide) (by show 974 + 10 ≤ 1184; decide) fmk_D_d148 h (fun q148 H h => ?_)
  have h : fm_kw D A s ([(h0, .inr (6, [.ref q8, .ref q17, .ref q24, .ref q31, .ref q38, .ref q46, .ref q53, .ref q60, .ref q67, .ref q74, .ref q82, .ref q90, .ref q98, .ref q106, .ref q114, .int 0, .int 0, .int 0, .int 0, .int 0, .ref q123, .ref q132, .ref q140, .null, .null, .null, .null, .null, .int 0, .int 0, .int 0, .int 0, .int 0])), (q8, .inl (cA 0, 160, fm_z 0)), (q17, .inl (cA 0, 160, fm_z 0)), (q24, .inl (cA 0, 4, fm_z 0)), (q31, .inl (cA 0, 4, fm_z 0)), (q38, .inl (cA 0, 4, fm_z 0)), (q46, .inl (cA 0, 24, fm_z 0)), (q53, .inl (cA 0, 4, fm_z 0)), (q60, .inl (cA 3, 4, fm_z 3)), (q67, .inl (cA 1, 4, fm_z 1)), (q74, .inl (cA 2, 4, fm_z 2)), (q82, .inl (cA 0, 24, fm_z 0)), (q90, .inl (cA 0, 12, fm_z 0)), (q98, .inl (cA 0, 12, fm_z 0)), (q106, .inl (cA 0, 12, fm_z 0)), (q114, .inl (cA 3, 12, fm_z 3)), (q123, .inl (cA 1, 260, fm_z 1)), (q132, .inl (cA 2, 260, fm_z 2)), (q140, .inl (cA 0, 10, fm_z 0)), (q148, .inl (cA 0, 10, fm_z 0))]) H _ := h
  refine fm_kput X hin fm_f6_o (ix := 67) (k := 23) rfl rfl (Nat.le_of_ble_eq_true rfl) fmk_D_d150 h (fun H locs h => ?_)
  have h : fm_kw D A s ([(h0, .inr (6, [.ref q8, .ref q17, .ref q24, .ref q31, .ref q38, .ref q46, .ref q53, .ref q60, .ref q67, .ref q74, .ref q82, .ref q90, .ref q98, .ref q106, .ref q114, .int 0, .int 0, .int 0, .int 0, .int 0, .ref q123, .ref q132, .ref q140, .ref q148, .null, .null, .null, .null, .int 0, .int 0, .int 0, .int 0, .int 0])), (q8, .inl (cA 0, 160, fm_z 0)), (q17, .inl (cA 0, 160, fm_z 0)), (q24, .inl (cA 0, 4, fm_z 0)), (q31, .inl (cA 0, 4, fm_z 0)), (q38, .inl (cA 0, 4, fm_z 0)), (q46, .inl (cA 0, 24, fm_z 0)), (q53, .inl (cA 0, 4, fm_z 0)), (q60, .inl (cA 3, 4, fm_z 3)), (q67, .inl (cA 1, 4, fm_z 1)), (q74, .inl (cA 2, 4, fm_z 2)), (q82, .inl (cA 0, 24, fm_z 0)), (q90, .inl (cA 0, 12, fm_z 0)), (q98, .inl (cA 0, 12, fm_z 0)), (q106, .inl (cA 0, 12, fm_z 0)), (q114, .inl (cA 3, 12, fm_z 3)), (q123, .inl (cA 1, 260, fm_z 1)), (q132, .inl (cA 2, 260, fm_z 2)), (q140, .inl (cA 0, 10, fm_z 0)), (q148, .inl (cA 0, 10, fm_z 0))]) H _ := h
  refine lv_aload_n hx hb fmk_D_d153 rfl (lv_at hl 0 rfl) ?_
  refine lv_bipush (v := 10) hx hb fmk_D_d154 (by decide +kernel) ?_
  refine fm_knew X 0 10 (by decide) (by decide) (by decide +kernel) (by decide) (by show 19 + 1 ≤ 23; decide) (by show 984 + 10 ≤ 1184; decide) fmk_D_d156 h (fun q156 H h => ?_)
  have h : fm_kw D A s ([(h0, .inr (6, [.ref q8, .ref q17, .ref q24, .ref q31, .ref q38, .ref q46, .ref q53, .ref q60, .ref q67, .ref q74, .ref q82, .ref q90, .ref q98, .ref q106, .ref q114, .int 0, .int 0, .int 0, .int 0, .int 0, .ref q123, .ref q132, .ref q140, .ref q148, .null, .null, .null, .null, .int 0, .int 0, .int 0, .int 0, .int 0])), (q8, .inl (cA 0, 160, fm_z 0)), (q17, .inl (cA 0, 160, fm_z 0)), (q24, .inl (cA 0, 4, fm_z 0)), (q31, .inl (cA 0, 4, fm_z 0)), (q38, .inl (cA 0, 4, fm_z 0)), (q46, .inl (cA 0, 24, fm_z 0)), (q53, .inl (cA 0, 4, fm_z 0)), (q60, .inl (cA 3, 4, fm_z 3)), (q67, .inl (cA 1, 4, fm_z 1)), (q74, .inl (cA 2, 4, fm_z 2)), (q82, .inl (cA 0, 24, fm_z 0)), (q90, .inl (cA 0, 12, fm_z 0)), (q98, .inl (cA 0, 12, fm_z 0)), (q106, .inl (cA 0, 12, fm_z 0)), (q114, .inl (cA 3, 12, fm_z 3)), (q123, .inl (cA 1, 260, fm_z 1)), (q132, .inl (cA 2, 260, fm_z 2)), (q140, .inl (cA 0, 10, fm_z 0)), (q148, .inl (cA 0, 10, fm_z 0)), (q156, .inl (cA 0, 10, fm_z 0))]) H _ := h
  refine fm_kput X hin fm_f6_o (ix := 70) (k := 24) rfl rfl (Nat.le_of_ble_eq_true rfl) fmk_D_d158 h (fun H locs h => ?_)
  have h : fm_kw D A s ([(h0, .inr (6, [.ref q8, .ref q17, .ref q24, .ref q31, .ref q38, .ref q46, .ref q53, .ref q60, .ref q67, .ref q74, .ref q82, .ref q90, .ref q98, .ref q106, .ref q114, .int 0, .int 0, .int 0, .int 0, .int 0, .ref q123, .ref q132, .ref q140, .ref q148, .ref q156, .null, .null, .null, .int 0, .int 0, .int 0, .int 0, .int 0])), (q8, .inl (cA 0, 160, fm_z 0)), (q17, .inl (cA 0, 160, fm_z 0)), (q24, .inl (cA 0, 4, fm_z 0)), (q31, .inl (cA 0, 4, fm_z 0)), (q38, .inl (cA 0, 4, fm_z 0)), (q46, .inl (cA 0, 24, fm_z 0)), (q53, .inl (cA 0, 4, fm_z 0)), (q60, .inl (cA 3, 4, fm_z 3)), (q67, .inl (cA 1, 4, fm_z 1)), (q74, .inl (cA 2, 4, fm_z 2)), (q82, .inl (cA 0, 24, fm_z 0)), (q90, .inl (cA 0, 12, fm_z 0)), (q98, .inl (cA 0, 12, fm_z 0)), (q106, .inl (cA 0, 12, fm_z 0)), (q114, .inl (cA 3, 12, fm_z 3)), (q123, .inl (cA 1, 260, fm_z 1)), (q132, .inl (cA 2, 260, fm_z 2)), (q140, .inl (cA 0, 10, fm_z 0)), (q148, .inl (cA 0, 10, fm_z 0)), (q156, .inl (cA 0, 10, fm_z 0))]) H _ := h
  refine lv_aload_n hx hb fmk_D_d161 rfl (lv_at hl 0 rfl) ?_
  refine lv_bipush (v := 90) hx hb fmk_D_d162 (by decide +kernel) ?_
  refine fm_knew X 0 90 (by decide) (by decide) (by decide +kernel) (by decide) (by show 20 + 1 ≤ 23; decide) (by show 994 + 90 ≤ 1184; decide) fmk_D_d164 h (fun q164 H h => ?_)
  have h : fm_kw D A s ([(h0, .inr (6, [.ref q8, .ref q17, .ref q24, .ref q31, .ref q38, .ref q46, .ref q53, .ref q60, .ref q67, .ref q74, .ref q82, .ref q90, .ref q98, .ref q106, .ref q114, .int 0, .int 0, .int 0, .int 0, .int 0, .ref q123, .ref q132, .ref q140, .ref q148, .ref q156, .null, .null, .null, .int 0, .int 0, .int 0, .int 0, .int 0])), (q8, .inl (cA 0, 160, fm_z 0)), (q17, .inl (cA 0, 160, fm_z 0)), (q24, .inl (cA 0, 4, fm_z 0)), (q31, .inl (cA 0, 4, fm_z 0)), (q38, .inl (cA 0, 4, fm_z 0)), (q46, .inl (cA 0, 24, fm_z 0)), (q53, .inl (cA 0, 4, fm_z 0)), (q60, .inl (cA 3, 4, fm_z 3)), (q67, .inl (cA 1, 4, fm_z 1)), (q74, .inl (cA 2, 4, fm_z 2)), (q82, .inl (cA 0, 24, fm_z 0)), (q90, .inl (cA 0, 12, fm_z 0)), (q98, .inl (cA 0, 12, fm_z 0)), (q106, .inl (cA 0, 12, fm_z 0)), (q114, .inl (cA 3, 12, fm_z 3)), (q123, .inl (cA 1, 260, fm_z 1)), (q132, .inl (cA 2, 260, fm_z 2)), (q140, .inl (cA 0, 10, fm_z 0)), (q148, .inl (cA 0, 10, fm_z 0)), (q156, .inl (cA 0, 10, fm_z 0)), (q164, .inl (cA 0, 90, fm_z 0))]) H _ := h
  refine fm_kput X hin fm_f6_o (ix := 73) (k := 25) rfl rfl (Nat.le_of_ble_eq_true rfl) fmk_D_d166 h (fun H locs h => ?_)
  have h : fm_kw D A s ([(h0, .inr (6, [.ref q8, .ref q17, .ref q24, .ref q31, .ref q38, .ref q46, .ref q53, .ref q60, .ref q67, .ref q74, .ref q82, .ref q90, .ref q98, .ref q106, .ref q114, .int 0, .int 0, .int 0, .int 0, .int 0, .ref q123, .ref q132, .ref q140, .ref q148, .ref q156, .ref q164, .null, .null, .int 0, .int 0, .int 0, .int 0, .int 0])), (q8, .inl (cA 0, 160, fm_z 0)), (q17, .inl (cA 0, 160, fm_z 0)), (q24, .inl (cA 0, 4, fm_z 0)), (q31, .inl (cA 0, 4, fm_z 0)), (q38, .inl (cA 0, 4, fm_z 0)), (q46, .inl (cA 0, 24, fm_z 0)), (q53, .inl (cA 0, 4, fm_z 0)), (q60, .inl (cA 3, 4, fm_z 3)), (q67, .inl (cA 1, 4, fm_z 1)), (q74, .inl (cA 2, 4, fm_z 2)), (q82, .inl (cA 0, 24, fm_z 0)), (q90, .inl (cA 0, 12, fm_z 0)), (q98, .inl (cA 0, 12, fm_z 0)), (q106, .inl (cA 0, 12, fm_z 0)), (q114, .inl (cA 3, 12, fm_z 3)), (q123, .inl (cA 1, 260, fm_z 1)), (q132, .inl (cA 2, 260, fm_z 2)), (q140, .inl (cA 0, 10, fm_z 0)), (q148, .inl (cA 0, 10, fm_z 0)), (q156, .inl (cA 0, 10, fm_z 0)), (q164, .inl (cA 0, 90, fm_z 0))]) H _ := h
  refine lv_aload_n hx hb fmk_D_d169 rfl (lv_at hl 0 rfl) ?_
  refine lv_bipush (v := 90) hx hb fmk_D_d170 (by decide +kernel) ?_
  refine fm_knew X 0 90 (by decide) (by decide) (by decide +kernel) (by decide) (by show 21 + 1 ≤ 23; decide) (by show 1084 + 90 ≤ 1184; decide) fmk_D_d172 h (fun q172 H h => ?_)
  have h : fm_kw D A s ([(h0, .inr (6, [.ref q8, .ref q17, .ref q24, .ref q31, .ref q38, .ref q46, .ref q53, .ref q60, .ref q67, .ref q74, .ref q82, .ref q90, .ref q98, .ref q106, .ref q114, .int 0, .int 0, .int 0, .int 0, .int 0, .ref q123, .ref q132, .ref q140, .ref q148, .ref q156, .ref q164, .null, .null, .int 0, .int 0, .int 0, .int 0, .int 0])), (q8, .inl (cA 0, 160, fm_z 0)), (q17, .inl (cA 0, 160, fm_z 0)), (q24, .inl (cA 0, 4, fm_z 0)), (q31, .inl (cA 0, 4, fm_z 0)), (q38, .inl (cA 0, 4, fm_z 0)), (q46, .inl (cA 0, 24, fm_z 0)), (q53, .inl (cA 0, 4, fm_z 0)), (q60, .inl (cA 3, 4, fm_z 3)), (q67, .inl (cA 1, 4, fm_z 1)), (q74, .inl (cA 2, 4, fm_z 2)), (q82, .inl (cA 0, 24, fm_z 0)), (q90, .inl (cA 0, 12, fm_z 0)), (q98, .inl (cA 0, 12, fm_z 0)), (q106, .inl (cA 0, 12, fm_z 0)), (q114, .inl (cA 3, 12, fm_z 3)), (q123, .inl (cA 1, 260, fm_z 1)), (q132, .inl (cA 2, 260, fm_z 2)), (q140, .inl (cA 0, 10, fm_z 0)), (q148, .inl (cA 0, 10, fm_z 0)), (q156, .inl (cA 0, 10, fm_z 0)), (q164, .inl (cA 0, 90, fm_z 0)), (q172, .inl (cA 0, 90, fm_z 0))]) H _ := h
  refine fm_kput X hin fm_f6_o (ix := 76) (k := 26) rfl rfl (Nat.le_of_ble_eq_true rfl) fmk_D_d174 h (fun H locs h => ?_)
  have h : fm_kw D A s ([(h0, .inr (6, [.ref q8, .ref q17, .ref q24, .ref q31, .ref q38, .ref q46, .ref q53, .ref q60, .ref q67, .ref q74, .ref q82, .ref q90, .ref q98, .ref q106, .ref q114, .int 0, .int 0, .int 0, .int 0, .int 0, .ref q123, .ref q132, .ref q140, .ref q148, .ref q156, .ref q164, .ref q172, .null, .int 0, .int 0, .int 0, .int 0, .int 0])), (q8, .inl (cA 0, 160, fm_z 0)), (q17, .inl (cA 0, 160, fm_z 0)), (q24, .inl (cA 0, 4, fm_z 0)), (q31, .inl (cA 0, 4, fm_z 0)), (q38, .inl (cA 0, 4, fm_z 0)), (q46, .inl (cA 0, 24, fm_z 0)), (q53, .inl (cA 0, 4, fm_z 0)), (q60, .inl (cA 3, 4, fm_z 3)), (q67, .inl (cA 1, 4, fm_z 1)), (q74, .inl (cA 2, 4, fm_z 2)), (q82, .inl (cA 0, 24, fm_z 0)), (q90, .inl (cA 0, 12, fm_z 0)), (q98, .inl (cA 0, 12, fm_z 0)), (q106, .inl (cA 0, 12, fm_z 0)), (q114, .inl (cA 3, 12, fm_z 3)), (q123, .inl (cA 1, 260, fm_z 1)), (q132, .inl (cA 2, 260, fm_z 2)), (q140, .inl (cA 0, 10, fm_z 0)), (q148, .inl (cA 0, 10, fm_z 0)), (q156, .inl (cA 0, 10, fm_z 0)), (q164, .inl (cA 0, 90, fm_z 0)), (q172, .inl (cA 0, 90, fm_z 0))]) H _ := h
  refine lv_aload_n hx hb fmk_D_d177 rfl (lv_at hl 0 rfl) ?_
  refine lv_bipush (v := 10) hx hb fmk_D_d178 (by decide +kernel) ?_
  refine fm_knew X 0 10 (by decide) (by decide) (by decide +kernel) (by decide) (by show 22 + 1 ≤ 23; decide) (by show 1174 + 10 ≤ 1184; decide) fmk_D_d180 h (fun q180 H h => ?_)
  have h : fm_kw D A s ([(h0, .inr (6, [.ref q8, .ref q17, .ref q24, .ref q31, .ref q38, .ref q46, .ref q53, .ref q60, .ref q67, .ref q74, .ref q82, .ref q90, .ref q98, .ref q106, .ref q114, .int 0, .int 0, .int 0, .int 0, .int 0, .ref q123, .ref q132, .ref q140, .ref q148, .ref q156, .ref q164, .ref q172, .null, .int 0, .int 0, .int 0, .int 0, .int 0])), (q8, .inl (cA 0, 160, fm_z 0)), (q17, .inl (cA 0, 160, fm_z 0)), (q24, .inl (cA 0, 4, fm_z 0)), (q31, .inl (cA 0, 4, fm_z 0)), (q38, .inl (cA 0, 4, fm_z 0)), (q46, .inl (cA 0, 24, fm_z 0)), (q53, .inl (cA 0, 4, fm_z 0)), (q60, .inl (cA 3, 4, fm_z 3)), (q67, .inl (cA 1, 4, fm_z 1)), (q74, .inl (cA 2, 4, fm_z 2)), (q82, .inl (cA 0, 24, fm_z 0)), (q90, .inl (cA 0, 12, fm_z 0)), (q98, .inl (cA 0, 12, fm_z 0)), (q106, .inl (cA 0, 12, fm_z 0)), (q114, .inl (cA 3, 12, fm_z 3)), (q123, .inl (cA 1, 260, fm_z 1)), (q132, .inl (cA 2, 260, fm_z 2)), (q140, .inl (cA 0, 10, fm_z 0)), (q148, .inl (cA 0, 10, fm_z 0)), (q156, .inl (cA 0, 10, fm_z 0)), (q164, .inl (cA 0, 90, fm_z 0)), (q172, .inl (cA 0, 90, fm_z 0)), (q180, .inl (cA 0, 10, fm_z 0))]) H _ := h
  refine fm_kput X hin fm_f6_o (ix := 79) (k := 27) rfl rfl (Nat.le_of_ble_eq_true rfl) fmk_D_d182 h (fun H locs h => ?_)
  have h : fm_kw D A s ([(h0, .inr (6, [.ref q8, .ref q17, .ref q24, .ref q31, .ref q38, .ref q46, .ref q53, .ref q60, .ref q67, .ref q74, .ref q82, .ref q90, .ref q98, .ref q106, .ref q114, .int 0, .int 0, .int 0, .int 0, .int 0, .ref q123, .ref q132, .ref q140, .ref q148, .ref q156, .ref q164, .ref q172, .ref q180, .int 0, .int 0, .int 0, .int 0, .int 0])), (q8, .inl (cA 0, 160, fm_z 0)), (q17, .inl (cA 0, 160, fm_z 0)), (q24, .inl (cA 0, 4, fm_z 0)), (q31, .inl (cA 0, 4, fm_z 0)), (q38, .inl (cA 0, 4, fm_z 0)), (q46, .inl (cA 0, 24, fm_z 0)), (q53, .inl (cA 0, 4, fm_z 0)), (q60, .inl (cA 3, 4, fm_z 3)), (q67, .inl (cA 1, 4, fm_z 1)), (q74, .inl (cA 2, 4, fm_z 2)), (q82, .inl (cA 0, 24, fm_z 0)), (q90, .inl (cA 0, 12, fm_z 0)), (q98, .inl (cA 0, 12, fm_z 0)), (q106, .inl (cA 0, 12, fm_z 0)), (q114, .inl (cA 3, 12, fm_z 3)), (q123, .inl (cA 1, 260, fm_z 1)), (q132, .inl (cA 2, 260, fm_z 2)), (q140, .inl (cA 0, 10, fm_z 0)), (q148, .inl (cA 0, 10, fm_z 0)), (q156, .inl (cA 0, 10, fm_z 0)), (q164, .inl (cA 0, 90, fm_z 0)), (q172, .inl (cA 0, 90, fm_z 0)), (q180, .inl (cA 0, 10, fm_z 0))]) H _ := h
  exact fm_kret X hr [q8, q17, q24, q31, q38, q46, q53, q60, q67, q74, q82, q90, q98, q106, q114, q123, q132, q140, q148, q156, q164, q172, q180] h (by show 23 ≤ 23; decide) (by show 1184 ≤ 1184; decide) fmk_D_d185
def fmk_C_y : MethodName := ⟨"FlatModule$Checker", "<init>", "()V"⟩
set_option maxRecDepth 100000 in
theorem fmk_C_cw : Cond.code fmk_C_y prog_3_method_1_code 2 none ∈ fm_TB := fm_tb (List.mem_of_getElem? (i := 31) rfl) rfl
theorem fmk_C_iw : Cond.instantiable (fm_cn 1) (fm_nf 1) ∈ fm_TB := (fm_tb (List.mem_of_getElem? (i := 28) (by decide +kernel)) rfl)
theorem fmk_C_nw : Cond.initialized (fm_cn 1) ∈ fm_TB := (fm_tb (List.mem_of_getElem? (i := 2) (by decide +kernel)) rfl)
theorem fmk_C_mw : Cond.instanceMethod fmk_C_y ∈ fm_TB := (fm_tb (List.mem_of_getElem? (i := 30) (by decide +kernel)) rfl)
theorem fmk_C_d0 : decode prog_3_method_1_code 0 = .ok (.aload_n 0, 1) := by decide +kernel
theorem fmk_C_d1 : decode prog_3_method_1_code 1 = .ok (.invokespecial 3, 3) := by decide +kernel
theorem fmk_C_d4 : decode prog_3_method_1_code 4 = .ok (.aload_n 0, 1) := by decide +kernel
theorem fmk_C_d5 : decode prog_3_method_1_code 5 = .ok (.iconst 0, 1) := by decide +kernel
theorem fmk_C_d6 : decode prog_3_method_1_code 6 = .ok (.anewarray 9, 3) := by decide +kernel
theorem fmk_C_d9 : decode prog_3_method_1_code 9 = .ok (.putfield 11, 3) := by decide +kernel
theorem fmk_C_d12 : decode prog_3_method_1_code 12 = .ok (.aload_n 0, 1) := by decide +kernel
theorem fmk_C_d13 : decode prog_3_method_1_code 13 = .ok (.bipush 20, 2) := by decide +kernel
theorem fmk_C_d15 : decode prog_3_method_1_code 15 = .ok (.newarray .int, 2) := by decide +kernel
theorem fmk_C_d17 : decode prog_3_method_1_code 17 = .ok (.putfield 17, 3) := by decide +kernel
theorem fmk_C_d20 : decode prog_3_method_1_code 20 = .ok (.aload_n 0, 1) := by decide +kernel
theorem fmk_C_d21 : decode prog_3_method_1_code 21 = .ok (.bipush 9, 2) := by decide +kernel
theorem fmk_C_d23 : decode prog_3_method_1_code 23 = .ok (.anewarray 21, 3) := by decide +kernel
theorem fmk_C_d26 : decode prog_3_method_1_code 26 = .ok (.putfield 23, 3) := by decide +kernel
theorem fmk_C_d29 : decode prog_3_method_1_code 29 = .ok (.iconst 0, 1) := by decide +kernel
theorem fmk_C_d30 : decode prog_3_method_1_code 30 = .ok (.istore_n 1, 1) := by decide +kernel
theorem fmk_C_d31 : decode prog_3_method_1_code 31 = .ok (.iload_n 1, 1) := by decide +kernel
theorem fmk_C_d32 : decode prog_3_method_1_code 32 = .ok (.bipush 8, 2) := by decide +kernel
theorem fmk_C_d34 : decode prog_3_method_1_code 34 = .ok (.if_icmp .gt 22, 3) := by decide +kernel
theorem fmk_C_d37 : decode prog_3_method_1_code 37 = .ok (.aload_n 0, 1) := by decide +kernel
theorem fmk_C_d38 : decode prog_3_method_1_code 38 = .ok (.getfield 23, 3) := by decide +kernel
theorem fmk_C_d41 : decode prog_3_method_1_code 41 = .ok (.iload_n 1, 1) := by decide +kernel
theorem fmk_C_d42 : decode prog_3_method_1_code 42 = .ok (.new 21, 3) := by decide +kernel
theorem fmk_C_d45 : decode prog_3_method_1_code 45 = .ok (.dup, 1) := by decide +kernel
theorem fmk_C_d46 : decode prog_3_method_1_code 46 = .ok (.invokespecial 27, 3) := by decide +kernel
theorem fmk_C_d49 : decode prog_3_method_1_code 49 = .ok (.aastore, 1) := by decide +kernel
theorem fmk_C_d50 : decode prog_3_method_1_code 50 = .ok (.iinc 1 1, 3) := by decide +kernel
theorem fmk_C_d53 : decode prog_3_method_1_code 53 = .ok (.goto (-22), 3) := by decide +kernel
theorem fmk_C_d56 : decode prog_3_method_1_code 56 = .ok (.return_, 1) := by decide +kernel
def fmk_C_w (cA : Nat → ClassId) (z0 h0 : Nat) (u : List Nat) : va_W := [(h0, .inr (1, [.ref (u.getD 0 0), .int 0, .int 0, .ref (u.getD 1 0), .int 0, .ref (u.getD 2 0), .int 0])), (u.getD 0 0, .inl (cA 4, 0, .inr (.inr (.inr (.inr (fun _ => some z0)))))), (u.getD 1 0, .inl (cA 0, 20, fm_z 0)), (u.getD 2 0, .inl (cA 5, 9, .inr (.inr (.inr (.inr (fun j => some (u.getD (3 + j) 0))))))), (u.getD 3 0, .inr (3, fm_df 3)), (u.getD 4 0, .inr (3, fm_df 3)), (u.getD 5 0, .inr (3, fm_df 3)), (u.getD 6 0, .inr (3, fm_df 3)), (u.getD 7 0, .inr (3, fm_df 3)), (u.getD 8 0, .inr (3, fm_df 3)), (u.getD 9 0, .inr (3, fm_df 3)), (u.getD 10 0, .inr (3, fm_df 3)), (u.getD 11 0, .inr (3, fm_df 3))]
set_option maxHeartbeats 4000000 in
set_option maxRecDepth 100000 in
theorem fmk_C (l : Launch) (D : va_G) (cA : Nat → ClassId) (z0 : Nat) : fm_Kc l D cA fmk_C_y prog_3_method_1_code 2 1 (fmk_C_w cA z0) 2 12 92 := by
  refine fm_kM (by decide +kernel) rfl rfl (by decide) ?_
  intro p e s m below meth c A h0 ls X hin hr h hl
  have hx := X.1
  have hb := X.2.1
  have h : fm_kw D A s ([(h0, .inr (1, [.null, .int 0, .int 0, .null, .int 0, .null, .int 0]))]) s.heap [] := h
  refine lv_aload_n hx hb fmk_C_d0 rfl (lv_at hl 0 rfl) ?_
  refine fm_kobj X (fm_tb (List.mem_of_getElem? (i := 32) (by decide +kernel)) rfl) hl.1 fmk_C_d1 (by show 1 ≤ 2; decide) (by show 41 ≤ 41 * 2; decide) ?_
  refine lv_aload_n hx hb fmk_C_d4 rfl (lv_at hl 0 rfl) ?_
  refine lv_iconst (v := 0) hx hb fmk_C_d5 (by decide +kernel) ?_
  refine fm_knq X 4 0 (by decide) (fm_tb (List.mem_of_getElem? (i := 33) (by decide +kernel)) rfl) (by decide) (by decide +kernel) (by decide) (by show 0 + 1 ≤ 12; decide) (by show 0 + 0 ≤ 92; decide) fmk_C_d6 h (fun q6 H h => ?_)
  have h : fm_kw D A s ([(h0, .inr (1, [.null, .int 0, .int 0, .null, .int 0, .null, .int 0])), (q6, .inl (cA 4, 0, .inr (.inr (.inr (.inr (fun _ => none))))))]) H _ := h
  refine fm_kput X hin fm_f1_o (ix := 11) (k := 0) rfl rfl (Nat.le_of_ble_eq_true rfl) fmk_C_d9 h (fun H locs h => ?_)
  have h : fm_kw D A s ([(h0, .inr (1, [.ref q6, .int 0, .int 0, .null, .int 0, .null, .int 0])), (q6, .inl (cA 4, 0, .inr (.inr (.inr (.inr (fun _ => none))))))]) H _ := h
  refine lv_aload_n hx hb fmk_C_d12 rfl (lv_at hl 0 rfl) ?_
  refine lv_bipush (v := 20) hx hb fmk_C_d13 (by decide +kernel) ?_
  refine fm_knew X 0 20 (by decide) (by decide) (by decide +kernel) (by decide) (by show 1 + 1 ≤ 12; decide) (by show 0 + 20 ≤ 92; decide) fmk_C_d15 h (fun q15 H h => ?_)
  have h : fm_kw D A s ([(h0, .inr (1, [.ref q6, .int 0, .int 0, .null, .int 0, .null, .int 0])), (q6, .inl (cA 4, 0, .inr (.inr (.inr (.inr (fun _ => none)))))), (q15, .inl (cA 0, 20, fm_z 0))]) H _ := h
  refine fm_kput X hin fm_f1_o (ix := 17) (k := 3) rfl rfl (Nat.le_of_ble_eq_true rfl) fmk_C_d17 h (fun H locs h => ?_)
  have h : fm_kw D A s ([(h0, .inr (1, [.ref q6, .int 0, .int 0, .ref q15, .int 0, .null, .int 0])), (q6, .inl (cA 4, 0, .inr (.inr (.inr (.inr (fun _ => none)))))), (q15, .inl (cA 0, 20, fm_z 0))]) H _ := h
  refine lv_aload_n hx hb fmk_C_d20 rfl (lv_at hl 0 rfl) ?_
  refine lv_bipush (v := 9) hx hb fmk_C_d21 (by decide +kernel) ?_
  refine fm_knq X 5 9 (by decide) (fm_tb (List.mem_of_getElem? (i := 34) (by decide +kernel)) rfl) (by decide) (by decide +kernel) (by decide) (by show 2 + 1 ≤ 12; decide) (by show 20 + 9 ≤ 92; decide) fmk_C_d23 h (fun q23 H h => ?_)
  have h : fm_kw D A s ([(h0, .inr (1, [.ref q6, .int 0, .int 0, .ref q15, .int 0, .null, .int 0])), (q6, .inl (cA 4, 0, .inr (.inr (.inr (.inr (fun _ => none)))))), (q15, .inl (cA 0, 20, fm_z 0)), (q23, .inl (cA 5, 9, .inr (.inr (.inr (.inr (fun _ => none))))))]) H _ := h
  refine fm_kput X hin fm_f1_o (ix := 23) (k := 5) rfl rfl (Nat.le_of_ble_eq_true rfl) fmk_C_d26 h (fun H locs h => ?_)
  have h : fm_kw D A s ([(h0, .inr (1, [.ref q6, .int 0, .int 0, .ref q15, .int 0, .ref q23, .int 0])), (q6, .inl (cA 4, 0, .inr (.inr (.inr (.inr (fun _ => none)))))), (q15, .inl (cA 0, 20, fm_z 0)), (q23, .inl (cA 5, 9, .inr (.inr (.inr (.inr (fun _ => none))))))]) H _ := h
  refine lv_iconst (v := 0) hx hb fmk_C_d29 (by decide +kernel) ?_
  refine lv_istore_n hx hb fmk_C_d30 rfl hl (by decide) rfl (fun ls hl => ?_)
  have hl : lv_has ls 2 [(1, .int 0), (0, .ref h0)] := hl
  refine lv_iload_n hx hb fmk_C_d31 rfl (lv_at hl 0 rfl) ?_
  refine lv_bipush (v := 8) hx hb fmk_C_d32 (by decide +kernel) ?_
  refine lv_icmp_gt (tgt := 56) hx hb fmk_C_d34 (by decide) (fun z => absurd z (by decide)) (fun _ => ?_)
  refine lv_aload_n hx hb fmk_C_d37 rfl (lv_at hl 1 rfl) ?_
  refine fm_kget X fm_f1_o (ix := 23) (k := 5) rfl rfl fmk_C_d38 h ?_
  refine lv_iload_n hx hb fmk_C_d41 rfl (lv_at hl 0 rfl) ?_
  refine fm_knc X (fmk_R l D cA) (by decide) rfl fmk_R_cw (fm_tb (List.mem_of_getElem? (i := 34) (by decide +kernel)) rfl) fmk_R_iw fmk_R_nw (Or.inr X.2.2.2.2.2.2.2.1.1) fmk_R_mw (by decide) ⟨by decide +kernel, by decide +kernel⟩ hl.1 (Nat.le_of_ble_eq_true rfl) (by show 1 + 1 ≤ 2; decide) (by show 41 * (1 + 1) ≤ 41 * 2; decide) (by show 3 + 1 + 0 ≤ 12; decide) (by show 29 + 7 + 0 ≤ 92; decide) fmk_C_d42 fmk_C_d45 fmk_C_d46 h (fun q42_0 u42_0 H locs h => ?_)
  have h : fm_kw D A s ([(h0, .inr (1, [.ref q6, .int 0, .int 0, .ref q15, .int 0, .ref q23, .int 0])), (q6, .inl (cA 4, 0, .inr (.inr (.inr (.inr (fun _ => none)))))), (q15, .inl (cA 0, 20, fm_z 0)), (q23, .inl (cA 5, 9, .inr (.inr (.inr (.inr (fun _ => none)))))), (q42_0, .inr (3, fm_df 3))]) H _ := h
  refine fm_kast X 5 (by decide) (q0 := 3) (qk := 4) (ci := 3) rfl rfl rfl (by unfold vp_in; decide +kernel) fmk_C_d49 h (fun H locs h => ?_)
  have h : fm_kw D A s ([(h0, .inr (1, [.ref q6, .int 0, .int 0, .ref q15, .int 0, .ref q23, .int 0])), (q6, .inl (cA 4, 0, .inr (.inr (.inr (.inr (fun _ => none)))))), (q15, .inl (cA 0, 20, fm_z 0)), (q23, .inl (cA 5, 9, .inr (.inr (.inr (.inr (va_up (fun _ => none) 0 (some q42_0))))))), (q42_0, .inr (3, fm_df 3))]) H _ := h
  refine lv_iinc (k := 0) (v := 1) hx hb fmk_C_d50 hl rfl (by decide +kernel) (by decide) rfl (fun ls hl => ?_)
  have hl : lv_has ls 2 [(1, .int 1), (0, .ref h0)] := hl
  refine lv_goto (tgt := 31) hx hb fmk_C_d53 (by decide) ?_
  refine lv_iload_n hx hb fmk_C_d31 rfl (lv_at hl 0 rfl) ?_
  refine lv_bipush (v := 8) hx hb fmk_C_d32 (by decide +kernel) ?_
  refine lv_icmp_gt (tgt := 56) hx hb fmk_C_d34 (by decide) (fun z => absurd z (by decide)) (fun _ => ?_)
  refine lv_aload_n hx hb fmk_C_d37 rfl (lv_at hl 1 rfl) ?_
  refine fm_kget X fm_f1_o (ix := 23) (k := 5) rfl rfl fmk_C_d38 h ?_
  refine lv_iload_n hx hb fmk_C_d41 rfl (lv_at hl 0 rfl) ?_
  refine fm_knc X (fmk_R l D cA) (by decide) rfl fmk_R_cw (fm_tb (List.mem_of_getElem? (i := 34) (by decide +kernel)) rfl) fmk_R_iw fmk_R_nw (Or.inr X.2.2.2.2.2.2.2.1.1) fmk_R_mw (by decide) ⟨by decide +kernel, by decide +kernel⟩ hl.1 (Nat.le_of_ble_eq_true rfl) (by show 1 + 1 ≤ 2; decide) (by show 41 * (1 + 1) ≤ 41 * 2; decide) (by show 4 + 1 + 0 ≤ 12; decide) (by show 36 + 7 + 0 ≤ 92; decide) fmk_C_d42 fmk_C_d45 fmk_C_d46 h (fun q42_1 u42_1 H locs h => ?_)
  have h : fm_kw D A s ([(h0, .inr (1, [.ref q6, .int 0, .int 0, .ref q15, .int 0, .ref q23, .int 0])), (q6, .inl (cA 4, 0, .inr (.inr (.inr (.inr (fun _ => none)))))), (q15, .inl (cA 0, 20, fm_z 0)), (q23, .inl (cA 5, 9, .inr (.inr (.inr (.inr (va_up (fun _ => none) 0 (some q42_0))))))), (q42_0, .inr (3, fm_df 3)), (q42_1, .inr (3, fm_df 3))]) H _ := h
  refine fm_kast X 5 (by decide) (q0 := 3) (qk := 5) (ci := 3) rfl rfl rfl (by unfold vp_in; decide +kernel) fmk_C_d49 h (fun H locs h => ?_)
  have h : fm_kw D A s ([(h0, .inr (1, [.ref q6, .int 0, .int 0, .ref q15, .int 0, .ref q23, .int 0])), (q6, .inl (cA 4, 0, .inr (.inr (.inr (.inr (fun _ => none)))))), (q15, .inl (cA 0, 20, fm_z 0)), (q23, .inl (cA 5, 9, .inr (.inr (.inr (.inr (va_up (va_up (fun _ => none) 0 (some q42_0)) 1 (some q42_1))))))), (q42_0, .inr (3, fm_df 3)), (q42_1, .inr (3, fm_df 3))]) H _ := h
  refine lv_iinc (k := 0) (v := 2) hx hb fmk_C_d50 hl rfl (by decide +kernel) (by decide) rfl (fun ls hl => ?_)
  have hl : lv_has ls 2 [(1, .int 2), (0, .ref h0)] := hl
  refine lv_goto (tgt := 31) hx hb fmk_C_d53 (by decide) ?_
  refine lv_iload_n hx hb fmk_C_d31 rfl (lv_at hl 0 rfl) ?_
  refine lv_bipush (v := 8) hx hb fmk_C_d32 (by decide +kernel) ?_
  refine lv_icmp_gt (tgt := 56) hx hb fmk_C_d34 (by decide) (fun z => absurd z (by decide)) (fun _ => ?_)
  refine lv_aload_n hx hb fmk_C_d37 rfl (lv_at hl 1 rfl) ?_
  refine fm_kget X fm_f1_o (ix := 23) (k := 5) rfl rfl fmk_C_d38 h ?_
  refine lv_iload_n hx hb fmk_C_d41 rfl (lv_at hl 0 rfl) ?_
  refine fm_knc X (fmk_R l D cA) (by decide) rfl fmk_R_cw (fm_tb (List.mem_of_getElem? (i := 34) (by decide +kernel)) rfl) fmk_R_iw fmk_R_nw (Or.inr X.2.2.2.2.2.2.2.1.1) fmk_R_mw (by decide) ⟨by decide +kernel, by decide +kernel⟩ hl.1 (Nat.le_of_ble_eq_true rfl) (by show 1 + 1 ≤ 2; decide) (by show 41 * (1 + 1) ≤ 41 * 2; decide) (by show 5 + 1 + 0 ≤ 12; decide) (by show 43 + 7 + 0 ≤ 92; decide) fmk_C_d42 fmk_C_d45 fmk_C_d46 h (fun q42_2 u42_2 H locs h => ?_)
  have h : fm_kw D A s ([(h0, .inr (1, [.ref q6, .int 0, .int 0, .ref q15, .int 0, .ref q23, .int 0])), (q6, .inl (cA 4, 0, .inr (.inr (.inr (.inr (fun _ => none)))))), (q15, .inl (cA 0, 20, fm_z 0)), (q23, .inl (cA 5, 9, .inr (.inr (.inr (.inr (va_up (va_up (fun _ => none) 0 (some q42_0)) 1 (some q42_1))))))), (q42_0, .inr (3, fm_df 3)), (q42_1, .inr (3, fm_df 3)), (q42_2, .inr (3, fm_df 3))]) H _ := h
  refine fm_kast X 5 (by decide) (q0 := 3) (qk := 6) (ci := 3) rfl rfl rfl (by unfold vp_in; decide +kernel) fmk_C_d49 h (fun H locs h => ?_)
  have h : fm_kw D A s ([(h0, .inr (1, [.ref q6, .int 0, .int 0, .ref q15, .int 0, .ref q23, .int 0])), (q6, .inl (cA 4, 0, .inr (.inr (.inr (.inr (fun _ => none)))))), (q15, .inl (cA 0, 20, fm_z 0)), (q23, .inl (cA 5, 9, .inr (.inr (.inr (.inr (va_up (va_up (va_up (fun _ => none) 0 (some q42_0)) 1 (some q42_1)) 2 (some q42_2))))))), (q42_0, .inr (3, fm_df 3)), (q42_1, .inr (3, fm_df 3)), (q42_2, .inr (3, fm_df 3))]) H _ := h
  refine lv_iinc (k := 0) (v := 3) hx hb fmk_C_d50 hl rfl (by decide +kernel) (by decide) rfl (fun ls hl => ?_)
  have hl : lv_has ls 2 [(1, .int 3), (0, .ref h0)] := hl
  refine lv_goto (tgt := 31) hx hb fmk_C_d53 (by decide) ?_
  refine lv_iload_n hx hb fmk_C_d31 rfl (lv_at hl 0 rfl) ?_
  refine lv_bipush (v := 8) hx hb fmk_C_d32 (by decide +kernel) ?_
  refine lv_icmp_gt (tgt := 56) hx hb fmk_C_d34 (by decide) (fun z => absurd z (by decide)) (fun _ => ?_)
  refine lv_aload_n hx hb fmk_C_d37 rfl (lv_at hl 1 rfl) ?_
  refine fm_kget X fm_f1_o (ix := 23) (k := 5) rfl rfl fmk_C_d38 h ?_
  refine lv_iload_n hx hb fmk_C_d41 rfl (lv_at hl 0 rfl) ?_
  refine fm_knc X (fmk_R l D cA) (by decide) rfl fmk_R_cw (fm_tb (List.mem_of_getElem? (i := 34) (by decide +kernel)) rfl) fmk_R_iw fmk_R_nw (Or.inr X.2.2.2.2.2.2.2.1.1) fmk_R_mw (by decide) ⟨by decide +kernel, by decide +kernel⟩ hl.1 (Nat.le_of_ble_eq_true rfl) (by show 1 + 1 ≤ 2; decide) (by show 41 * (1 + 1) ≤ 41 * 2; decide) (by show 6 + 1 + 0 ≤ 12; decide) (by show 50 + 7 + 0 ≤ 92; decide) fmk_C_d42 fmk_C_d45 fmk_C_d46 h (fun q42_3 u42_3 H locs h => ?_)
  have h : fm_kw D A s ([(h0, .inr (1, [.ref q6, .int 0, .int 0, .ref q15, .int 0, .ref q23, .int 0])), (q6, .inl (cA 4, 0, .inr (.inr (.inr (.inr (fun _ => none)))))), (q15, .inl (cA 0, 20, fm_z 0)), (q23, .inl (cA 5, 9, .inr (.inr (.inr (.inr (va_up (va_up (va_up (fun _ => none) 0 (some q42_0)) 1 (some q42_1)) 2 (some q42_2))))))), (q42_0, .inr (3, fm_df 3)), (q42_1, .inr (3, fm_df 3)), (q42_2, .inr (3, fm_df 3)), (q42_3, .inr (3, fm_df 3))]) H _ := h
  refine fm_kast X 5 (by decide) (q0 := 3) (qk := 7) (ci := 3) rfl rfl rfl (by unfold vp_in; decide +kernel) fmk_C_d49 h (fun H locs h => ?_)
  have h : fm_kw D A s ([(h0, .inr (1, [.ref q6, .int 0, .int 0, .ref q15, .int 0, .ref q23, .int 0])), (q6, .inl (cA 4, 0, .inr (.inr (.inr (.inr (fun _ => none)))))), (q15, .inl (cA 0, 20, fm_z 0)), (q23, .inl (cA 5, 9, .inr (.inr (.inr (.inr (va_up (va_up (va_up (va_up (fun _ => none) 0 (some q42_0)) 1 (some q42_1)) 2 (some q42_2)) 3 (some q42_3))))))), (q42_0, .inr (3, fm_df 3)), (q42_1, .inr (3, fm_df 3)), (q42_2, .inr (3, fm_df 3)), (q42_3, .inr (3, fm_df 3))]) H _ := h
  refine lv_iinc (k := 0) (v := 4) hx hb fmk_C_d50 hl rfl (by decide +kernel) (by decide) rfl (fun ls hl => ?_)
  have hl : lv_has ls 2 [(1, .int 4), (0, .ref h0)] := hl
  refine lv_goto (tgt := 31) hx hb fmk_C_d53 (by decide) ?_
  refine lv_iload_n hx hb fmk_C_d31 rfl (lv_at hl 0 rfl) ?_
  refine lv_bipush (v := 8) hx hb fmk_C_d32 (by decide +kernel) ?_
  refine lv_icmp_gt (tgt := 56) hx hb fmk_C_d34 (by decide) (fun z => absurd z (by decide)) (fun _ => ?_)
  refine lv_aload_n hx hb fmk_C_d37 rfl (lv_at hl 1 rfl) ?_
  refine fm_kget X fm_f1_o (ix := 23) (k := 5) rfl rfl fmk_C_d38 h ?_
  refine lv_iload_n hx hb fmk_C_d41 rfl (lv_at hl 0 rfl) ?_
  refine fm_knc X (fmk_R l D cA) (by decide) rfl fmk_R_cw (fm_tb (List.mem_of_getElem? (i := 34) (by decide +kernel)) rfl) fmk_R_iw fmk_R_nw (Or.inr X.2.2.2.2.2.2.2.1.1) fmk_R_mw (by decide) ⟨by decide +kernel, by decide +kernel⟩ hl.1 (Nat.le_of_ble_eq_true rfl) (by show 1 + 1 ≤ 2; decide) (by show 41 * (1 + 1) ≤ 41 * 2; decide) (by show 7 + 1 + 0 ≤ 12; decide) (by show 57 + 7 + 0 ≤ 92; decide) fmk_C_d42 fmk_C_d45 fmk_C_d46 h (fun q42_4 u42_4 H locs h => ?_)
  have h : fm_kw D A s ([(h0, .inr (1, [.ref q6, .int 0, .int 0, .ref q15, .int 0, .ref q23, .int 0])), (q6, .inl (cA 4, 0, .inr (.inr (.inr (.inr (fun _ => none)))))), (q15, .inl (cA 0, 20, fm_z 0)), (q23, .inl (cA 5, 9, .inr (.inr (.inr (.inr (va_up (va_up (va_up (va_up (fun _ => none) 0 (some q42_0)) 1 (some q42_1)) 2 (some q42_2)) 3 (some q42_3))))))), (q42_0, .inr (3, fm_df 3)), (q42_1, .inr (3, fm_df 3)), (q42_2, .inr (3, fm_df 3)), (q42_3, .inr (3, fm_df 3)), (q42_4, .inr (3, fm_df 3))]) H _ := h
  refine fm_kast X 5 (by decide) (q0 := 3) (qk := 8) (ci := 3) rfl rfl rfl (by unfold vp_in; decide +kernel) fmk_C_d49 h (fun H locs h => ?_)
  have h : fm_kw D A s ([(h0, .inr (1, [.ref q6, .int 0, .int 0, .ref q15, .int 0, .ref q23, .int 0])), (q6, .inl (cA 4, 0, .inr (.inr (.inr (.inr (fun _ => none)))))), (q15, .inl (cA 0, 20, fm_z 0)), (q23, .inl (cA 5, 9, .inr (.inr (.inr (.inr (va_up (va_up (va_up (va_up (va_up (fun _ => none) 0 (some q42_0)) 1 (some q42_1)) 2 (some q42_2)) 3 (some q42_3)) 4 (some q42_4))))))), (q42_0, .inr (3, fm_df 3)), (q42_1, .inr (3, fm_df 3)), (q42_2, .inr (3, fm_df 3)), (q42_3, .inr (3, fm_df 3)), (q42_4, .inr (3, fm_df 3))]) H _ := h
  refine lv_iinc (k := 0) (v := 5) hx hb fmk_C_d50 hl rfl (by decide +kernel) (by decide) rfl (fun ls hl => ?_)
  have hl : lv_has ls 2 [(1, .int 5), (0, .ref h0)] := hl
  refine lv_goto (tgt := 31) hx hb fmk_C_d53 (by decide) ?_
  refine lv_iload_n hx hb fmk_C_d31 rfl (lv_at hl 0 rfl) ?_
  refine lv_bipush (v := 8) hx hb fmk_C_d32 (by decide +kernel) ?_
  refine lv_icmp_gt (tgt := 56) hx hb fmk_C_d34 (by decide) (fun z => absurd z (by decide)) (fun _ => ?_)
  refine lv_aload_n hx hb fmk_C_d37 rfl (lv_at hl 1 rfl) ?_
  refine fm_kget X fm_f1_o (ix := 23) (k := 5) rfl rfl fmk_C_d38 h ?_
  refine lv_iload_n hx hb fmk_C_d41 rfl (lv_at hl 0 rfl) ?_
  refine fm_knc X (fmk_R l D cA) (by decide) rfl fmk_R_cw (fm_tb (List.mem_of_getElem? (i := 34) (by decide +kernel)) rfl) fmk_R_iw fmk_R_nw (Or.inr X.2.2.2.2.2.2.2.1.1) fmk_R_mw (by decide) ⟨by decide +kernel, by decide +kernel⟩ hl.1 (Nat.le_of_ble_eq_true rfl) (by show 1 + 1 ≤ 2; decide) (by show 41 * (1 + 1) ≤ 41 * 2; decide) (by show 8 + 1 + 0 ≤ 12; decide) (by show 64 + 7 + 0 ≤ 92; decide) fmk_C_d42 fmk_C_d45 fmk_C_d46 h (fun q42_5 u42_5 H locs h => ?_)
  have h : fm_kw D A s ([(h0, .inr (1, [.ref q6, .int 0, .int 0, .ref q15, .int 0, .ref q23, .int 0])), (q6, .inl (cA 4, 0, .inr (.inr (.inr (.inr (fun _ => none)))))), (q15, .inl (cA 0, 20, fm_z 0)), (q23, .inl (cA 5, 9, .inr (.inr (.inr (.inr (va_up (va_up (va_up (va_up (va_up (fun _ => none) 0 (some q42_0)) 1 (some q42_1)) 2 (some q42_2)) 3 (some q42_3)) 4 (some q42_4))))))), (q42_0, .inr (3, fm_df 3)), (q42_1, .inr (3, fm_df 3)), (q42_2, .inr (3, fm_df 3)), (q42_3, .inr (3, fm_df 3)), (q42_4, .inr (3, fm_df 3)), (q42_5, .inr (3, fm_df 3))]) H _ := h
  refine fm_kast X 5 (by decide) (q0 := 3) (qk := 9) (ci := 3) rfl rfl rfl (by unfold vp_in; decide +kernel) fmk_C_d49 h (fun H locs h => ?_)
  have h : fm_kw D A s ([(h0, .inr (1, [.ref q6, .int 0, .int 0, .ref q15, .int 0, .ref q23, .int 0])), (q6, .inl (cA 4, 0, .inr (.inr (.inr (.inr (fun _ => none)))))), (q15, .inl (cA 0, 20, fm_z 0)), (q23, .inl (cA 5, 9, .inr (.inr (.inr (.inr (va_up (va_up (va_up (va_up (va_up (va_up (fun _ => none) 0 (some q42_0)) 1 (some q42_1)) 2 (some q42_2)) 3 (some q42_3)) 4 (some q42_4)) 5 (some q42_5))))))), (q42_0, .inr (3, fm_df 3)), (q42_1, .inr (3, fm_df 3)), (q42_2, .inr (3, fm_df 3)), (q42_3, .inr (3, fm_df 3)), (q42_4, .inr (3, fm_df 3)), (q42_5, .inr (3, fm_df 3))]) H _ := h
  refine lv_iinc (k := 0) (v := 6) hx hb fmk_C_d50 hl rfl (by decide +kernel) (by decide) rfl (fun ls hl => ?_)
  have hl : lv_has ls 2 [(1, .int 6), (0, .ref h0)] := hl
  refine lv_goto (tgt := 31) hx hb fmk_C_d53 (by decide) ?_
  refine lv_iload_n hx hb fmk_C_d31 rfl (lv_at hl 0 rfl) ?_
  refine lv_bipush (v := 8) hx hb fmk_C_d32 (by decide +kernel) ?_
  refine lv_icmp_gt (tgt := 56) hx hb fmk_C_d34 (by decide) (fun z => absurd z (by decide)) (fun _ => ?_)
  refine lv_aload_n hx hb fmk_C_d37 rfl (lv_at hl 1 rfl) ?_
  refine fm_kget X fm_f1_o (ix := 23) (k := 5) rfl rfl fmk_C_d38 h ?_
  refine lv_iload_n hx hb fmk_C_d41 rfl (lv_at hl 0 rfl) ?_
  refine fm_knc X (fmk_R l D cA) (by decide) rfl fmk_R_cw (fm_tb (List.mem_of_getElem? (i := 34) (by decide +kernel)) rfl) fmk_R_iw fmk_R_nw (Or.inr X.2.2.2.2.2.2.2.1.1) fmk_R_mw (by decide) ⟨by decide +kernel, by decide +kernel⟩ hl.1 (Nat.le_of_ble_eq_true rfl) (by show 1 + 1 ≤ 2; decide) (by show 41 * (1 + 1) ≤ 41 * 2; decide) (by show 9 + 1 + 0 ≤ 12; decide) (by show 71 + 7 + 0 ≤ 92; decide) fmk_C_d42 fmk_C_d45 fmk_C_d46 h (fun q42_6 u42_6 H locs h => ?_)
  have h : fm_kw D A s ([(h0, .inr (1, [.ref q6, .int 0, .int 0, .ref q15, .int 0, .ref q23, .int 0])), (q6, .inl (cA 4, 0, .inr (.inr (.inr (.inr (fun _ => none)))))), (q15, .inl (cA 0, 20, fm_z 0)), (q23, .inl (cA 5, 9, .inr (.inr (.inr (.inr (va_up (va_up (va_up (va_up (va_up (va_up (fun _ => none) 0 (some q42_0)) 1 (some q42_1)) 2 (some q42_2)) 3 (some q42_3)) 4 (some q42_4)) 5 (some q42_5))))))), (q42_0, .inr (3, fm_df 3)), (q42_1, .inr (3, fm_df 3)), (q42_2, .inr (3, fm_df 3)), (q42_3, .inr (3, fm_df 3)), (q42_4, .inr (3, fm_df 3)), (q42_5, .inr (3, fm_df 3)), (q42_6, .inr (3, fm_df 3))]) H _ := h
  refine fm_kast X 5 (by decide) (q0 := 3) (qk := 10) (ci := 3) rfl rfl rfl (by unfold vp_in; decide +kernel) fmk_C_d49 h (fun H locs h => ?_)
  have h : fm_kw D A s ([(h0, .inr (1, [.ref q6, .int 0, .int 0, .ref q15, .int 0, .ref q23, .int 0])), (q6, .inl (cA 4, 0, .inr (.inr (.inr (.inr (fun _ => none)))))), (q15, .inl (cA 0, 20, fm_z 0)), (q23, .inl (cA 5, 9, .inr (.inr (.inr (.inr (va_up (va_up (va_up (va_up (va_up (va_up (va_up (fun _ => none) 0 (some q42_0)) 1 (some q42_1)) 2 (some q42_2)) 3 (some q42_3)) 4 (some q42_4)) 5 (some q42_5)) 6 (some q42_6))))))), (q42_0, .inr (3, fm_df 3)), (q42_1, .inr (3, fm_df 3)), (q42_2, .inr (3, fm_df 3)), (q42_3, .inr (3, fm_df 3)), (q42_4, .inr (3, fm_df 3)), (q42_5, .inr (3, fm_df 3)), (q42_6, .inr (3, fm_df 3))]) H _ := h
  refine lv_iinc (k := 0) (v := 7) hx hb fmk_C_d50 hl rfl (by decide +kernel) (by decide) rfl (fun ls hl => ?_)
  have hl : lv_has ls 2 [(1, .int 7), (0, .ref h0)] := hl
  refine lv_goto (tgt := 31) hx hb fmk_C_d53 (by decide) ?_
  refine lv_iload_n hx hb fmk_C_d31 rfl (lv_at hl 0 rfl) ?_
  refine lv_bipush (v := 8) hx hb fmk_C_d32 (by decide +kernel) ?_
  refine lv_icmp_gt (tgt := 56) hx hb fmk_C_d34 (by decide) (fun z => absurd z (by decide)) (fun _ => ?_)
  refine lv_aload_n hx hb fmk_C_d37 rfl (lv_at hl 1 rfl) ?_
  refine fm_kget X fm_f1_o (ix := 23) (k := 5) rfl rfl fmk_C_d38 h ?_
  refine lv_iload_n hx hb fmk_C_d41 rfl (lv_at hl 0 rfl) ?_
  refine fm_knc X (fmk_R l D cA) (by decide) rfl fmk_R_cw (fm_tb (List.mem_of_getElem? (i := 34) (by decide +kernel)) rfl) fmk_R_iw fmk_R_nw (Or.inr X.2.2.2.2.2.2.2.1.1) fmk_R_mw (by decide) ⟨by decide +kernel, by decide +kernel⟩ hl.1 (Nat.le_of_ble_eq_true rfl) (by show 1 + 1 ≤ 2; decide) (by show 41 * (1 + 1) ≤ 41 * 2; decide) (by show 10 + 1 + 0 ≤ 12; decide) (by show 78 + 7 + 0 ≤ 92; decide) fmk_C_d42 fmk_C_d45 fmk_C_d46 h (fun q42_7 u42_7 H locs h => ?_)
  have h : fm_kw D A s ([(h0, .inr (1, [.ref q6, .int 0, .int 0, .ref q15, .int 0, .ref q23, .int 0])), (q6, .inl (cA 4, 0, .inr (.inr (.inr (.inr (fun _ => none)))))), (q15, .inl (cA 0, 20, fm_z 0)), (q23, .inl (cA 5, 9, .inr (.inr (.inr (.inr (va_up (va_up (va_up (va_up (va_up (va_up (va_up (fun _ => none) 0 (some q42_0)) 1 (some q42_1)) 2 (some q42_2)) 3 (some q42_3)) 4 (some q42_4)) 5 (some q42_5)) 6 (some q42_6))))))), (q42_0, .inr (3, fm_df 3)), (q42_1, .inr (3, fm_df 3)), (q42_2, .inr (3, fm_df 3)), (q42_3, .inr (3, fm_df 3)), (q42_4, .inr (3, fm_df 3)), (q42_5, .inr (3, fm_df 3)), (q42_6, .inr (3, fm_df 3)), (q42_7, .inr (3, fm_df 3))]) H _ := h
  refine fm_kast X 5 (by decide) (q0 := 3) (qk := 11) (ci := 3) rfl rfl rfl (by unfold vp_in; decide +kernel) fmk_C_d49 h (fun H locs h => ?_)
  have h : fm_kw D A s ([(h0, .inr (1, [.ref q6, .int 0, .int 0, .ref q15, .int 0, .ref q23, .int 0])), (q6, .inl (cA 4, 0, .inr (.inr (.inr (.inr (fun _ => none)))))), (q15, .inl (cA 0, 20, fm_z 0)), (q23, .inl (cA 5, 9, .inr (.inr (.inr (.inr (va_up (va_up (va_up (va_up (va_up (va_up (va_up (va_up (fun _ => none) 0 (some q42_0)) 1 (some q42_1)) 2 (some q42_2)) 3 (some q42_3)) 4 (some q42_4)) 5 (some q42_5)) 6 (some q42_6)) 7 (some q42_7))))))), (q42_0, .inr (3, fm_df 3)), (q42_1, .inr (3, fm_df 3)), (q42_2, .inr (3, fm_df 3)), (q42_3, .inr (3, fm_df 3)), (q42_4, .inr (3, fm_df 3)), (q42_5, .inr (3, fm_df 3)), (q42_6, .inr (3, fm_df 3)), (q42_7, .inr (3, fm_df 3))]) H _ := h
  refine lv_iinc (k := 0) (v := 8) hx hb fmk_C_d50 hl rfl (by decide +kernel) (by decide) rfl (fun ls hl => ?_)
  have hl : lv_has ls 2 [(1, .int 8), (0, .ref h0)] := hl
  refine lv_goto (tgt := 31) hx hb fmk_C_d53 (by decide) ?_
  refine lv_iload_n hx hb fmk_C_d31 rfl (lv_at hl 0 rfl) ?_
  refine lv_bipush (v := 8) hx hb fmk_C_d32 (by decide +kernel) ?_
  refine lv_icmp_gt (tgt := 56) hx hb fmk_C_d34 (by decide) (fun z => absurd z (by decide)) (fun _ => ?_)
  refine lv_aload_n hx hb fmk_C_d37 rfl (lv_at hl 1 rfl) ?_
  refine fm_kget X fm_f1_o (ix := 23) (k := 5) rfl rfl fmk_C_d38 h ?_
  refine lv_iload_n hx hb fmk_C_d41 rfl (lv_at hl 0 rfl) ?_
  refine fm_knc X (fmk_R l D cA) (by decide) rfl fmk_R_cw (fm_tb (List.mem_of_getElem? (i := 34) (by decide +kernel)) rfl) fmk_R_iw fmk_R_nw (Or.inr X.2.2.2.2.2.2.2.1.1) fmk_R_mw (by decide) ⟨by decide +kernel, by decide +kernel⟩ hl.1 (Nat.le_of_ble_eq_true rfl) (by show 1 + 1 ≤ 2; decide) (by show 41 * (1 + 1) ≤ 41 * 2; decide) (by show 11 + 1 + 0 ≤ 12; decide) (by show 85 + 7 + 0 ≤ 92; decide) fmk_C_d42 fmk_C_d45 fmk_C_d46 h (fun q42_8 u42_8 H locs h => ?_)
  have h : fm_kw D A s ([(h0, .inr (1, [.ref q6, .int 0, .int 0, .ref q15, .int 0, .ref q23, .int 0])), (q6, .inl (cA 4, 0, .inr (.inr (.inr (.inr (fun _ => none)))))), (q15, .inl (cA 0, 20, fm_z 0)), (q23, .inl (cA 5, 9, .inr (.inr (.inr (.inr (va_up (va_up (va_up (va_up (va_up (va_up (va_up (va_up (fun _ => none) 0 (some q42_0)) 1 (some q42_1)) 2 (some q42_2)) 3 (some q42_3)) 4 (some q42_4)) 5 (some q42_5)) 6 (some q42_6)) 7 (some q42_7))))))), (q42_0, .inr (3, fm_df 3)), (q42_1, .inr (3, fm_df 3)), (q42_2, .inr (3, fm_df 3)), (q42_3, .inr (3, fm_df 3)), (q42_4, .inr (3, fm_df 3)), (q42_5, .inr (3, fm_df 3)), (q42_6, .inr (3, fm_df 3)), (q42_7, .inr (3, fm_df 3)), (q42_8, .inr (3, fm_df 3))]) H _ := h
  refine fm_kast X 5 (by decide) (q0 := 3) (qk := 12) (ci := 3) rfl rfl rfl (by unfold vp_in; decide +kernel) fmk_C_d49 h (fun H locs h => ?_)
  have h : fm_kw D A s ([(h0, .inr (1, [.ref q6, .int 0, .int 0, .ref q15, .int 0, .ref q23, .int 0])), (q6, .inl (cA 4, 0, .inr (.inr (.inr (.inr (fun _ => none)))))), (q15, .inl (cA 0, 20, fm_z 0)), (q23, .inl (cA 5, 9, .inr (.inr (.inr (.inr (va_up (va_up (va_up (va_up (va_up (va_up (va_up (va_up (va_up (fun _ => none) 0 (some q42_0)) 1 (some q42_1)) 2 (some q42_2)) 3 (some q42_3)) 4 (some q42_4)) 5 (some q42_5)) 6 (some q42_6)) 7 (some q42_7)) 8 (some q42_8))))))), (q42_0, .inr (3, fm_df 3)), (q42_1, .inr (3, fm_df 3)), (q42_2, .inr (3, fm_df 3)), (q42_3, .inr (3, fm_df 3)), (q42_4, .inr (3, fm_df 3)), (q42_5, .inr (3, fm_df 3)), (q42_6, .inr (3, fm_df 3)), (q42_7, .inr (3, fm_df 3)), (q42_8, .inr (3, fm_df 3))]) H _ := h
  refine lv_iinc (k := 0) (v := 9) hx hb fmk_C_d50 hl rfl (by decide +kernel) (by decide) rfl (fun ls hl => ?_)
  have hl : lv_has ls 2 [(1, .int 9), (0, .ref h0)] := hl
  refine lv_goto (tgt := 31) hx hb fmk_C_d53 (by decide) ?_
  refine lv_iload_n hx hb fmk_C_d31 rfl (lv_at hl 0 rfl) ?_
  refine lv_bipush (v := 8) hx hb fmk_C_d32 (by decide +kernel) ?_
  refine lv_icmp_gt (tgt := 56) hx hb fmk_C_d34 (by decide) (fun _ => ?_) (fun z => absurd (by decide) z)
  have h := fm_kre (q0 := 1) (g := fun _ => some z0) rfl (fun j hj => absurd hj (Nat.not_lt_zero j)) h
  have h := fm_kre (q0 := 3) (g := fun j => some (([q6, q15, q23, q42_0, q42_1, q42_2, q42_3, q42_4, q42_5, q42_6, q42_7, q42_8] : List Nat).getD (3 + j) 0)) rfl (fun j hj => by
    have hc : j = 0 ∨ j = 1 ∨ j = 2 ∨ j = 3 ∨ j = 4 ∨ j = 5 ∨ j = 6 ∨ j = 7 ∨ j = 8 := by omega
    rcases hc with rfl | rfl | rfl | rfl | rfl | rfl | rfl | rfl | rfl <;> rfl) h
  exact fm_kret X hr [q6, q15, q23, q42_0, q42_1, q42_2, q42_3, q42_4, q42_5, q42_6, q42_7, q42_8] h (by show 12 ≤ 12; decide) (by show 92 ≤ 92; decide) fmk_C_d56
def fmk_F_y : MethodName := ⟨"FlatModule", "<init>", "()V"⟩
set_option maxRecDepth 100000 in
theorem fmk_F_cw : Cond.code fmk_F_y prog_1_method_1_code 2 none ∈ fm_TB := fm_tb (List.mem_of_getElem? (i := 21) rfl) rfl
theorem fmk_F_iw : Cond.instantiable (fm_cn 0) (fm_nf 0) ∈ fm_TB := (fm_tb (List.mem_of_getElem? (i := 18) (by decide +kernel)) rfl)
theorem fmk_F_nw : Cond.initialized (fm_cn 0) ∈ fm_TB := (fm_tb (List.mem_of_getElem? (i := 1) (by decide +kernel)) rfl)
theorem fmk_F_mw : Cond.instanceMethod fmk_F_y ∈ fm_TB := (fm_tb (List.mem_of_getElem? (i := 20) (by decide +kernel)) rfl)
theorem fmk_F_d0 : decode prog_1_method_1_code 0 = .ok (.aload_n 0, 1) := by decide +kernel
theorem fmk_F_d1 : decode prog_1_method_1_code 1 = .ok (.invokespecial 3, 3) := by decide +kernel
theorem fmk_F_d4 : decode prog_1_method_1_code 4 = .ok (.aload_n 0, 1) := by decide +kernel
theorem fmk_F_d5 : decode prog_1_method_1_code 5 = .ok (.iconst 4, 1) := by decide +kernel
theorem fmk_F_d6 : decode prog_1_method_1_code 6 = .ok (.anewarray 9, 3) := by decide +kernel
theorem fmk_F_d9 : decode prog_1_method_1_code 9 = .ok (.putfield 11, 3) := by decide +kernel
theorem fmk_F_d12 : decode prog_1_method_1_code 12 = .ok (.aload_n 0, 1) := by decide +kernel
theorem fmk_F_d13 : decode prog_1_method_1_code 13 = .ok (.new 15, 3) := by decide +kernel
theorem fmk_F_d16 : decode prog_1_method_1_code 16 = .ok (.dup, 1) := by decide +kernel
theorem fmk_F_d17 : decode prog_1_method_1_code 17 = .ok (.invokespecial 17, 3) := by decide +kernel
theorem fmk_F_d20 : decode prog_1_method_1_code 20 = .ok (.putfield 18, 3) := by decide +kernel
theorem fmk_F_d23 : decode prog_1_method_1_code 23 = .ok (.aload_n 0, 1) := by decide +kernel
theorem fmk_F_d24 : decode prog_1_method_1_code 24 = .ok (.new 22, 3) := by decide +kernel
theorem fmk_F_d27 : decode prog_1_method_1_code 27 = .ok (.dup, 1) := by decide +kernel
theorem fmk_F_d28 : decode prog_1_method_1_code 28 = .ok (.invokespecial 24, 3) := by decide +kernel
theorem fmk_F_d31 : decode prog_1_method_1_code 31 = .ok (.putfield 25, 3) := by decide +kernel
theorem fmk_F_d34 : decode prog_1_method_1_code 34 = .ok (.iconst 0, 1) := by decide +kernel
theorem fmk_F_d35 : decode prog_1_method_1_code 35 = .ok (.istore_n 1, 1) := by decide +kernel
theorem fmk_F_d36 : decode prog_1_method_1_code 36 = .ok (.iload_n 1, 1) := by decide +kernel
theorem fmk_F_d37 : decode prog_1_method_1_code 37 = .ok (.iconst 4, 1) := by decide +kernel
theorem fmk_F_d38 : decode prog_1_method_1_code 38 = .ok (.if_icmp .ge 22, 3) := by decide +kernel
theorem fmk_F_d41 : decode prog_1_method_1_code 41 = .ok (.aload_n 0, 1) := by decide +kernel
theorem fmk_F_d42 : decode prog_1_method_1_code 42 = .ok (.getfield 11, 3) := by decide +kernel
theorem fmk_F_d45 : decode prog_1_method_1_code 45 = .ok (.iload_n 1, 1) := by decide +kernel
theorem fmk_F_d46 : decode prog_1_method_1_code 46 = .ok (.new 9, 3) := by decide +kernel
theorem fmk_F_d49 : decode prog_1_method_1_code 49 = .ok (.dup, 1) := by decide +kernel
theorem fmk_F_d50 : decode prog_1_method_1_code 50 = .ok (.invokespecial 29, 3) := by decide +kernel
theorem fmk_F_d53 : decode prog_1_method_1_code 53 = .ok (.aastore, 1) := by decide +kernel
theorem fmk_F_d54 : decode prog_1_method_1_code 54 = .ok (.iinc 1 1, 3) := by decide +kernel
theorem fmk_F_d57 : decode prog_1_method_1_code 57 = .ok (.goto (-21), 3) := by decide +kernel
theorem fmk_F_d60 : decode prog_1_method_1_code 60 = .ok (.return_, 1) := by decide +kernel
def fmk_F_w (cA : Nat → ClassId) (h0 : Nat) (u : List Nat × List Nat × List Nat × List (List Nat × List Nat)) : va_W := [(h0, .inr (0, [.ref (u.1.getD 0 0), .ref (u.1.getD 1 0), .ref (u.1.getD 2 0), .int 0])), (u.1.getD 0 0, .inl (cA 4, 4, .inr (.inr (.inr (.inr (fun j => some (u.1.getD (3 + j) 0)))))))] ++ fmk_C_w cA h0 (u.1.getD 1 0) u.2.1 ++ fmk_M_w cA h0 (u.1.getD 2 0) u.2.2.1 ++ fmk_U_w cA (u.1.getD 3 0) (u.2.2.2.getD 0 ([], [])) ++ fmk_U_w cA (u.1.getD 4 0) (u.2.2.2.getD 1 ([], [])) ++ fmk_U_w cA (u.1.getD 5 0) (u.2.2.2.getD 2 ([], [])) ++ fmk_U_w cA (u.1.getD 6 0) (u.2.2.2.getD 3 ([], []))
set_option maxHeartbeats 4000000 in
set_option maxRecDepth 100000 in
theorem fmk_F (l : Launch) (D : va_G) (cA : Nat → ClassId) : fm_Kc l D cA fmk_F_y prog_1_method_1_code 2 0 (fmk_F_w cA) 3 64 1920 := by
  refine fm_kM (by decide +kernel) rfl rfl (by decide) ?_
  intro p e s m below meth c A h0 ls X hin hr h hl
  have hx := X.1
  have hb := X.2.1
  have h : fm_kw D A s ([(h0, .inr (0, [.null, .null, .null, .int 0]))]) s.heap [] := h
  refine lv_aload_n hx hb fmk_F_d0 rfl (lv_at hl 0 rfl) ?_
  refine fm_kobj X (fm_tb (List.mem_of_getElem? (i := 22) (by decide +kernel)) rfl) hl.1 fmk_F_d1 (by show 1 ≤ 3; decide) (by show 41 ≤ 41 * 3; decide) ?_
  refine lv_aload_n hx hb fmk_F_d4 rfl (lv_at hl 0 rfl) ?_
  refine lv_iconst (v := 4) hx hb fmk_F_d5 (by decide +kernel) ?_
  refine fm_knq X 4 4 (by decide) (fm_tb (List.mem_of_getElem? (i := 25) (by decide +kernel)) rfl) (by decide) (by decide +kernel) (by decide) (by show 0 + 1 ≤ 64; decide) (by show 0 + 4 ≤ 1920; decide) fmk_F_d6 h (fun q6 H h => ?_)
  have h : fm_kw D A s ([(h0, .inr (0, [.null, .null, .null, .int 0])), (q6, .inl (cA 4, 4, .inr (.inr (.inr (.inr (fun _ => none))))))]) H _ := h
  refine fm_kput X hin fm_f0_o (ix := 11) (k := 0) rfl rfl (Nat.le_of_ble_eq_true rfl) fmk_F_d9 h (fun H locs h => ?_)
  have h : fm_kw D A s ([(h0, .inr (0, [.ref q6, .null, .null, .int 0])), (q6, .inl (cA 4, 4, .inr (.inr (.inr (.inr (fun _ => none))))))]) H _ := h
  refine lv_aload_n hx hb fmk_F_d12 rfl (lv_at hl 0 rfl) ?_
  refine fm_knc X (fmk_C l D cA h0) (by decide) rfl fmk_C_cw (fm_tb (List.mem_of_getElem? (i := 27) (by decide +kernel)) rfl) fmk_C_iw fmk_C_nw (Or.inl (fm_tb (List.mem_of_getElem? (i := 29) (by decide +kernel)) rfl)) fmk_C_mw (by decide) ⟨by decide +kernel, by decide +kernel⟩ hl.1 (Nat.le_of_ble_eq_true rfl) (by show 2 + 1 ≤ 3; decide) (by show 41 * (2 + 1) ≤ 41 * 3; decide) (by show 1 + 1 + 12 ≤ 64; decide) (by show 4 + 7 + 92 ≤ 1920; decide) fmk_F_d13 fmk_F_d16 fmk_F_d17 h (fun q13_0 u13_0 H locs h => ?_)
  have h : fm_kw D A s ([(h0, .inr (0, [.ref q6, .null, .null, .int 0])), (q6, .inl (cA 4, 4, .inr (.inr (.inr (.inr (fun _ => none))))))] ++ fmk_C_w cA h0 q13_0 u13_0) H _ := h
  refine fm_kput X hin fm_f0_o (ix := 18) (k := 1) rfl rfl (Nat.le_of_ble_eq_true rfl) fmk_F_d20 h (fun H locs h => ?_)
  have h : fm_kw D A s ([(h0, .inr (0, [.ref q6, .ref q13_0, .null, .int 0])), (q6, .inl (cA 4, 4, .inr (.inr (.inr (.inr (fun _ => none))))))] ++ fmk_C_w cA h0 q13_0 u13_0) H _ := h
  refine lv_aload_n hx hb fmk_F_d23 rfl (lv_at hl 0 rfl) ?_
  refine fm_knc X (fmk_M l D cA h0) (by decide) rfl fmk_M_cw (fm_tb (List.mem_of_getElem? (i := 93) (by decide +kernel)) rfl) fmk_M_iw fmk_M_nw (Or.inr X.2.2.2.2.2.2.2.1.2.1) fmk_M_mw (by decide) ⟨by decide +kernel, by decide +kernel⟩ hl.1 (Nat.le_of_ble_eq_true rfl) (by show 1 + 1 ≤ 3; decide) (by show 41 * (1 + 1) ≤ 41 * 3; decide) (by show 14 + 1 + 5 ≤ 64; decide) (by show 103 + 9 + 440 ≤ 1920; decide) fmk_F_d24 fmk_F_d27 fmk_F_d28 h (fun q24_1 u24_1 H locs h => ?_)
  have h : fm_kw D A s ([(h0, .inr (0, [.ref q6, .ref q13_0, .null, .int 0])), (q6, .inl (cA 4, 4, .inr (.inr (.inr (.inr (fun _ => none))))))] ++ fmk_C_w cA h0 q13_0 u13_0 ++ fmk_M_w cA h0 q24_1 u24_1) H _ := h
  refine fm_kput X hin fm_f0_o (ix := 25) (k := 2) rfl rfl (Nat.le_of_ble_eq_true rfl) fmk_F_d31 h (fun H locs h => ?_)
  have h : fm_kw D A s ([(h0, .inr (0, [.ref q6, .ref q13_0, .ref q24_1, .int 0])), (q6, .inl (cA 4, 4, .inr (.inr (.inr (.inr (fun _ => none))))))] ++ fmk_C_w cA h0 q13_0 u13_0 ++ fmk_M_w cA h0 q24_1 u24_1) H _ := h
  refine lv_iconst (v := 0) hx hb fmk_F_d34 (by decide +kernel) ?_
  refine lv_istore_n hx hb fmk_F_d35 rfl hl (by decide) rfl (fun ls hl => ?_)
  have hl : lv_has ls 2 [(1, .int 0), (0, .ref h0)] := hl
  refine lv_iload_n hx hb fmk_F_d36 rfl (lv_at hl 0 rfl) ?_
  refine lv_iconst (v := 4) hx hb fmk_F_d37 (by decide +kernel) ?_
  refine lv_icmp_ge (tgt := 60) hx hb fmk_F_d38 (by decide) (fun z => absurd z (by decide)) (fun _ => ?_)
  refine lv_aload_n hx hb fmk_F_d41 rfl (lv_at hl 1 rfl) ?_
  refine fm_kget X fm_f0_o (ix := 11) (k := 0) rfl rfl fmk_F_d42 h ?_
  refine lv_iload_n hx hb fmk_F_d45 rfl (lv_at hl 0 rfl) ?_
  refine fm_knc X (fmk_U l D cA) (by decide) rfl fmk_U_cw (fm_tb (List.mem_of_getElem? (i := 25) (by decide +kernel)) rfl) fmk_U_iw fmk_U_nw (Or.inr X.2.2.2.2.2.2.2.1.2.2.1) fmk_U_mw (by decide) ⟨by decide +kernel, by decide +kernel⟩ hl.1 (Nat.le_of_ble_eq_true rfl) (by show 2 + 1 ≤ 3; decide) (by show 41 * (2 + 1) ≤ 41 * 3; decide) (by show 20 + 1 + 10 ≤ 64; decide) (by show 552 + 9 + 333 ≤ 1920; decide) fmk_F_d46 fmk_F_d49 fmk_F_d50 h (fun q46_2 u46_2 H locs h => ?_)
  have h : fm_kw D A s ([(h0, .inr (0, [.ref q6, .ref q13_0, .ref q24_1, .int 0])), (q6, .inl (cA 4, 4, .inr (.inr (.inr (.inr (fun _ => none))))))] ++ fmk_C_w cA h0 q13_0 u13_0 ++ fmk_M_w cA h0 q24_1 u24_1 ++ fmk_U_w cA q46_2 u46_2) H _ := h
  refine fm_kast X 4 (by decide) (q0 := 1) (qk := 21) (ci := 4) rfl rfl rfl (by unfold vp_in; decide +kernel) fmk_F_d53 h (fun H locs h => ?_)
  have h : fm_kw D A s ([(h0, .inr (0, [.ref q6, .ref q13_0, .ref q24_1, .int 0])), (q6, .inl (cA 4, 4, .inr (.inr (.inr (.inr (va_up (fun _ => none) 0 (some q46_2)))))))] ++ fmk_C_w cA h0 q13_0 u13_0 ++ fmk_M_w cA h0 q24_1 u24_1 ++ fmk_U_w cA q46_2 u46_2) H _ := h
  refine lv_iinc (k := 0) (v := 1) hx hb fmk_F_d54 hl rfl (by decide +kernel) (by decide) rfl (fun ls hl => ?_)
  have hl : lv_has ls 2 [(1, .int 1), (0, .ref h0)] := hl
  refine lv_goto (tgt := 36) hx hb fmk_F_d57 (by decide) ?_
  refine lv_iload_n hx hb fmk_F_d36 rfl (lv_at hl 0 rfl) ?_
  refine lv_iconst (v := 4) hx hb fmk_F_d37 (by decide +kernel) ?_
  refine lv_icmp_ge (tgt := 60) hx hb fmk_F_d38 (by decide) (fun z => absurd z (by decide)) (fun _ => ?_)
  refine lv_aload_n hx hb fmk_F_d41 rfl (lv_at hl 1 rfl) ?_
  refine fm_kget X fm_f0_o (ix := 11) (k := 0) rfl rfl fmk_F_d42 h ?_
  refine lv_iload_n hx hb fmk_F_d45 rfl (lv_at hl 0 rfl) ?_
  refine fm_knc X (fmk_U l D cA) (by decide) rfl fmk_U_cw (fm_tb (List.mem_of_getElem? (i := 25) (by decide +kernel)) rfl) fmk_U_iw fmk_U_nw (Or.inr X.2.2.2.2.2.2.2.1.2.2.1) fmk_U_mw (by decide) ⟨by decide +kernel, by decide +kernel⟩ hl.1 (Nat.le_of_ble_eq_true rfl) (by show 2 + 1 ≤ 3; decide) (by show 41 * (2 + 1) ≤ 41 * 3; decide) (by show 31 + 1 + 10 ≤ 64; decide) (by show 894 + 9 + 333 ≤ 1920; decide) fmk_F_d46 fmk_F_d49 fmk_F_d50 h (fun q46_3 u46_3 H locs h => ?_)
  have h : fm_kw D A s ([(h0, .inr (0, [.ref q6, .ref q13_0, .ref q24_1, .int 0])), (q6, .inl (cA 4, 4, .inr (.inr (.inr (.inr (va_up (fun _ => none) 0 (some q46_2)))))))] ++ fmk_C_w cA h0 q13_0 u13_0 ++ fmk_M_w cA h0 q24_1 u24_1 ++ fmk_U_w cA q46_2 u46_2 ++ fmk_U_w cA q46_3 u46_3) H _ := h
  refine fm_kast X 4 (by decide) (q0 := 1) (qk := 32) (ci := 4) rfl rfl rfl (by unfold vp_in; decide +kernel) fmk_F_d53 h (fun H locs h => ?_)
  have h : fm_kw D A s ([(h0, .inr (0, [.ref q6, .ref q13_0, .ref q24_1, .int 0])), (q6, .inl (cA 4, 4, .inr (.inr (.inr (.inr (va_up (va_up (fun _ => none) 0 (some q46_2)) 1 (some q46_3)))))))] ++ fmk_C_w cA h0 q13_0 u13_0 ++ fmk_M_w cA h0 q24_1 u24_1 ++ fmk_U_w cA q46_2 u46_2 ++ fmk_U_w cA q46_3 u46_3) H _ := h
  refine lv_iinc (k := 0) (v := 2) hx hb fmk_F_d54 hl rfl (by decide +kernel) (by decide) rfl (fun ls hl => ?_)
  have hl : lv_has ls 2 [(1, .int 2), (0, .ref h0)] := hl
  refine lv_goto (tgt := 36) hx hb fmk_F_d57 (by decide) ?_
  refine lv_iload_n hx hb fmk_F_d36 rfl (lv_at hl 0 rfl) ?_
  refine lv_iconst (v := 4) hx hb fmk_F_d37 (by decide +kernel) ?_
  refine lv_icmp_ge (tgt := 60) hx hb fmk_F_d38 (by decide) (fun z => absurd z (by decide)) (fun _ => ?_)
  refine lv_aload_n hx hb fmk_F_d41 rfl (lv_at hl 1 rfl) ?_
  refine fm_kget X fm_f0_o (ix := 11) (k := 0) rfl rfl fmk_F_d42 h ?_
  refine lv_iload_n hx hb fmk_F_d45 rfl (lv_at hl 0 rfl) ?_
  refine fm_knc X (fmk_U l D cA) (by decide) rfl fmk_U_cw (fm_tb (List.mem_of_getElem? (i := 25) (by decide +kernel)) rfl) fmk_U_iw fmk_U_nw (Or.inr X.2.2.2.2.2.2.2.1.2.2.1) fmk_U_mw (by decide) ⟨by decide +kernel, by decide +kernel⟩ hl.1 (Nat.le_of_ble_eq_true rfl) (by show 2 + 1 ≤ 3; decide) (by show 41 * (2 + 1) ≤ 41 * 3; decide) (by show 42 + 1 + 10 ≤ 64; decide) (by show 1236 + 9 + 333 ≤ 1920; decide) fmk_F_d46 fmk_F_d49 fmk_F_d50 h (fun q46_4 u46_4 H locs h => ?_)
  have h : fm_kw D A s ([(h0, .inr (0, [.ref q6, .ref q13_0, .ref q24_1, .int 0])), (q6, .inl (cA 4, 4, .inr (.inr (.inr (.inr (va_up (va_up (fun _ => none) 0 (some q46_2)) 1 (some q46_3)))))))] ++ fmk_C_w cA h0 q13_0 u13_0 ++ fmk_M_w cA h0 q24_1 u24_1 ++ fmk_U_w cA q46_2 u46_2 ++ fmk_U_w cA q46_3 u46_3 ++ fmk_U_w cA q46_4 u46_4) H _ := h
  refine fm_kast X 4 (by decide) (q0 := 1) (qk := 43) (ci := 4) rfl rfl rfl (by unfold vp_in; decide +kernel) fmk_F_d53 h (fun H locs h => ?_)
  have h : fm_kw D A s ([(h0, .inr (0, [.ref q6, .ref q13_0, .ref q24_1, .int 0])), (q6, .inl (cA 4, 4, .inr (.inr (.inr (.inr (va_up (va_up (va_up (fun _ => none) 0 (some q46_2)) 1 (some q46_3)) 2 (some q46_4)))))))] ++ fmk_C_w cA h0 q13_0 u13_0 ++ fmk_M_w cA h0 q24_1 u24_1 ++ fmk_U_w cA q46_2 u46_2 ++ fmk_U_w cA q46_3 u46_3 ++ fmk_U_w cA q46_4 u46_4) H _ := h
  refine lv_iinc (k := 0) (v := 3) hx hb fmk_F_d54 hl rfl (by decide +kernel) (by decide) rfl (fun ls hl => ?_)
  have hl : lv_has ls 2 [(1, .int 3), (0, .ref h0)] := hl
  refine lv_goto (tgt := 36) hx hb fmk_F_d57 (by decide) ?_
  refine lv_iload_n hx hb fmk_F_d36 rfl (lv_at hl 0 rfl) ?_
  refine lv_iconst (v := 4) hx hb fmk_F_d37 (by decide +kernel) ?_
  refine lv_icmp_ge (tgt := 60) hx hb fmk_F_d38 (by decide) (fun z => absurd z (by decide)) (fun _ => ?_)
  refine lv_aload_n hx hb fmk_F_d41 rfl (lv_at hl 1 rfl) ?_
  refine fm_kget X fm_f0_o (ix := 11) (k := 0) rfl rfl fmk_F_d42 h ?_
  refine lv_iload_n hx hb fmk_F_d45 rfl (lv_at hl 0 rfl) ?_
  refine fm_knc X (fmk_U l D cA) (by decide) rfl fmk_U_cw (fm_tb (List.mem_of_getElem? (i := 25) (by decide +kernel)) rfl) fmk_U_iw fmk_U_nw (Or.inr X.2.2.2.2.2.2.2.1.2.2.1) fmk_U_mw (by decide) ⟨by decide +kernel, by decide +kernel⟩ hl.1 (Nat.le_of_ble_eq_true rfl) (by show 2 + 1 ≤ 3; decide) (by show 41 * (2 + 1) ≤ 41 * 3; decide) (by show 53 + 1 + 10 ≤ 64; decide) (by show 1578 + 9 + 333 ≤ 1920; decide) fmk_F_d46 fmk_F_d49 fmk_F_d50 h (fun q46_5 u46_5 H locs h => ?_)
  have h : fm_kw D A s ([(h0, .inr (0, [.ref q6, .ref q13_0, .ref q24_1, .int 0])), (q6, .inl (cA 4, 4, .inr (.inr (.inr (.inr (va_up (va_up (va_up (fun _ => none) 0 (some q46_2)) 1 (some q46_3)) 2 (some q46_4)))))))] ++ fmk_C_w cA h0 q13_0 u13_0 ++ fmk_M_w cA h0 q24_1 u24_1 ++ fmk_U_w cA q46_2 u46_2 ++ fmk_U_w cA q46_3 u46_3 ++ fmk_U_w cA q46_4 u46_4 ++ fmk_U_w cA q46_5 u46_5) H _ := h
  refine fm_kast X 4 (by decide) (q0 := 1) (qk := 54) (ci := 4) rfl rfl rfl (by unfold vp_in; decide +kernel) fmk_F_d53 h (fun H locs h => ?_)
  have h : fm_kw D A s ([(h0, .inr (0, [.ref q6, .ref q13_0, .ref q24_1, .int 0])), (q6, .inl (cA 4, 4, .inr (.inr (.inr (.inr (va_up (va_up (va_up (va_up (fun _ => none) 0 (some q46_2)) 1 (some q46_3)) 2 (some q46_4)) 3 (some q46_5)))))))] ++ fmk_C_w cA h0 q13_0 u13_0 ++ fmk_M_w cA h0 q24_1 u24_1 ++ fmk_U_w cA q46_2 u46_2 ++ fmk_U_w cA q46_3 u46_3 ++ fmk_U_w cA q46_4 u46_4 ++ fmk_U_w cA q46_5 u46_5) H _ := h
  refine lv_iinc (k := 0) (v := 4) hx hb fmk_F_d54 hl rfl (by decide +kernel) (by decide) rfl (fun ls hl => ?_)
  have hl : lv_has ls 2 [(1, .int 4), (0, .ref h0)] := hl
  refine lv_goto (tgt := 36) hx hb fmk_F_d57 (by decide) ?_
  refine lv_iload_n hx hb fmk_F_d36 rfl (lv_at hl 0 rfl) ?_
  refine lv_iconst (v := 4) hx hb fmk_F_d37 (by decide +kernel) ?_
  refine lv_icmp_ge (tgt := 60) hx hb fmk_F_d38 (by decide) (fun _ => ?_) (fun z => absurd (by decide) z)
  have h := fm_kre (q0 := 1) (g := fun j => some (([q6, q13_0, q24_1, q46_2, q46_3, q46_4, q46_5] : List Nat).getD (3 + j) 0)) rfl (fun j hj => by
    have hc : j = 0 ∨ j = 1 ∨ j = 2 ∨ j = 3 := by omega
    rcases hc with rfl | rfl | rfl | rfl <;> rfl) h
  exact fm_kret X hr ([q6, q13_0, q24_1, q46_2, q46_3, q46_4, q46_5], u13_0, u24_1, [u46_2, u46_3, u46_4, u46_5]) h (by show 64 ≤ 64; decide) (by show 1920 ≤ 1920; decide) fmk_F_d60
