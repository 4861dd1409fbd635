/-! THE CHECKER, by program (wip/tools/walk.py, gen_c2.py) -/
def fmC_leave_f (I : fm_MI) (J : fm_MJ) (G : fm_MG) (pb : Nat × Nat) (op : Int32) (aa : Int32) : fm_MI :=
  if op = 26 then (fm_let (fmC_jump_f I op ((I 13 0 6) - aa)) (fun (r1 : fm_MI) => fm_let (fmC_die_f r1) (fun (r2 : fm_MI) => r2))) else (if op = 27 then (fm_let (fmC_take_f I 0) (fun (r3 : Int32 × fm_MI) => fm_let (fmC_jump_f r3.2 op ((r3.2 13 0 6) - aa)) (fun (r4 : fm_MI) => fm_let (fmR_neededByJump_f r4 (((r4 13 0 6) - aa).toNatClampNeg)) (fun (r5 : Int32) => fm_let (fmC_put_f r4 r5) (fun (r6 : fm_MI) => r6))))) else (if op = 28 then (fm_let (fmC_jump_f I 26 0) (fun (r7 : fm_MI) => fm_let (fmC_die_f r7) (fun (r8 : fm_MI) => r8))) else (if op = 29 then (fm_let (fmC_callFunction_f I J G pb aa) (fun (r9 : fm_MI) => r9)) else (fm_let (fmC_addRow_f I op aa) (fun (r10 : Int32 × fm_MI) => fm_let (fmC_die_f r10.2) (fun (r11 : fm_MI) => r11))))))
theorem fmC_leave_e (I : fm_MI) (J : fm_MJ) (G : fm_MG) (pb : Nat × Nat) (op : Int32) (aa : Int32) : fmC_leave_f I J G pb op aa = if op = 26 then (fm_let (fmC_jump_f I op ((I 13 0 6) - aa)) (fun (r1 : fm_MI) => fm_let (fmC_die_f r1) (fun (r2 : fm_MI) => r2))) else (if op = 27 then (fm_let (fmC_take_f I 0) (fun (r3 : Int32 × fm_MI) => fm_let (fmC_jump_f r3.2 op ((r3.2 13 0 6) - aa)) (fun (r4 : fm_MI) => fm_let (fmR_neededByJump_f r4 (((r4 13 0 6) - aa).toNatClampNeg)) (fun (r5 : Int32) => fm_let (fmC_put_f r4 r5) (fun (r6 : fm_MI) => r6))))) else (if op = 28 then (fm_let (fmC_jump_f I 26 0) (fun (r7 : fm_MI) => fm_let (fmC_die_f r7) (fun (r8 : fm_MI) => r8))) else (if op = 29 then (fm_let (fmC_callFunction_f I J G pb aa) (fun (r9 : fm_MI) => r9)) else (fm_let (fmC_addRow_f I op aa) (fun (r10 : Int32 × fm_MI) => fm_let (fmC_die_f r10.2) (fun (r11 : fm_MI) => r11)))))) := rfl
def fmC_leave_p (I : fm_MI) (J : fm_MJ) (G : fm_MG) (pb : Nat × Nat) (op : Int32) (aa : Int32) : Prop :=
  (op = 26 → fmC_jump_p I op ((I 13 0 6) - aa) ∧ (fm_let (fmC_jump_f I op ((I 13 0 6) - aa)) (fun (r1 : fm_MI) => fmC_die_p r1))) ∧ (¬ op = 26 → (op = 27 → fmC_take_p I 0 ∧ (fm_let (fmC_take_f I 0) (fun (r3 : Int32 × fm_MI) => fmC_jump_p r3.2 op ((r3.2 13 0 6) - aa) ∧ (fm_let (fmC_jump_f r3.2 op ((r3.2 13 0 6) - aa)) (fun (r4 : fm_MI) => (vp_in ((r4 13 0 6) - aa) 9) ∧ (fm_let (fmR_neededByJump_f r4 (((r4 13 0 6) - aa).toNatClampNeg)) (fun (r5 : Int32) => fmC_put_p r4 r5))))))) ∧ (¬ op = 27 → (op = 28 → fmC_jump_p I 26 0 ∧ (fm_let (fmC_jump_f I 26 0) (fun (r7 : fm_MI) => fmC_die_p r7))) ∧ (¬ op = 28 → (op = 29 → fmC_callFunction_p I J G pb aa) ∧ (¬ op = 29 → fmC_addRow_p I ∧ (fm_let (fmC_addRow_f I op aa) (fun (r10 : Int32 × fm_MI) => fmC_die_p r10.2))))))
set_option maxRecDepth 100000 in
set_option maxHeartbeats 4000000 in
theorem fmC_leave_c {E : fm_Ev} (hl : E.1.stackTraces = false) {d : Nat} (hd : 3 ≤ d) (I : fm_MI) (J : fm_MJ) (G : fm_MG) (pb : Nat × Nat) (op : Int32) (aa : Int32) (hp : fmC_leave_p I J G pb op aa) : fm_Ct E d fmC_leave 0 [.inr (.inr (.inr (.inr (13, 0)))), .inl op, .inl aa] (I, J, G, fm_P (1, 0) pb) none (fmC_leave_f I J G pb op aa, J, G, fm_P (1, 0) pb) := by
  obtain ⟨d, rfl⟩ : ∃ d', d = d' + 1 := ⟨d - 1, by omega⟩
  refine fm_ct fmC_leave_o hl (Nat.le_of_ble_eq_true rfl) ?_
  have O := fmC_leave_o.1
  unfold fmC_leave_p at hp
  have he := fmC_leave_e I J G pb op aa
  refine fm_gr O 1 (C' := (1, [(0, .inr (.inr (.inr (.inr (13, 0))))), (1, .inl op), (2, .inl aa)], [.inl op], (I, J, G, fm_P (1, 0) pb))) rfl ?_
  by_cases h1 : op = 26
  · have he := he.trans (if_pos h1)
    have hp := hp.1 h1
    refine fm_gs O 26 rfl (show op.toInt = 26 from by rw [h1]; decide) ?_
    refine fm_gr O 6 (C' := (40, [(0, .inr (.inr (.inr (.inr (13, 0))))), (1, .inl op), (2, .inl aa)], [.inl ((I 13 0 6) - aa), .inl op, .inr (.inr (.inr (.inr (13, 0))))], (I, J, G, fm_P (1, 0) pb))) rfl ?_
    have hc := hp.1
    have hp := hp.2
    have K := fmC_jump_c (d := d) hl (by omega) I J G pb op ((I 13 0 6) - aa) hc
    generalize er1 : fmC_jump_f I op ((I 13 0 6) - aa) = r1 at he hp
    have he := he.trans (fm_letE _ _)
    have hp := fm_letP hp
    rw [er1] at K
    refine fm_cV0 O fmC_jump_o (i := 0) (as := [.inl op, .inl ((I 13 0 6) - aa)]) (rest := []) (v := none) rfl fk_1_153 rfl (by decide) fn_C_jump (Nat.le_of_ble_eq_true rfl) (K) ?_
    refine fm_gr O 1 (C' := (44, [(0, .inr (.inr (.inr (.inr (13, 0))))), (1, .inl op), (2, .inl aa)], [.inr (.inr (.inr (.inr (13, 0))))], (r1, J, G, fm_P (1, 0) pb))) rfl ?_
    have K := fmC_die_c (d := d) hl (by omega) r1 J G pb hp
    generalize er2 : fmC_die_f r1 = r2 at he
    have he := he.trans (fm_letE _ _)
    rw [er2] at K
    refine fm_cV0 O fmC_die_o (i := 0) (as := []) (rest := []) (v := none) rfl fk_1_156 rfl (by decide) fn_C_die (Nat.le_of_ble_eq_true rfl) (K) ?_
    refine fm_gr O 1 (C' := (121, [(0, .inr (.inr (.inr (.inr (13, 0))))), (1, .inl op), (2, .inl aa)], [], (r2, J, G, fm_P (1, 0) pb))) rfl ?_
    exact fm_gRe O rfl trivial (by first | (rw [he]; done) | (rw [he]; rfl) | rfl) (by first | (rw [he]; done) | (rw [he]; rfl) | rfl)
  · have he := he.trans (if_neg h1)
    have hp := hp.2 h1
    by_cases h2 : op = 27
    · have he := he.trans (if_pos h2)
      have hp := hp.1 h2
      refine fm_gs O 27 rfl (show op.toInt = 27 from by rw [h2]; decide) ?_
      refine fm_gr O 2 (C' := (52, [(0, .inr (.inr (.inr (.inr (13, 0))))), (1, .inl op), (2, .inl aa)], [.inl 0, .inr (.inr (.inr (.inr (13, 0))))], (I, J, G, fm_P (1, 0) pb))) rfl ?_
      have hc := hp.1
      have hp := hp.2
      have K := fmC_take_c (d := d) hl (by omega) I J G pb 0 hc
      generalize er3 : fmC_take_f I 0 = r3 at he hp
      have he := he.trans (fm_letE _ _)
      have hp := fm_letP hp
      rw [er3] at K
      refine fm_cV0 O fmC_take_o (i := 0) (as := [.inl 0]) (rest := []) (v := some (.inl r3.1)) rfl fk_1_109 rfl (by decide) fn_C_take (Nat.le_of_ble_eq_true rfl) (K) ?_
      refine fm_gr O 7 (C' := (64, [(0, .inr (.inr (.inr (.inr (13, 0))))), (1, .inl op), (2, .inl aa)], [.inl ((r3.2 13 0 6) - aa), .inl op, .inr (.inr (.inr (.inr (13, 0))))], (r3.2, J, G, fm_P (1, 0) pb))) rfl ?_
      have hc := hp.1
      have hp := hp.2
      have K := fmC_jump_c (d := d) hl (by omega) r3.2 J G pb op ((r3.2 13 0 6) - aa) hc
      generalize er4 : fmC_jump_f r3.2 op ((r3.2 13 0 6) - aa) = r4 at he hp
      have he := he.trans (fm_letE _ _)
      have hp := fm_letP hp
      rw [er4] at K
      refine fm_cV0 O fmC_jump_o (i := 0) (as := [.inl op, .inl ((r3.2 13 0 6) - aa)]) (rest := []) (v := none) rfl fk_1_153 rfl (by decide) fn_C_jump (Nat.le_of_ble_eq_true rfl) (K) ?_
      refine fm_gr O 7 (C' := (78, [(0, .inr (.inr (.inr (.inr (13, 0))))), (1, .inl op), (2, .inl aa)], [.inl ((r4 13 0 6) - aa), .inr (.inr (.inr (.inr (16, 0)))), .inr (.inr (.inr (.inr (13, 0))))], (r4, J, G, fm_P (1, 0) pb))) rfl ?_
      refine fm_gg O rfl hp.1 ?_
      have hp := hp.2
      have K := fmR_neededByJump_c (d := d) hl (by omega) r4 J G ((1, 0)) pb (((r4 13 0 6) - aa).toNatClampNeg)
      generalize er5 : fmR_neededByJump_f r4 (((r4 13 0 6) - aa).toNatClampNeg) = r5 at he hp
      have he := he.trans (fm_letE _ _)
      have hp := fm_letP hp
      rw [er5] at K
      refine fm_cV0 O fmR_neededByJump_o (i := ((r4 13 0 6) - aa).toNatClampNeg) (as := []) (rest := [.inr (.inr (.inr (.inr (13, 0))))]) (v := some (.inl r5)) rfl fk_1_159 rfl (by decide) fn_R_neededByJump (Nat.le_of_ble_eq_true rfl) (K) ?_
      have K := fmC_put_c (d := d) hl (by omega) r4 J G pb r5 hp
      generalize er6 : fmC_put_f r4 r5 = r6 at he
      have he := he.trans (fm_letE _ _)
      rw [er6] at K
      refine fm_cV0 O fmC_put_o (i := 0) (as := [.inl r5]) (rest := []) (v := none) rfl fk_1_105 rfl (by decide) fn_C_put (Nat.le_of_ble_eq_true rfl) (K) ?_
      refine fm_gr O 1 (C' := (121, [(0, .inr (.inr (.inr (.inr (13, 0))))), (1, .inl op), (2, .inl aa)], [], (r6, J, G, fm_P (1, 0) pb))) rfl ?_
      exact fm_gRe O rfl trivial (by first | (rw [he]; done) | (rw [he]; rfl) | rfl) (by first | (rw [he]; done) | (rw [he]; rfl) | rfl)
    · have he := he.trans (if_neg h2)
      have hp := hp.2 h2
      by_cases h3 : op = 28
      · have he := he.trans (if_pos h3)
        have hp := hp.1 h3
        refine fm_gs O 28 rfl (show op.toInt = 28 from by rw [h3]; decide) ?_
        refine fm_gr O 3 (C' := (92, [(0, .inr (.inr (.inr (.inr (13, 0))))), (1, .inl op), (2, .inl aa)], [.inl 0, .inl 26, .inr (.inr (.inr (.inr (13, 0))))], (I, J, G, fm_P (1, 0) pb))) rfl ?_
        have hc := hp.1
        have hp := hp.2
        have K := fmC_jump_c (d := d) hl (by omega) I J G pb 26 0 hc
        generalize er7 : fmC_jump_f I 26 0 = r7 at he hp
        have he := he.trans (fm_letE _ _)
        have hp := fm_letP hp
        rw [er7] at K
        refine fm_cV0 O fmC_jump_o (i := 0) (as := [.inl 26, .inl 0]) (rest := []) (v := none) rfl fk_1_153 rfl (by decide) fn_C_jump (Nat.le_of_ble_eq_true rfl) (K) ?_
        refine fm_gr O 1 (C' := (96, [(0, .inr (.inr (.inr (.inr (13, 0))))), (1, .inl op), (2, .inl aa)], [.inr (.inr (.inr (.inr (13, 0))))], (r7, J, G, fm_P (1, 0) pb))) rfl ?_
        have K := fmC_die_c (d := d) hl (by omega) r7 J G pb hp
        generalize er8 : fmC_die_f r7 = r8 at he
        have he := he.trans (fm_letE _ _)
        rw [er8] at K
        refine fm_cV0 O fmC_die_o (i := 0) (as := []) (rest := []) (v := none) rfl fk_1_156 rfl (by decide) fn_C_die (Nat.le_of_ble_eq_true rfl) (K) ?_
        refine fm_gr O 1 (C' := (121, [(0, .inr (.inr (.inr (.inr (13, 0))))), (1, .inl op), (2, .inl aa)], [], (r8, J, G, fm_P (1, 0) pb))) rfl ?_
        exact fm_gRe O rfl trivial (by first | (rw [he]; done) | (rw [he]; rfl) | rfl) (by first | (rw [he]; done) | (rw [he]; rfl) | rfl)
      · have he := he.trans (if_neg h3)
        have hp := hp.2 h3
        by_cases h4 : op = 29
        · have he := he.trans (if_pos h4)
          have hp := hp.1 h4
          refine fm_gs O 29 rfl (show op.toInt = 29 from by rw [h4]; decide) ?_
          refine fm_gr O 2 (C' := (104, [(0, .inr (.inr (.inr (.inr (13, 0))))), (1, .inl op), (2, .inl aa)], [.inl aa, .inr (.inr (.inr (.inr (13, 0))))], (I, J, G, fm_P (1, 0) pb))) rfl ?_
          have K := fmC_callFunction_c (d := d) hl (by omega) I J G pb aa hp
          generalize er9 : fmC_callFunction_f I J G pb aa = r9 at he
          have he := he.trans (fm_letE _ _)
          rw [er9] at K
          refine fm_cV0 O fmC_callFunction_o (i := 0) (as := [.inl aa]) (rest := []) (v := none) rfl fk_1_163 rfl (by decide) fn_C_callFunction (Nat.le_of_ble_eq_true rfl) (K) ?_
          refine fm_gr O 1 (C' := (121, [(0, .inr (.inr (.inr (.inr (13, 0))))), (1, .inl op), (2, .inl aa)], [], (r9, J, G, fm_P (1, 0) pb))) rfl ?_
          exact fm_gRe O rfl trivial (by first | (rw [he]; done) | (rw [he]; rfl) | rfl) (by first | (rw [he]; done) | (rw [he]; rfl) | rfl)
        · have he := he.trans (if_neg h4)
          have hp := hp.2 h4
          refine fm_gt O rfl (by
              show op.toInt < 26 ∨ 29 < op.toInt
              have := lv_neT h1 (show (26 : Int32).toInt = 26 from by decide)
              have := lv_neT h2 (show (27 : Int32).toInt = 27 from by decide)
              have := lv_neT h3 (show (28 : Int32).toInt = 28 from by decide)
              have := lv_neT h4 (show (29 : Int32).toInt = 29 from by decide)
              omega) ?_
          refine fm_gr O 3 (C' := (113, [(0, .inr (.inr (.inr (.inr (13, 0))))), (1, .inl op), (2, .inl aa)], [.inl aa, .inl op, .inr (.inr (.inr (.inr (13, 0))))], (I, J, G, fm_P (1, 0) pb))) rfl ?_
          have hc := hp.1
          have hp := hp.2
          have K := fmC_addRow_c (d := d) hl (by omega) I J G pb op aa hc
          generalize er10 : fmC_addRow_f I op aa = r10 at he hp
          have he := he.trans (fm_letE _ _)
          have hp := fm_letP hp
          rw [er10] at K
          refine fm_cV0 O fmC_addRow_o (i := 0) (as := [.inl op, .inl aa]) (rest := []) (v := some (.inl r10.1)) rfl fk_1_100 rfl (by decide) fn_C_addRow (Nat.le_of_ble_eq_true rfl) (K) ?_
          refine fm_gr O 2 (C' := (118, [(0, .inr (.inr (.inr (.inr (13, 0))))), (1, .inl op), (2, .inl aa)], [.inr (.inr (.inr (.inr (13, 0))))], (r10.2, J, G, fm_P (1, 0) pb))) rfl ?_
          have K := fmC_die_c (d := d) hl (by omega) r10.2 J G pb hp
          generalize er11 : fmC_die_f r10.2 = r11 at he
          have he := he.trans (fm_letE _ _)
          rw [er11] at K
          refine fm_cV0 O fmC_die_o (i := 0) (as := []) (rest := []) (v := none) rfl fk_1_156 rfl (by decide) fn_C_die (Nat.le_of_ble_eq_true rfl) (K) ?_
          exact fm_gRe O rfl trivial (by first | (rw [he]; done) | (rw [he]; rfl) | rfl) (by first | (rw [he]; done) | (rw [he]; rfl) | rfl)
def fmC_instruction_f (I : fm_MI) (J : fm_MJ) (G : fm_MG) (pb : Nat × Nat) (op : Int32) (aa : Int32) : fm_MI :=
  fm_let (fmC_isAsSaid_f I op aa) (fun (r1 : Int32) => if r1 = 0 then (fm_u I 13 0 2 1) else (if 10 < op then (if 20 < op then (if 25 < op then (fm_let (fmC_leave_f I J G pb op aa) (fun (r2 : fm_MI) => r2)) else (fm_let (fmC_nest_f I J G pb op aa) (fun (r3 : fm_MI) => r3))) else (fm_let (fmC_compute_f I op aa) (fun (r4 : fm_MI) => r4))) else (fm_let (fmC_moveValues_f I op aa) (fun (r5 : fm_MI) => r5))))
theorem fmC_instruction_e (I : fm_MI) (J : fm_MJ) (G : fm_MG) (pb : Nat × Nat) (op : Int32) (aa : Int32) : fmC_instruction_f I J G pb op aa = fm_let (fmC_isAsSaid_f I op aa) (fun (r1 : Int32) => if r1 = 0 then (fm_u I 13 0 2 1) else (if 10 < op then (if 20 < op then (if 25 < op then (fm_let (fmC_leave_f I J G pb op aa) (fun (r2 : fm_MI) => r2)) else (fm_let (fmC_nest_f I J G pb op aa) (fun (r3 : fm_MI) => r3))) else (fm_let (fmC_compute_f I op aa) (fun (r4 : fm_MI) => r4))) else (fm_let (fmC_moveValues_f I op aa) (fun (r5 : fm_MI) => r5)))) := rfl
def fmC_instruction_p (I : fm_MI) (J : fm_MJ) (G : fm_MG) (pb : Nat × Nat) (op : Int32) (aa : Int32) : Prop :=
  fmC_isAsSaid_p I op aa ∧ (fm_let (fmC_isAsSaid_f I op aa) (fun (r1 : Int32) => (r1 = 0 → True) ∧ (¬ r1 = 0 → (10 < op → (20 < op → (25 < op → fmC_leave_p I J G pb op aa) ∧ (¬ 25 < op → fmC_nest_p I J G pb op aa)) ∧ (¬ 20 < op → fmC_compute_p I op aa)) ∧ (¬ 10 < op → fmC_moveValues_p I op aa))))
set_option maxRecDepth 100000 in
set_option maxHeartbeats 4000000 in
theorem fmC_instruction_c {E : fm_Ev} (hl : E.1.stackTraces = false) {d : Nat} (hd : 4 ≤ d) (I : fm_MI) (J : fm_MJ) (G : fm_MG) (pb : Nat × Nat) (op : Int32) (aa : Int32) (hp : fmC_instruction_p I J G pb op aa) : fm_Ct E d fmC_instruction 0 [.inr (.inr (.inr (.inr (13, 0)))), .inl op, .inl aa] (I, J, G, fm_P (1, 0) pb) none (fmC_instruction_f I J G pb op aa, J, G, fm_P (1, 0) pb) := by
  obtain ⟨d, rfl⟩ : ∃ d', d = d' + 1 := ⟨d - 1, by omega⟩
  refine fm_ct fmC_instruction_o hl (Nat.le_of_ble_eq_true rfl) ?_
  have O := fmC_instruction_o.1
  unfold fmC_instruction_p at hp
  have he := fmC_instruction_e I J G pb op aa
  refine fm_gr O 3 (C' := (3, [(0, .inr (.inr (.inr (.inr (13, 0))))), (1, .inl op), (2, .inl aa)], [.inl aa, .inl op, .inr (.inr (.inr (.inr (13, 0))))], (I, J, G, fm_P (1, 0) pb))) rfl ?_
  have hc := hp.1
  have hp := hp.2
  have K := fmC_isAsSaid_c (d := d) hl (by omega) I J G pb op aa hc
  generalize er1 : fmC_isAsSaid_f I op aa = r1 at he hp
  have he := he.trans (fm_letE _ _)
  have hp := fm_letP hp
  rw [er1] at K
  refine fm_cV0 O fmC_isAsSaid_o (i := 0) (as := [.inl op, .inl aa]) (rest := []) (v := some (.inl r1)) rfl fk_1_74 rfl (by decide) fn_C_isAsSaid (Nat.le_of_ble_eq_true rfl) (K) ?_
  refine fm_gb O rfl (fun h => ?_) (fun h => ?_)
  · have h1 : r1 = 0 := h
    have he := he.trans (if_pos h1)
    refine fm_gr O 4 (C' := (68, [(0, .inr (.inr (.inr (.inr (13, 0))))), (1, .inl op), (2, .inl aa)], [], (fm_u I 13 0 2 1, J, G, fm_P (1, 0) pb))) rfl ?_
    exact fm_gRe O rfl trivial (by first | (rw [he]; done) | (rw [he]; rfl) | rfl) (by first | (rw [he]; done) | (rw [he]; rfl) | rfl)
  · have h1 : ¬ r1 = 0 := h
    have he := he.trans (if_neg h1)
    have hp := hp.2 h1
    refine fm_gr O 2 (C' := (20, [(0, .inr (.inr (.inr (.inr (13, 0))))), (1, .inl op), (2, .inl aa)], [.inl 10, .inl op], (I, J, G, fm_P (1, 0) pb))) rfl ?_
    refine fm_gb O rfl (fun h => ?_) (fun h => ?_)
    · have h2 : 10 < op := h
      have he := he.trans (if_pos h2)
      have hp := hp.1 h2
      refine fm_gr O 2 (C' := (35, [(0, .inr (.inr (.inr (.inr (13, 0))))), (1, .inl op), (2, .inl aa)], [.inl 20, .inl op], (I, J, G, fm_P (1, 0) pb))) rfl ?_
      refine fm_gb O rfl (fun h => ?_) (fun h => ?_)
      · have h3 : 20 < op := h
        have he := he.trans (if_pos h3)
        have hp := hp.1 h3
        refine fm_gr O 2 (C' := (50, [(0, .inr (.inr (.inr (.inr (13, 0))))), (1, .inl op), (2, .inl aa)], [.inl 25, .inl op], (I, J, G, fm_P (1, 0) pb))) rfl ?_
        refine fm_gb O rfl (fun h => ?_) (fun h => ?_)
        · have h4 : 25 < op := h
          have he := he.trans (if_pos h4)
          have hp := hp.1 h4
          refine fm_gr O 3 (C' := (65, [(0, .inr (.inr (.inr (.inr (13, 0))))), (1, .inl op), (2, .inl aa)], [.inl aa, .inl op, .inr (.inr (.inr (.inr (13, 0))))], (I, J, G, fm_P (1, 0) pb))) rfl ?_
          have K := fmC_leave_c (d := d) hl (by omega) I J G pb op aa hp
          generalize er2 : fmC_leave_f I J G pb op aa = r2 at he
          have he := he.trans (fm_letE _ _)
          rw [er2] at K
          refine fm_cV0 O fmC_leave_o (i := 0) (as := [.inl op, .inl aa]) (rest := []) (v := none) rfl fk_1_87 rfl (by decide) fn_C_leave (Nat.le_of_ble_eq_true rfl) (K) ?_
          exact fm_gRe O rfl trivial (by first | (rw [he]; done) | (rw [he]; rfl) | rfl) (by first | (rw [he]; done) | (rw [he]; rfl) | rfl)
        · have h4 : ¬ 25 < op := h
          have he := he.trans (if_neg h4)
          have hp := hp.2 h4
          refine fm_gr O 3 (C' := (56, [(0, .inr (.inr (.inr (.inr (13, 0))))), (1, .inl op), (2, .inl aa)], [.inl aa, .inl op, .inr (.inr (.inr (.inr (13, 0))))], (I, J, G, fm_P (1, 0) pb))) rfl ?_
          have K := fmC_nest_c (d := d) hl (by omega) I J G pb op aa hp
          generalize er3 : fmC_nest_f I J G pb op aa = r3 at he
          have he := he.trans (fm_letE _ _)
          rw [er3] at K
          refine fm_cV0 O fmC_nest_o (i := 0) (as := [.inl op, .inl aa]) (rest := []) (v := none) rfl fk_1_84 rfl (by decide) fn_C_nest (Nat.le_of_ble_eq_true rfl) (K) ?_
          refine fm_gr O 1 (C' := (68, [(0, .inr (.inr (.inr (.inr (13, 0))))), (1, .inl op), (2, .inl aa)], [], (r3, J, G, fm_P (1, 0) pb))) rfl ?_
          exact fm_gRe O rfl trivial (by first | (rw [he]; done) | (rw [he]; rfl) | rfl) (by first | (rw [he]; done) | (rw [he]; rfl) | rfl)
      · have h3 : ¬ 20 < op := h
        have he := he.trans (if_neg h3)
        have hp := hp.2 h3
        refine fm_gr O 3 (C' := (41, [(0, .inr (.inr (.inr (.inr (13, 0))))), (1, .inl op), (2, .inl aa)], [.inl aa, .inl op, .inr (.inr (.inr (.inr (13, 0))))], (I, J, G, fm_P (1, 0) pb))) rfl ?_
        have K := fmC_compute_c (d := d) hl (by omega) I J G pb op aa hp
        generalize er4 : fmC_compute_f I op aa = r4 at he
        have he := he.trans (fm_letE _ _)
        rw [er4] at K
        refine fm_cV0 O fmC_compute_o (i := 0) (as := [.inl op, .inl aa]) (rest := []) (v := none) rfl fk_1_81 rfl (by decide) fn_C_compute (Nat.le_of_ble_eq_true rfl) (K) ?_
        refine fm_gr O 1 (C' := (68, [(0, .inr (.inr (.inr (.inr (13, 0))))), (1, .inl op), (2, .inl aa)], [], (r4, J, G, fm_P (1, 0) pb))) rfl ?_
        exact fm_gRe O rfl trivial (by first | (rw [he]; done) | (rw [he]; rfl) | rfl) (by first | (rw [he]; done) | (rw [he]; rfl) | rfl)
    · have h2 : ¬ 10 < op := h
      have he := he.trans (if_neg h2)
      have hp := hp.2 h2
      refine fm_gr O 3 (C' := (26, [(0, .inr (.inr (.inr (.inr (13, 0))))), (1, .inl op), (2, .inl aa)], [.inl aa, .inl op, .inr (.inr (.inr (.inr (13, 0))))], (I, J, G, fm_P (1, 0) pb))) rfl ?_
      have K := fmC_moveValues_c (d := d) hl (by omega) I J G pb op aa hp
      generalize er5 : fmC_moveValues_f I op aa = r5 at he
      have he := he.trans (fm_letE _ _)
      rw [er5] at K
      refine fm_cV0 O fmC_moveValues_o (i := 0) (as := [.inl op, .inl aa]) (rest := []) (v := none) rfl fk_1_78 rfl (by decide) fn_C_moveValues (Nat.le_of_ble_eq_true rfl) (K) ?_
      refine fm_gr O 1 (C' := (68, [(0, .inr (.inr (.inr (.inr (13, 0))))), (1, .inl op), (2, .inl aa)], [], (r5, J, G, fm_P (1, 0) pb))) rfl ?_
      exact fm_gRe O rfl trivial (by first | (rw [he]; done) | (rw [he]; rfl) | rfl) (by first | (rw [he]; done) | (rw [he]; rfl) | rfl)
