/-! THE CHECKER, by program (wip/tools/walk.py, gen_c2.py) -/
def fmC_moveValues_f (I : fm_MI) (op : Int32) (aa : Int32) : fm_MI :=
  if op = 4 then (fmC_put_f ((fmC_addRow_f I op aa).2) (((fmC_addRow_f I op aa).2) 3 ((((fmC_addRow_f I op aa).2) 13 0 1).toNatClampNeg) aa.toNatClampNeg)) else (if op = 5 then ((fmC_addRow_f ((fmC_take_f I (I 3 ((I 13 0 1).toNatClampNeg) aa.toNatClampNeg)).2) op aa).2) else (if op = 6 then (fmC_put_f ((fmC_addRow_f ((fmC_take_f I (I 3 ((I 13 0 1).toNatClampNeg) aa.toNatClampNeg)).2) op aa).2) (((fmC_addRow_f ((fmC_take_f I (I 3 ((I 13 0 1).toNatClampNeg) aa.toNatClampNeg)).2) op aa).2) 3 ((((fmC_addRow_f ((fmC_take_f I (I 3 ((I 13 0 1).toNatClampNeg) aa.toNatClampNeg)).2) op aa).2) 13 0 1).toNatClampNeg) aa.toNatClampNeg)) else (if op = 7 then (fmC_put_f ((fmC_addRow_f I op aa).2) aa) else (if op = 8 then ((fmC_addRow_f ((fmC_take_f I aa).2) op aa).2) else (if op = 9 then ((fmC_addRow_f ((fmC_take_f I 5).2) op aa).2) else (if op = 10 then (fmC_put_f ((fmC_addRow_f ((fmC_take_f ((fmC_take_f ((fmC_take_f I 0).2) 5).2) ((fmC_take_f ((fmC_take_f I 0).2) 5).1)).2) op aa).2) ((fmC_take_f ((fmC_take_f ((fmC_take_f I 0).2) 5).2) ((fmC_take_f ((fmC_take_f I 0).2) 5).1)).1)) else (fmC_put_f ((fmC_addRow_f I op aa).2) op)))))))
theorem fmC_moveValues_e (I : fm_MI) (op : Int32) (aa : Int32) : fmC_moveValues_f I op aa = if op = 4 then (fmC_put_f ((fmC_addRow_f I op aa).2) (((fmC_addRow_f I op aa).2) 3 ((((fmC_addRow_f I op aa).2) 13 0 1).toNatClampNeg) aa.toNatClampNeg)) else (if op = 5 then ((fmC_addRow_f ((fmC_take_f I (I 3 ((I 13 0 1).toNatClampNeg) aa.toNatClampNeg)).2) op aa).2) else (if op = 6 then (fmC_put_f ((fmC_addRow_f ((fmC_take_f I (I 3 ((I 13 0 1).toNatClampNeg) aa.toNatClampNeg)).2) op aa).2) (((fmC_addRow_f ((fmC_take_f I (I 3 ((I 13 0 1).toNatClampNeg) aa.toNatClampNeg)).2) op aa).2) 3 ((((fmC_addRow_f ((fmC_take_f I (I 3 ((I 13 0 1).toNatClampNeg) aa.toNatClampNeg)).2) op aa).2) 13 0 1).toNatClampNeg) aa.toNatClampNeg)) else (if op = 7 then (fmC_put_f ((fmC_addRow_f I op aa).2) aa) else (if op = 8 then ((fmC_addRow_f ((fmC_take_f I aa).2) op aa).2) else (if op = 9 then ((fmC_addRow_f ((fmC_take_f I 5).2) op aa).2) else (if op = 10 then (fmC_put_f ((fmC_addRow_f ((fmC_take_f ((fmC_take_f ((fmC_take_f I 0).2) 5).2) ((fmC_take_f ((fmC_take_f I 0).2) 5).1)).2) op aa).2) ((fmC_take_f ((fmC_take_f ((fmC_take_f I 0).2) 5).2) ((fmC_take_f ((fmC_take_f I 0).2) 5).1)).1)) else (fmC_put_f ((fmC_addRow_f I op aa).2) op))))))) := rfl
def fmC_moveValues_p (I : fm_MI) (op : Int32) (aa : Int32) : Prop :=
  (op = 4 → fmC_addRow_p I ∧ (fmC_subject_p ((fmC_addRow_f I op aa).2) ∧ ((vp_in aa 6) ∧ (fmC_put_p ((fmC_addRow_f I op aa).2) (((fmC_addRow_f I op aa).2) 3 ((((fmC_addRow_f I op aa).2) 13 0 1).toNatClampNeg) aa.toNatClampNeg))))) ∧ (¬ op = 4 → (op = 5 → fmC_subject_p I ∧ ((vp_in aa 6) ∧ (fmC_take_p I (I 3 ((I 13 0 1).toNatClampNeg) aa.toNatClampNeg) ∧ (fmC_addRow_p ((fmC_take_f I (I 3 ((I 13 0 1).toNatClampNeg) aa.toNatClampNeg)).2))))) ∧ (¬ op = 5 → (op = 6 → fmC_subject_p I ∧ ((vp_in aa 6) ∧ (fmC_take_p I (I 3 ((I 13 0 1).toNatClampNeg) aa.toNatClampNeg) ∧ (fmC_addRow_p ((fmC_take_f I (I 3 ((I 13 0 1).toNatClampNeg) aa.toNatClampNeg)).2) ∧ (fmC_subject_p ((fmC_addRow_f ((fmC_take_f I (I 3 ((I 13 0 1).toNatClampNeg) aa.toNatClampNeg)).2) op aa).2) ∧ ((vp_in aa 6) ∧ (fmC_put_p ((fmC_addRow_f ((fmC_take_f I (I 3 ((I 13 0 1).toNatClampNeg) aa.toNatClampNeg)).2) op aa).2) (((fmC_addRow_f ((fmC_take_f I (I 3 ((I 13 0 1).toNatClampNeg) aa.toNatClampNeg)).2) op aa).2) 3 ((((fmC_addRow_f ((fmC_take_f I (I 3 ((I 13 0 1).toNatClampNeg) aa.toNatClampNeg)).2) op aa).2) 13 0 1).toNatClampNeg) aa.toNatClampNeg)))))))) ∧ (¬ op = 6 → (op = 7 → fmC_addRow_p I ∧ (fmC_put_p ((fmC_addRow_f I op aa).2) aa)) ∧ (¬ op = 7 → (op = 8 → fmC_take_p I aa ∧ (fmC_addRow_p ((fmC_take_f I aa).2))) ∧ (¬ op = 8 → (op = 9 → fmC_take_p I 5 ∧ (fmC_addRow_p ((fmC_take_f I 5).2))) ∧ (¬ op = 9 → (op = 10 → fmC_take_p I 0 ∧ (fmC_take_p ((fmC_take_f I 0).2) 5 ∧ (fmC_take_p ((fmC_take_f ((fmC_take_f I 0).2) 5).2) ((fmC_take_f ((fmC_take_f I 0).2) 5).1) ∧ (fmC_addRow_p ((fmC_take_f ((fmC_take_f ((fmC_take_f I 0).2) 5).2) ((fmC_take_f ((fmC_take_f I 0).2) 5).1)).2) ∧ (fmC_put_p ((fmC_addRow_f ((fmC_take_f ((fmC_take_f ((fmC_take_f I 0).2) 5).2) ((fmC_take_f ((fmC_take_f I 0).2) 5).1)).2) op aa).2) ((fmC_take_f ((fmC_take_f ((fmC_take_f I 0).2) 5).2) ((fmC_take_f ((fmC_take_f I 0).2) 5).1)).1)))))) ∧ (¬ op = 10 → fmC_addRow_p I ∧ (fmC_put_p ((fmC_addRow_f I op aa).2) op))))))))
set_option maxRecDepth 100000 in
set_option maxHeartbeats 4000000 in
theorem fmC_moveValues_c {E : fm_Ev} (hl : E.1.stackTraces = false) {d : Nat} (hd : 2 ≤ d) (I : fm_MI) (J : fm_MJ) (G : fm_MG) (pb : Nat × Nat) (op : Int32) (aa : Int32) (hp : fmC_moveValues_p I op aa) : fm_Ct E d fmC_moveValues 0 [.inr (.inr (.inr (.inr (13, 0)))), .inl op, .inl aa] (I, J, G, fm_P (1, 0) pb) none (fmC_moveValues_f I op aa, J, G, fm_P (1, 0) pb) := by
  obtain ⟨d, rfl⟩ : ∃ d', d = d' + 1 := ⟨d - 1, by omega⟩
  refine fm_ct fmC_moveValues_o hl (Nat.le_of_ble_eq_true rfl) ?_
  have O := fmC_moveValues_o.1
  unfold fmC_moveValues_p at hp
  have he := fmC_moveValues_e I op aa
  refine fm_gr O 1 (C' := (1, [(0, .inr (.inr (.inr (.inr (13, 0))))), (1, .inl op), (2, .inl aa)], [.inl op], (I, J, G, fm_P (1, 0) pb))) rfl ?_
  by_cases h1 : op = 4
  · have he := he.trans (if_pos h1)
    have hp := hp.1 h1
    refine fm_gs O 4 rfl (show op.toInt = 4 from by rw [h1]; decide) ?_
    refine fm_gr O 3 (C' := (47, [(0, .inr (.inr (.inr (.inr (13, 0))))), (1, .inl op), (2, .inl aa)], [.inl aa, .inl op, .inr (.inr (.inr (.inr (13, 0))))], (I, J, G, fm_P (1, 0) pb))) rfl ?_
    refine fm_cV0 O fmC_addRow_o (i := 0) (as := [.inl op, .inl aa]) (rest := []) (v := some (.inl ((fmC_addRow_f I op aa).1))) rfl fk_1_100 rfl (by decide) fn_C_addRow (Nat.le_of_ble_eq_true rfl) (fmC_addRow_c hl (by omega) I J G pb op aa hp.1) ?_
    have hp := hp.2
    refine fm_gr O 3 (C' := (53, [(0, .inr (.inr (.inr (.inr (13, 0))))), (1, .inl op), (2, .inl aa)], [.inr (.inr (.inr (.inr (13, 0)))), .inr (.inr (.inr (.inr (13, 0))))], ((fmC_addRow_f I op aa).2, J, G, fm_P (1, 0) pb))) rfl ?_
    refine fm_cV0 O fmC_subject_o (i := 0) (as := []) (rest := [.inr (.inr (.inr (.inr (13, 0))))]) (v := some (.inr (.inr (.inr (.inr (2, (((fmC_addRow_f I op aa).2) 13 0 1).toNatClampNeg)))))) rfl fk_1_41 rfl (by decide) fn_C_subject (Nat.le_of_ble_eq_true rfl) (fmC_subject_c hl (by omega) ((fmC_addRow_f I op aa).2) J G pb hp.1) ?_
    have hp := hp.2
    refine fm_gr O 2 (C' := (60, [(0, .inr (.inr (.inr (.inr (13, 0))))), (1, .inl op), (2, .inl aa)], [.inl aa, .inr (.inr (.inr (.inr (3, (((fmC_addRow_f I op aa).2) 13 0 1).toNatClampNeg)))), .inr (.inr (.inr (.inr (13, 0))))], ((fmC_addRow_f I op aa).2, J, G, fm_P (1, 0) pb))) rfl ?_
    refine fm_gg O rfl hp.1 ?_
    have hp := hp.2
    refine fm_cV0 O fmC_put_o (i := 0) (as := [.inl (((fmC_addRow_f I op aa).2) 3 ((((fmC_addRow_f I op aa).2) 13 0 1).toNatClampNeg) aa.toNatClampNeg)]) (rest := []) (v := none) rfl fk_1_105 rfl (by decide) fn_C_put (Nat.le_of_ble_eq_true rfl) (fmC_put_c hl (by omega) ((fmC_addRow_f I op aa).2) J G pb (((fmC_addRow_f I op aa).2) 3 ((((fmC_addRow_f I op aa).2) 13 0 1).toNatClampNeg) aa.toNatClampNeg) hp) ?_
    refine fm_gr O 1 (C' := (218, [(0, .inr (.inr (.inr (.inr (13, 0))))), (1, .inl op), (2, .inl aa)], [], (fmC_put_f ((fmC_addRow_f I op aa).2) (((fmC_addRow_f I op aa).2) 3 ((((fmC_addRow_f I op aa).2) 13 0 1).toNatClampNeg) aa.toNatClampNeg), J, G, fm_P (1, 0) pb))) rfl ?_
    exact fm_gRe O rfl trivial (by first | rw [he] | rfl) (by first | rw [he] | rfl)
  · have he := he.trans (if_neg h1)
    have hp := hp.2 h1
    by_cases h2 : op = 5
    · have he := he.trans (if_pos h2)
      have hp := hp.1 h2
      refine fm_gs O 5 rfl (show op.toInt = 5 from by rw [h2]; decide) ?_
      refine fm_gr O 2 (C' := (69, [(0, .inr (.inr (.inr (.inr (13, 0))))), (1, .inl op), (2, .inl aa)], [.inr (.inr (.inr (.inr (13, 0)))), .inr (.inr (.inr (.inr (13, 0))))], (I, J, G, fm_P (1, 0) pb))) rfl ?_
      refine fm_cV0 O fmC_subject_o (i := 0) (as := []) (rest := [.inr (.inr (.inr (.inr (13, 0))))]) (v := some (.inr (.inr (.inr (.inr (2, (I 13 0 1).toNatClampNeg)))))) rfl fk_1_41 rfl (by decide) fn_C_subject (Nat.le_of_ble_eq_true rfl) (fmC_subject_c hl (by omega) I J G pb hp.1) ?_
      have hp := hp.2
      refine fm_gr O 2 (C' := (76, [(0, .inr (.inr (.inr (.inr (13, 0))))), (1, .inl op), (2, .inl aa)], [.inl aa, .inr (.inr (.inr (.inr (3, (I 13 0 1).toNatClampNeg)))), .inr (.inr (.inr (.inr (13, 0))))], (I, J, G, fm_P (1, 0) pb))) rfl ?_
      refine fm_gg O rfl hp.1 ?_
      have hp := hp.2
      refine fm_cV0 O fmC_take_o (i := 0) (as := [.inl (I 3 ((I 13 0 1).toNatClampNeg) aa.toNatClampNeg)]) (rest := []) (v := some (.inl ((fmC_take_f I (I 3 ((I 13 0 1).toNatClampNeg) aa.toNatClampNeg)).1))) rfl fk_1_109 rfl (by decide) fn_C_take (Nat.le_of_ble_eq_true rfl) (fmC_take_c hl (by omega) I J G pb (I 3 ((I 13 0 1).toNatClampNeg) aa.toNatClampNeg) hp.1) ?_
      have hp := hp.2
      refine fm_gr O 4 (C' := (84, [(0, .inr (.inr (.inr (.inr (13, 0))))), (1, .inl op), (2, .inl aa)], [.inl aa, .inl op, .inr (.inr (.inr (.inr (13, 0))))], ((fmC_take_f I (I 3 ((I 13 0 1).toNatClampNeg) aa.toNatClampNeg)).2, J, G, fm_P (1, 0) pb))) rfl ?_
      refine fm_cV0 O fmC_addRow_o (i := 0) (as := [.inl op, .inl aa]) (rest := []) (v := some (.inl ((fmC_addRow_f ((fmC_take_f I (I 3 ((I 13 0 1).toNatClampNeg) aa.toNatClampNeg)).2) op aa).1))) rfl fk_1_100 rfl (by decide) fn_C_addRow (Nat.le_of_ble_eq_true rfl) (fmC_addRow_c hl (by omega) ((fmC_take_f I (I 3 ((I 13 0 1).toNatClampNeg) aa.toNatClampNeg)).2) J G pb op aa hp) ?_
      refine fm_gr O 2 (C' := (218, [(0, .inr (.inr (.inr (.inr (13, 0))))), (1, .inl op), (2, .inl aa)], [], ((fmC_addRow_f ((fmC_take_f I (I 3 ((I 13 0 1).toNatClampNeg) aa.toNatClampNeg)).2) op aa).2, J, G, fm_P (1, 0) pb))) rfl ?_
      exact fm_gRe O rfl trivial (by first | rw [he] | rfl) (by first | rw [he] | rfl)
    · have he := he.trans (if_neg h2)
      have hp := hp.2 h2
      by_cases h3 : op = 6
      · have he := he.trans (if_pos h3)
        have hp := hp.1 h3
        refine fm_gs O 6 rfl (show op.toInt = 6 from by rw [h3]; decide) ?_
        refine fm_gr O 2 (C' := (93, [(0, .inr (.inr (.inr (.inr (13, 0))))), (1, .inl op), (2, .inl aa)], [.inr (.inr (.inr (.inr (13, 0)))), .inr (.inr (.inr (.inr (13, 0))))], (I, J, G, fm_P (1, 0) pb))) rfl ?_
        refine fm_cV0 O fmC_subject_o (i := 0) (as := []) (rest := [.inr (.inr (.inr (.inr (13, 0))))]) (v := some (.inr (.inr (.inr (.inr (2, (I 13 0 1).toNatClampNeg)))))) rfl fk_1_41 rfl (by decide) fn_C_subject (Nat.le_of_ble_eq_true rfl) (fmC_subject_c hl (by omega) I J G pb hp.1) ?_
        have hp := hp.2
        refine fm_gr O 2 (C' := (100, [(0, .inr (.inr (.inr (.inr (13, 0))))), (1, .inl op), (2, .inl aa)], [.inl aa, .inr (.inr (.inr (.inr (3, (I 13 0 1).toNatClampNeg)))), .inr (.inr (.inr (.inr (13, 0))))], (I, J, G, fm_P (1, 0) pb))) rfl ?_
        refine fm_gg O rfl hp.1 ?_
        have hp := hp.2
        refine fm_cV0 O fmC_take_o (i := 0) (as := [.inl (I 3 ((I 13 0 1).toNatClampNeg) aa.toNatClampNeg)]) (rest := []) (v := some (.inl ((fmC_take_f I (I 3 ((I 13 0 1).toNatClampNeg) aa.toNatClampNeg)).1))) rfl fk_1_109 rfl (by decide) fn_C_take (Nat.le_of_ble_eq_true rfl) (fmC_take_c hl (by omega) I J G pb (I 3 ((I 13 0 1).toNatClampNeg) aa.toNatClampNeg) hp.1) ?_
        have hp := hp.2
        refine fm_gr O 4 (C' := (108, [(0, .inr (.inr (.inr (.inr (13, 0))))), (1, .inl op), (2, .inl aa)], [.inl aa, .inl op, .inr (.inr (.inr (.inr (13, 0))))], ((fmC_take_f I (I 3 ((I 13 0 1).toNatClampNeg) aa.toNatClampNeg)).2, J, G, fm_P (1, 0) pb))) rfl ?_
        refine fm_cV0 O fmC_addRow_o (i := 0) (as := [.inl op, .inl aa]) (rest := []) (v := some (.inl ((fmC_addRow_f ((fmC_take_f I (I 3 ((I 13 0 1).toNatClampNeg) aa.toNatClampNeg)).2) op aa).1))) rfl fk_1_100 rfl (by decide) fn_C_addRow (Nat.le_of_ble_eq_true rfl) (fmC_addRow_c hl (by omega) ((fmC_take_f I (I 3 ((I 13 0 1).toNatClampNeg) aa.toNatClampNeg)).2) J G pb op aa hp.1) ?_
        have hp := hp.2
        refine fm_gr O 3 (C' := (114, [(0, .inr (.inr (.inr (.inr (13, 0))))), (1, .inl op), (2, .inl aa)], [.inr (.inr (.inr (.inr (13, 0)))), .inr (.inr (.inr (.inr (13, 0))))], ((fmC_addRow_f ((fmC_take_f I (I 3 ((I 13 0 1).toNatClampNeg) aa.toNatClampNeg)).2) op aa).2, J, G, fm_P (1, 0) pb))) rfl ?_
        refine fm_cV0 O fmC_subject_o (i := 0) (as := []) (rest := [.inr (.inr (.inr (.inr (13, 0))))]) (v := some (.inr (.inr (.inr (.inr (2, (((fmC_addRow_f ((fmC_take_f I (I 3 ((I 13 0 1).toNatClampNeg) aa.toNatClampNeg)).2) op aa).2) 13 0 1).toNatClampNeg)))))) rfl fk_1_41 rfl (by decide) fn_C_subject (Nat.le_of_ble_eq_true rfl) (fmC_subject_c hl (by omega) ((fmC_addRow_f ((fmC_take_f I (I 3 ((I 13 0 1).toNatClampNeg) aa.toNatClampNeg)).2) op aa).2) J G pb hp.1) ?_
        have hp := hp.2
        refine fm_gr O 2 (C' := (121, [(0, .inr (.inr (.inr (.inr (13, 0))))), (1, .inl op), (2, .inl aa)], [.inl aa, .inr (.inr (.inr (.inr (3, (((fmC_addRow_f ((fmC_take_f I (I 3 ((I 13 0 1).toNatClampNeg) aa.toNatClampNeg)).2) op aa).2) 13 0 1).toNatClampNeg)))), .inr (.inr (.inr (.inr (13, 0))))], ((fmC_addRow_f ((fmC_take_f I (I 3 ((I 13 0 1).toNatClampNeg) aa.toNatClampNeg)).2) op aa).2, J, G, fm_P (1, 0) pb))) rfl ?_
        refine fm_gg O rfl hp.1 ?_
        have hp := hp.2
        refine fm_cV0 O fmC_put_o (i := 0) (as := [.inl (((fmC_addRow_f ((fmC_take_f I (I 3 ((I 13 0 1).toNatClampNeg) aa.toNatClampNeg)).2) op aa).2) 3 ((((fmC_addRow_f ((fmC_take_f I (I 3 ((I 13 0 1).toNatClampNeg) aa.toNatClampNeg)).2) op aa).2) 13 0 1).toNatClampNeg) aa.toNatClampNeg)]) (rest := []) (v := none) rfl fk_1_105 rfl (by decide) fn_C_put (Nat.le_of_ble_eq_true rfl) (fmC_put_c hl (by omega) ((fmC_addRow_f ((fmC_take_f I (I 3 ((I 13 0 1).toNatClampNeg) aa.toNatClampNeg)).2) op aa).2) J G pb (((fmC_addRow_f ((fmC_take_f I (I 3 ((I 13 0 1).toNatClampNeg) aa.toNatClampNeg)).2) op aa).2) 3 ((((fmC_addRow_f ((fmC_take_f I (I 3 ((I 13 0 1).toNatClampNeg) aa.toNatClampNeg)).2) op aa).2) 13 0 1).toNatClampNeg) aa.toNatClampNeg) hp) ?_
        refine fm_gr O 1 (C' := (218, [(0, .inr (.inr (.inr (.inr (13, 0))))), (1, .inl op), (2, .inl aa)], [], (fmC_put_f ((fmC_addRow_f ((fmC_take_f I (I 3 ((I 13 0 1).toNatClampNeg) aa.toNatClampNeg)).2) op aa).2) (((fmC_addRow_f ((fmC_take_f I (I 3 ((I 13 0 1).toNatClampNeg) aa.toNatClampNeg)).2) op aa).2) 3 ((((fmC_addRow_f ((fmC_take_f I (I 3 ((I 13 0 1).toNatClampNeg) aa.toNatClampNeg)).2) op aa).2) 13 0 1).toNatClampNeg) aa.toNatClampNeg), J, G, fm_P (1, 0) pb))) rfl ?_
        exact fm_gRe O rfl trivial (by first | rw [he] | rfl) (by first | rw [he] | rfl)
      · have he := he.trans (if_neg h3)
        have hp := hp.2 h3
        by_cases h4 : op = 7
        · have he := he.trans (if_pos h4)
          have hp := hp.1 h4
          refine fm_gs O 7 rfl (show op.toInt = 7 from by rw [h4]; decide) ?_
          refine fm_gr O 3 (C' := (131, [(0, .inr (.inr (.inr (.inr (13, 0))))), (1, .inl op), (2, .inl aa)], [.inl aa, .inl op, .inr (.inr (.inr (.inr (13, 0))))], (I, J, G, fm_P (1, 0) pb))) rfl ?_
          refine fm_cV0 O fmC_addRow_o (i := 0) (as := [.inl op, .inl aa]) (rest := []) (v := some (.inl ((fmC_addRow_f I op aa).1))) rfl fk_1_100 rfl (by decide) fn_C_addRow (Nat.le_of_ble_eq_true rfl) (fmC_addRow_c hl (by omega) I J G pb op aa hp.1) ?_
          have hp := hp.2
          refine fm_gr O 3 (C' := (137, [(0, .inr (.inr (.inr (.inr (13, 0))))), (1, .inl op), (2, .inl aa)], [.inl aa, .inr (.inr (.inr (.inr (13, 0))))], ((fmC_addRow_f I op aa).2, J, G, fm_P (1, 0) pb))) rfl ?_
          refine fm_cV0 O fmC_put_o (i := 0) (as := [.inl aa]) (rest := []) (v := none) rfl fk_1_105 rfl (by decide) fn_C_put (Nat.le_of_ble_eq_true rfl) (fmC_put_c hl (by omega) ((fmC_addRow_f I op aa).2) J G pb aa hp) ?_
          refine fm_gr O 1 (C' := (218, [(0, .inr (.inr (.inr (.inr (13, 0))))), (1, .inl op), (2, .inl aa)], [], (fmC_put_f ((fmC_addRow_f I op aa).2) aa, J, G, fm_P (1, 0) pb))) rfl ?_
          exact fm_gRe O rfl trivial (by first | rw [he] | rfl) (by first | rw [he] | rfl)
        · have he := he.trans (if_neg h4)
          have hp := hp.2 h4
          by_cases h5 : op = 8
          · have he := he.trans (if_pos h5)
            have hp := hp.1 h5
            refine fm_gs O 8 rfl (show op.toInt = 8 from by rw [h5]; decide) ?_
            refine fm_gr O 2 (C' := (145, [(0, .inr (.inr (.inr (.inr (13, 0))))), (1, .inl op), (2, .inl aa)], [.inl aa, .inr (.inr (.inr (.inr (13, 0))))], (I, J, G, fm_P (1, 0) pb))) rfl ?_
            refine fm_cV0 O fmC_take_o (i := 0) (as := [.inl aa]) (rest := []) (v := some (.inl ((fmC_take_f I aa).1))) rfl fk_1_109 rfl (by decide) fn_C_take (Nat.le_of_ble_eq_true rfl) (fmC_take_c hl (by omega) I J G pb aa hp.1) ?_
            have hp := hp.2
            refine fm_gr O 4 (C' := (152, [(0, .inr (.inr (.inr (.inr (13, 0))))), (1, .inl op), (2, .inl aa)], [.inl aa, .inl op, .inr (.inr (.inr (.inr (13, 0))))], ((fmC_take_f I aa).2, J, G, fm_P (1, 0) pb))) rfl ?_
            refine fm_cV0 O fmC_addRow_o (i := 0) (as := [.inl op, .inl aa]) (rest := []) (v := some (.inl ((fmC_addRow_f ((fmC_take_f I aa).2) op aa).1))) rfl fk_1_100 rfl (by decide) fn_C_addRow (Nat.le_of_ble_eq_true rfl) (fmC_addRow_c hl (by omega) ((fmC_take_f I aa).2) J G pb op aa hp) ?_
            refine fm_gr O 2 (C' := (218, [(0, .inr (.inr (.inr (.inr (13, 0))))), (1, .inl op), (2, .inl aa)], [], ((fmC_addRow_f ((fmC_take_f I aa).2) op aa).2, J, G, fm_P (1, 0) pb))) rfl ?_
            exact fm_gRe O rfl trivial (by first | rw [he] | rfl) (by first | rw [he] | rfl)
          · have he := he.trans (if_neg h5)
            have hp := hp.2 h5
            by_cases h6 : op = 9
            · have he := he.trans (if_pos h6)
              have hp := hp.1 h6
              refine fm_gs O 9 rfl (show op.toInt = 9 from by rw [h6]; decide) ?_
              refine fm_gr O 2 (C' := (161, [(0, .inr (.inr (.inr (.inr (13, 0))))), (1, .inl op), (2, .inl aa)], [.inl 5, .inr (.inr (.inr (.inr (13, 0))))], (I, J, G, fm_P (1, 0) pb))) rfl ?_
              refine fm_cV0 O fmC_take_o (i := 0) (as := [.inl 5]) (rest := []) (v := some (.inl ((fmC_take_f I 5).1))) rfl fk_1_109 rfl (by decide) fn_C_take (Nat.le_of_ble_eq_true rfl) (fmC_take_c hl (by omega) I J G pb 5 hp.1) ?_
              have hp := hp.2
              refine fm_gr O 4 (C' := (168, [(0, .inr (.inr (.inr (.inr (13, 0))))), (1, .inl op), (2, .inl aa)], [.inl aa, .inl op, .inr (.inr (.inr (.inr (13, 0))))], ((fmC_take_f I 5).2, J, G, fm_P (1, 0) pb))) rfl ?_
              refine fm_cV0 O fmC_addRow_o (i := 0) (as := [.inl op, .inl aa]) (rest := []) (v := some (.inl ((fmC_addRow_f ((fmC_take_f I 5).2) op aa).1))) rfl fk_1_100 rfl (by decide) fn_C_addRow (Nat.le_of_ble_eq_true rfl) (fmC_addRow_c hl (by omega) ((fmC_take_f I 5).2) J G pb op aa hp) ?_
              refine fm_gr O 2 (C' := (218, [(0, .inr (.inr (.inr (.inr (13, 0))))), (1, .inl op), (2, .inl aa)], [], ((fmC_addRow_f ((fmC_take_f I 5).2) op aa).2, J, G, fm_P (1, 0) pb))) rfl ?_
              exact fm_gRe O rfl trivial (by first | rw [he] | rfl) (by first | rw [he] | rfl)
            · have he := he.trans (if_neg h6)
              have hp := hp.2 h6
              by_cases h7 : op = 10
              · have he := he.trans (if_pos h7)
                have hp := hp.1 h7
                refine fm_gs O 10 rfl (show op.toInt = 10 from by rw [h7]; decide) ?_
                refine fm_gr O 2 (C' := (177, [(0, .inr (.inr (.inr (.inr (13, 0))))), (1, .inl op), (2, .inl aa)], [.inl 0, .inr (.inr (.inr (.inr (13, 0))))], (I, J, G, fm_P (1, 0) pb))) rfl ?_
                refine fm_cV0 O fmC_take_o (i := 0) (as := [.inl 0]) (rest := []) (v := some (.inl ((fmC_take_f I 0).1))) rfl fk_1_109 rfl (by decide) fn_C_take (Nat.le_of_ble_eq_true rfl) (fmC_take_c hl (by omega) I J G pb 0 hp.1) ?_
                have hp := hp.2
                refine fm_gr O 4 (C' := (184, [(0, .inr (.inr (.inr (.inr (13, 0))))), (1, .inl op), (2, .inl aa)], [.inl 5, .inr (.inr (.inr (.inr (13, 0)))), .inr (.inr (.inr (.inr (13, 0))))], ((fmC_take_f I 0).2, J, G, fm_P (1, 0) pb))) rfl ?_
                refine fm_cV0 O fmC_take_o (i := 0) (as := [.inl 5]) (rest := [.inr (.inr (.inr (.inr (13, 0))))]) (v := some (.inl ((fmC_take_f ((fmC_take_f I 0).2) 5).1))) rfl fk_1_109 rfl (by decide) fn_C_take (Nat.le_of_ble_eq_true rfl) (fmC_take_c hl (by omega) ((fmC_take_f I 0).2) J G pb 5 hp.1) ?_
                have hp := hp.2
                refine fm_cV0 O fmC_take_o (i := 0) (as := [.inl ((fmC_take_f ((fmC_take_f I 0).2) 5).1)]) (rest := []) (v := some (.inl ((fmC_take_f ((fmC_take_f ((fmC_take_f I 0).2) 5).2) ((fmC_take_f ((fmC_take_f I 0).2) 5).1)).1))) rfl fk_1_109 rfl (by decide) fn_C_take (Nat.le_of_ble_eq_true rfl) (fmC_take_c hl (by omega) ((fmC_take_f ((fmC_take_f I 0).2) 5).2) J G pb ((fmC_take_f ((fmC_take_f I 0).2) 5).1) hp.1) ?_
                have hp := hp.2
                refine fm_gr O 4 (C' := (194, [(3, .inl ((fmC_take_f ((fmC_take_f ((fmC_take_f I 0).2) 5).2) ((fmC_take_f ((fmC_take_f I 0).2) 5).1)).1)), (0, .inr (.inr (.inr (.inr (13, 0))))), (1, .inl op), (2, .inl aa)], [.inl aa, .inl op, .inr (.inr (.inr (.inr (13, 0))))], ((fmC_take_f ((fmC_take_f ((fmC_take_f I 0).2) 5).2) ((fmC_take_f ((fmC_take_f I 0).2) 5).1)).2, J, G, fm_P (1, 0) pb))) rfl ?_
                refine fm_cV0 O fmC_addRow_o (i := 0) (as := [.inl op, .inl aa]) (rest := []) (v := some (.inl ((fmC_addRow_f ((fmC_take_f ((fmC_take_f ((fmC_take_f I 0).2) 5).2) ((fmC_take_f ((fmC_take_f I 0).2) 5).1)).2) op aa).1))) rfl fk_1_100 rfl (by decide) fn_C_addRow (Nat.le_of_ble_eq_true rfl) (fmC_addRow_c hl (by omega) ((fmC_take_f ((fmC_take_f ((fmC_take_f I 0).2) 5).2) ((fmC_take_f ((fmC_take_f I 0).2) 5).1)).2) J G pb op aa hp.1) ?_
                have hp := hp.2
                refine fm_gr O 3 (C' := (200, [(3, .inl ((fmC_take_f ((fmC_take_f ((fmC_take_f I 0).2) 5).2) ((fmC_take_f ((fmC_take_f I 0).2) 5).1)).1)), (0, .inr (.inr (.inr (.inr (13, 0))))), (1, .inl op), (2, .inl aa)], [.inl ((fmC_take_f ((fmC_take_f ((fmC_take_f I 0).2) 5).2) ((fmC_take_f ((fmC_take_f I 0).2) 5).1)).1), .inr (.inr (.inr (.inr (13, 0))))], ((fmC_addRow_f ((fmC_take_f ((fmC_take_f ((fmC_take_f I 0).2) 5).2) ((fmC_take_f ((fmC_take_f I 0).2) 5).1)).2) op aa).2, J, G, fm_P (1, 0) pb))) rfl ?_
                refine fm_cV0 O fmC_put_o (i := 0) (as := [.inl ((fmC_take_f ((fmC_take_f ((fmC_take_f I 0).2) 5).2) ((fmC_take_f ((fmC_take_f I 0).2) 5).1)).1)]) (rest := []) (v := none) rfl fk_1_105 rfl (by decide) fn_C_put (Nat.le_of_ble_eq_true rfl) (fmC_put_c hl (by omega) ((fmC_addRow_f ((fmC_take_f ((fmC_take_f ((fmC_take_f I 0).2) 5).2) ((fmC_take_f ((fmC_take_f I 0).2) 5).1)).2) op aa).2) J G pb ((fmC_take_f ((fmC_take_f ((fmC_take_f I 0).2) 5).2) ((fmC_take_f ((fmC_take_f I 0).2) 5).1)).1) hp) ?_
                refine fm_gr O 1 (C' := (218, [(3, .inl ((fmC_take_f ((fmC_take_f ((fmC_take_f I 0).2) 5).2) ((fmC_take_f ((fmC_take_f I 0).2) 5).1)).1)), (0, .inr (.inr (.inr (.inr (13, 0))))), (1, .inl op), (2, .inl aa)], [], (fmC_put_f ((fmC_addRow_f ((fmC_take_f ((fmC_take_f ((fmC_take_f I 0).2) 5).2) ((fmC_take_f ((fmC_take_f I 0).2) 5).1)).2) op aa).2) ((fmC_take_f ((fmC_take_f ((fmC_take_f I 0).2) 5).2) ((fmC_take_f ((fmC_take_f I 0).2) 5).1)).1), J, G, fm_P (1, 0) pb))) rfl ?_
                exact fm_gRe O rfl trivial (by first | rw [he] | rfl) (by first | rw [he] | rfl)
              · have he := he.trans (if_neg h7)
                have hp := hp.2 h7
                refine fm_gt O rfl (by
                    show op.toInt < 4 ∨ 10 < op.toInt
                    have := lv_neT h1 (show (4 : Int32).toInt = 4 from by decide)
                    have := lv_neT h2 (show (5 : Int32).toInt = 5 from by decide)
                    have := lv_neT h3 (show (6 : Int32).toInt = 6 from by decide)
                    have := lv_neT h4 (show (7 : Int32).toInt = 7 from by decide)
                    have := lv_neT h5 (show (8 : Int32).toInt = 8 from by decide)
                    have := lv_neT h6 (show (9 : Int32).toInt = 9 from by decide)
                    have := lv_neT h7 (show (10 : Int32).toInt = 10 from by decide)
                    omega) ?_
                refine fm_gr O 3 (C' := (209, [(0, .inr (.inr (.inr (.inr (13, 0))))), (1, .inl op), (2, .inl aa)], [.inl aa, .inl op, .inr (.inr (.inr (.inr (13, 0))))], (I, J, G, fm_P (1, 0) pb))) rfl ?_
                refine fm_cV0 O fmC_addRow_o (i := 0) (as := [.inl op, .inl aa]) (rest := []) (v := some (.inl ((fmC_addRow_f I op aa).1))) rfl fk_1_100 rfl (by decide) fn_C_addRow (Nat.le_of_ble_eq_true rfl) (fmC_addRow_c hl (by omega) I J G pb op aa hp.1) ?_
                have hp := hp.2
                refine fm_gr O 3 (C' := (215, [(0, .inr (.inr (.inr (.inr (13, 0))))), (1, .inl op), (2, .inl aa)], [.inl op, .inr (.inr (.inr (.inr (13, 0))))], ((fmC_addRow_f I op aa).2, J, G, fm_P (1, 0) pb))) rfl ?_
                refine fm_cV0 O fmC_put_o (i := 0) (as := [.inl op]) (rest := []) (v := none) rfl fk_1_105 rfl (by decide) fn_C_put (Nat.le_of_ble_eq_true rfl) (fmC_put_c hl (by omega) ((fmC_addRow_f I op aa).2) J G pb op hp) ?_
                exact fm_gRe O rfl trivial (by first | rw [he] | rfl) (by first | rw [he] | rfl)
def fmC_compute_f (I : fm_MI) (op : Int32) (aa : Int32) : fm_MI :=
  if op = 20 then (fmC_put_f ((fmC_addRow_f ((fmC_take_f I (aa / 4)).2) op aa).2) (aa - aa / 4 * 4)) else (if op = 18 then (fmC_put_f ((fmC_addRow_f ((fmC_take_f ((fmC_take_f I aa).2) aa).2) op aa).2) 0) else (if op = 19 then (fmC_put_f ((fmC_addRow_f ((fmC_take_f ((fmC_take_f I aa).2) aa).2) op aa).2) 0) else (fmC_put_f ((fmC_addRow_f ((fmC_take_f ((fmC_take_f I aa).2) aa).2) op aa).2) aa)))
theorem fmC_compute_e (I : fm_MI) (op : Int32) (aa : Int32) : fmC_compute_f I op aa = if op = 20 then (fmC_put_f ((fmC_addRow_f ((fmC_take_f I (aa / 4)).2) op aa).2) (aa - aa / 4 * 4)) else (if op = 18 then (fmC_put_f ((fmC_addRow_f ((fmC_take_f ((fmC_take_f I aa).2) aa).2) op aa).2) 0) else (if op = 19 then (fmC_put_f ((fmC_addRow_f ((fmC_take_f ((fmC_take_f I aa).2) aa).2) op aa).2) 0) else (fmC_put_f ((fmC_addRow_f ((fmC_take_f ((fmC_take_f I aa).2) aa).2) op aa).2) aa))) := rfl
def fmC_compute_p (I : fm_MI) (op : Int32) (aa : Int32) : Prop :=
  (op = 20 → (¬ 4 = 0) ∧ (fmC_take_p I (aa / 4) ∧ (fmC_addRow_p ((fmC_take_f I (aa / 4)).2) ∧ ((¬ 4 = 0) ∧ (fmC_put_p ((fmC_addRow_f ((fmC_take_f I (aa / 4)).2) op aa).2) (aa - aa / 4 * 4)))))) ∧ (¬ op = 20 → fmC_take_p I aa ∧ (fmC_take_p ((fmC_take_f I aa).2) aa ∧ (fmC_addRow_p ((fmC_take_f ((fmC_take_f I aa).2) aa).2) ∧ ((op = 18 → fmC_put_p ((fmC_addRow_f ((fmC_take_f ((fmC_take_f I aa).2) aa).2) op aa).2) 0) ∧ (¬ op = 18 → (op = 19 → fmC_put_p ((fmC_addRow_f ((fmC_take_f ((fmC_take_f I aa).2) aa).2) op aa).2) 0) ∧ (¬ op = 19 → fmC_put_p ((fmC_addRow_f ((fmC_take_f ((fmC_take_f I aa).2) aa).2) op aa).2) aa))))))
set_option maxRecDepth 100000 in
set_option maxHeartbeats 4000000 in
theorem fmC_compute_c {E : fm_Ev} (hl : E.1.stackTraces = false) {d : Nat} (hd : 2 ≤ d) (I : fm_MI) (J : fm_MJ) (G : fm_MG) (pb : Nat × Nat) (op : Int32) (aa : Int32) (hp : fmC_compute_p I op aa) : fm_Ct E d fmC_compute 0 [.inr (.inr (.inr (.inr (13, 0)))), .inl op, .inl aa] (I, J, G, fm_P (1, 0) pb) none (fmC_compute_f I op aa, J, G, fm_P (1, 0) pb) := by
  obtain ⟨d, rfl⟩ : ∃ d', d = d' + 1 := ⟨d - 1, by omega⟩
  refine fm_ct fmC_compute_o hl (Nat.le_of_ble_eq_true rfl) ?_
  have O := fmC_compute_o.1
  unfold fmC_compute_p at hp
  have he := fmC_compute_e I op aa
  refine fm_gr O 2 (C' := (3, [(0, .inr (.inr (.inr (.inr (13, 0))))), (1, .inl op), (2, .inl aa)], [.inl 20, .inl op], (I, J, G, fm_P (1, 0) pb))) rfl ?_
  refine fm_gb O rfl (fun h => ?_) (fun h => ?_)
  · have h1 : op = 20 := h
    have he := he.trans (if_pos h1)
    have hp := hp.1 h1
    refine fm_gr O 3 (C' := (9, [(0, .inr (.inr (.inr (.inr (13, 0))))), (1, .inl op), (2, .inl aa)], [.inl 4, .inl aa, .inr (.inr (.inr (.inr (13, 0))))], (I, J, G, fm_P (1, 0) pb))) rfl ?_
    refine fm_gg O rfl hp.1 ?_
    have hp := hp.2
    refine fm_cV0 O fmC_take_o (i := 0) (as := [.inl (aa / 4)]) (rest := []) (v := some (.inl ((fmC_take_f I (aa / 4)).1))) rfl fk_1_109 rfl (by decide) fn_C_take (Nat.le_of_ble_eq_true rfl) (fmC_take_c hl (by omega) I J G pb (aa / 4) hp.1) ?_
    have hp := hp.2
    refine fm_gr O 4 (C' := (17, [(0, .inr (.inr (.inr (.inr (13, 0))))), (1, .inl op), (2, .inl aa)], [.inl aa, .inl op, .inr (.inr (.inr (.inr (13, 0))))], ((fmC_take_f I (aa / 4)).2, J, G, fm_P (1, 0) pb))) rfl ?_
    refine fm_cV0 O fmC_addRow_o (i := 0) (as := [.inl op, .inl aa]) (rest := []) (v := some (.inl ((fmC_addRow_f ((fmC_take_f I (aa / 4)).2) op aa).1))) rfl fk_1_100 rfl (by decide) fn_C_addRow (Nat.le_of_ble_eq_true rfl) (fmC_addRow_c hl (by omega) ((fmC_take_f I (aa / 4)).2) J G pb op aa hp.1) ?_
    have hp := hp.2
    refine fm_gr O 4 (C' := (24, [(0, .inr (.inr (.inr (.inr (13, 0))))), (1, .inl op), (2, .inl aa)], [.inl 4, .inl aa, .inr (.inr (.inr (.inr (13, 0))))], ((fmC_addRow_f ((fmC_take_f I (aa / 4)).2) op aa).2, J, G, fm_P (1, 0) pb))) rfl ?_
    refine fm_gg O rfl hp.1 ?_
    have hp := hp.2
    refine fm_cV0 O fmC_put_o (i := 0) (as := [.inl (aa - aa / 4 * 4)]) (rest := []) (v := none) rfl fk_1_105 rfl (by decide) fn_C_put (Nat.le_of_ble_eq_true rfl) (fmC_put_c hl (by omega) ((fmC_addRow_f ((fmC_take_f I (aa / 4)).2) op aa).2) J G pb (aa - aa / 4 * 4) hp) ?_
    refine fm_gr O 1 (C' := (71, [(0, .inr (.inr (.inr (.inr (13, 0))))), (1, .inl op), (2, .inl aa)], [], (fmC_put_f ((fmC_addRow_f ((fmC_take_f I (aa / 4)).2) op aa).2) (aa - aa / 4 * 4), J, G, fm_P (1, 0) pb))) rfl ?_
    exact fm_gRe O rfl trivial (by first | rw [he] | rfl) (by first | rw [he] | rfl)
  · have h1 : ¬ op = 20 := h
    have he := he.trans (if_neg h1)
    have hp := hp.2 h1
    refine fm_gr O 2 (C' := (33, [(0, .inr (.inr (.inr (.inr (13, 0))))), (1, .inl op), (2, .inl aa)], [.inl aa, .inr (.inr (.inr (.inr (13, 0))))], (I, J, G, fm_P (1, 0) pb))) rfl ?_
    refine fm_cV0 O fmC_take_o (i := 0) (as := [.inl aa]) (rest := []) (v := some (.inl ((fmC_take_f I aa).1))) rfl fk_1_109 rfl (by decide) fn_C_take (Nat.le_of_ble_eq_true rfl) (fmC_take_c hl (by omega) I J G pb aa hp.1) ?_
    have hp := hp.2
    refine fm_gr O 3 (C' := (39, [(0, .inr (.inr (.inr (.inr (13, 0))))), (1, .inl op), (2, .inl aa)], [.inl aa, .inr (.inr (.inr (.inr (13, 0))))], ((fmC_take_f I aa).2, J, G, fm_P (1, 0) pb))) rfl ?_
    refine fm_cV0 O fmC_take_o (i := 0) (as := [.inl aa]) (rest := []) (v := some (.inl ((fmC_take_f ((fmC_take_f I aa).2) aa).1))) rfl fk_1_109 rfl (by decide) fn_C_take (Nat.le_of_ble_eq_true rfl) (fmC_take_c hl (by omega) ((fmC_take_f I aa).2) J G pb aa hp.1) ?_
    have hp := hp.2
    refine fm_gr O 4 (C' := (46, [(0, .inr (.inr (.inr (.inr (13, 0))))), (1, .inl op), (2, .inl aa)], [.inl aa, .inl op, .inr (.inr (.inr (.inr (13, 0))))], ((fmC_take_f ((fmC_take_f I aa).2) aa).2, J, G, fm_P (1, 0) pb))) rfl ?_
    refine fm_cV0 O fmC_addRow_o (i := 0) (as := [.inl op, .inl aa]) (rest := []) (v := some (.inl ((fmC_addRow_f ((fmC_take_f ((fmC_take_f I aa).2) aa).2) op aa).1))) rfl fk_1_100 rfl (by decide) fn_C_addRow (Nat.le_of_ble_eq_true rfl) (fmC_addRow_c hl (by omega) ((fmC_take_f ((fmC_take_f I aa).2) aa).2) J G pb op aa hp.1) ?_
    have hp := hp.2
    refine fm_gr O 4 (C' := (54, [(0, .inr (.inr (.inr (.inr (13, 0))))), (1, .inl op), (2, .inl aa)], [.inl 18, .inl op, .inr (.inr (.inr (.inr (13, 0))))], ((fmC_addRow_f ((fmC_take_f ((fmC_take_f I aa).2) aa).2) op aa).2, J, G, fm_P (1, 0) pb))) rfl ?_
    refine fm_gb O rfl (fun h => ?_) (fun h => ?_)
    · have h2 : op = 18 := h
      have he := he.trans (if_pos h2)
      have hp := hp.1 h2
      refine fm_gr O 2 (C' := (68, [(0, .inr (.inr (.inr (.inr (13, 0))))), (1, .inl op), (2, .inl aa)], [.inl 0, .inr (.inr (.inr (.inr (13, 0))))], ((fmC_addRow_f ((fmC_take_f ((fmC_take_f I aa).2) aa).2) op aa).2, J, G, fm_P (1, 0) pb))) rfl ?_
      refine fm_cV0 O fmC_put_o (i := 0) (as := [.inl 0]) (rest := []) (v := none) rfl fk_1_105 rfl (by decide) fn_C_put (Nat.le_of_ble_eq_true rfl) (fmC_put_c hl (by omega) ((fmC_addRow_f ((fmC_take_f ((fmC_take_f I aa).2) aa).2) op aa).2) J G pb 0 hp) ?_
      exact fm_gRe O rfl trivial (by first | rw [he] | rfl) (by first | rw [he] | rfl)
    · have h2 : ¬ op = 18 := h
      have he := he.trans (if_neg h2)
      have hp := hp.2 h2
      refine fm_gr O 2 (C' := (60, [(0, .inr (.inr (.inr (.inr (13, 0))))), (1, .inl op), (2, .inl aa)], [.inl 19, .inl op, .inr (.inr (.inr (.inr (13, 0))))], ((fmC_addRow_f ((fmC_take_f ((fmC_take_f I aa).2) aa).2) op aa).2, J, G, fm_P (1, 0) pb))) rfl ?_
      refine fm_gb O rfl (fun h => ?_) (fun h => ?_)
      · have h3 : op = 19 := h
        have he := he.trans (if_pos h3)
        have hp := hp.1 h3
        refine fm_gr O 2 (C' := (68, [(0, .inr (.inr (.inr (.inr (13, 0))))), (1, .inl op), (2, .inl aa)], [.inl 0, .inr (.inr (.inr (.inr (13, 0))))], ((fmC_addRow_f ((fmC_take_f ((fmC_take_f I aa).2) aa).2) op aa).2, J, G, fm_P (1, 0) pb))) rfl ?_
        refine fm_cV0 O fmC_put_o (i := 0) (as := [.inl 0]) (rest := []) (v := none) rfl fk_1_105 rfl (by decide) fn_C_put (Nat.le_of_ble_eq_true rfl) (fmC_put_c hl (by omega) ((fmC_addRow_f ((fmC_take_f ((fmC_take_f I aa).2) aa).2) op aa).2) J G pb 0 hp) ?_
        exact fm_gRe O rfl trivial (by first | rw [he] | rfl) (by first | rw [he] | rfl)
      · have h3 : ¬ op = 19 := h
        have he := he.trans (if_neg h3)
        have hp := hp.2 h3
        refine fm_gr O 1 (C' := (68, [(0, .inr (.inr (.inr (.inr (13, 0))))), (1, .inl op), (2, .inl aa)], [.inl aa, .inr (.inr (.inr (.inr (13, 0))))], ((fmC_addRow_f ((fmC_take_f ((fmC_take_f I aa).2) aa).2) op aa).2, J, G, fm_P (1, 0) pb))) rfl ?_
        refine fm_cV0 O fmC_put_o (i := 0) (as := [.inl aa]) (rest := []) (v := none) rfl fk_1_105 rfl (by decide) fn_C_put (Nat.le_of_ble_eq_true rfl) (fmC_put_c hl (by omega) ((fmC_addRow_f ((fmC_take_f ((fmC_take_f I aa).2) aa).2) op aa).2) J G pb aa hp) ?_
        exact fm_gRe O rfl trivial (by first | rw [he] | rfl) (by first | rw [he] | rfl)
def fmC_takeJustWhatIsGiven_f (I : fm_MI) : fm_MI :=
  if (((fmC_take_f I (I 17 ((I 13 0 6).toNatClampNeg) 1)).2) 13 0 2) = 0 then (if (((fmC_take_f I (I 17 ((I 13 0 6).toNatClampNeg) 1)).2) 13 0 4) ≤ (((fmC_take_f I (I 17 ((I 13 0 6).toNatClampNeg) 1)).2) 17 ((((fmC_take_f I (I 17 ((I 13 0 6).toNatClampNeg) 1)).2) 13 0 6).toNatClampNeg) 2) then ((fmC_take_f I (I 17 ((I 13 0 6).toNatClampNeg) 1)).2) else (fm_u ((fmC_take_f I (I 17 ((I 13 0 6).toNatClampNeg) 1)).2) 13 0 2 4)) else ((fmC_take_f I (I 17 ((I 13 0 6).toNatClampNeg) 1)).2)
theorem fmC_takeJustWhatIsGiven_e (I : fm_MI) : fmC_takeJustWhatIsGiven_f I = if (((fmC_take_f I (I 17 ((I 13 0 6).toNatClampNeg) 1)).2) 13 0 2) = 0 then (if (((fmC_take_f I (I 17 ((I 13 0 6).toNatClampNeg) 1)).2) 13 0 4) ≤ (((fmC_take_f I (I 17 ((I 13 0 6).toNatClampNeg) 1)).2) 17 ((((fmC_take_f I (I 17 ((I 13 0 6).toNatClampNeg) 1)).2) 13 0 6).toNatClampNeg) 2) then ((fmC_take_f I (I 17 ((I 13 0 6).toNatClampNeg) 1)).2) else (fm_u ((fmC_take_f I (I 17 ((I 13 0 6).toNatClampNeg) 1)).2) 13 0 2 4)) else ((fmC_take_f I (I 17 ((I 13 0 6).toNatClampNeg) 1)).2) := rfl
def fmC_takeJustWhatIsGiven_p (I : fm_MI) : Prop :=
  (vp_in (I 13 0 6) 9) ∧ (fmC_take_p I (I 17 ((I 13 0 6).toNatClampNeg) 1) ∧ (((((fmC_take_f I (I 17 ((I 13 0 6).toNatClampNeg) 1)).2) 13 0 2) = 0 → vp_in (((fmC_take_f I (I 17 ((I 13 0 6).toNatClampNeg) 1)).2) 13 0 6) 9) ∧ (¬ (((fmC_take_f I (I 17 ((I 13 0 6).toNatClampNeg) 1)).2) 13 0 2) = 0 → True)))
set_option maxRecDepth 100000 in
set_option maxHeartbeats 4000000 in
theorem fmC_takeJustWhatIsGiven_c {E : fm_Ev} (hl : E.1.stackTraces = false) {d : Nat} (hd : 1 ≤ d) (I : fm_MI) (J : fm_MJ) (G : fm_MG) (pb : Nat × Nat) (hp : fmC_takeJustWhatIsGiven_p I) : fm_Ct E d fmC_takeJustWhatIsGiven 0 [.inr (.inr (.inr (.inr (13, 0))))] (I, J, G, fm_P (1, 0) pb) none (fmC_takeJustWhatIsGiven_f I, J, G, fm_P (1, 0) pb) := by
  obtain ⟨d, rfl⟩ : ∃ d', d = d' + 1 := ⟨d - 1, by omega⟩
  refine fm_ct fmC_takeJustWhatIsGiven_o hl (Nat.le_of_ble_eq_true rfl) ?_
  have O := fmC_takeJustWhatIsGiven_o.1
  unfold fmC_takeJustWhatIsGiven_p at hp
  have he := fmC_takeJustWhatIsGiven_e I
  refine fm_gr O 5 (C' := (9, [(0, .inr (.inr (.inr (.inr (13, 0)))))], [.inl (I 13 0 6), .inr (.inr (.inr (.inr (16, 0)))), .inr (.inr (.inr (.inr (13, 0))))], (I, J, G, fm_P (1, 0) pb))) rfl ?_
  refine fm_gg O rfl hp.1 ?_
  have hp := hp.2
  refine fm_gr O 1 (C' := (13, [(0, .inr (.inr (.inr (.inr (13, 0)))))], [.inl (I 17 ((I 13 0 6).toNatClampNeg) 1), .inr (.inr (.inr (.inr (13, 0))))], (I, J, G, fm_P (1, 0) pb))) rfl ?_
  refine fm_cV0 O fmC_take_o (i := 0) (as := [.inl (I 17 ((I 13 0 6).toNatClampNeg) 1)]) (rest := []) (v := some (.inl ((fmC_take_f I (I 17 ((I 13 0 6).toNatClampNeg) 1)).1))) rfl fk_1_109 rfl (by decide) fn_C_take (Nat.le_of_ble_eq_true rfl) (fmC_take_c hl (by omega) I J G pb (I 17 ((I 13 0 6).toNatClampNeg) 1) hp.1) ?_
  have hp := hp.2
  refine fm_gr O 3 (C' := (21, [(0, .inr (.inr (.inr (.inr (13, 0)))))], [.inl (((fmC_take_f I (I 17 ((I 13 0 6).toNatClampNeg) 1)).2) 13 0 2)], ((fmC_take_f I (I 17 ((I 13 0 6).toNatClampNeg) 1)).2, J, G, fm_P (1, 0) pb))) rfl ?_
  refine fm_gb O rfl (fun h => ?_) (fun h => ?_)
  · have h1 : (((fmC_take_f I (I 17 ((I 13 0 6).toNatClampNeg) 1)).2) 13 0 2) = 0 := h
    have he := he.trans (if_pos h1)
    have hp := hp.1 h1
    refine fm_gr O 6 (C' := (36, [(0, .inr (.inr (.inr (.inr (13, 0)))))], [.inl (((fmC_take_f I (I 17 ((I 13 0 6).toNatClampNeg) 1)).2) 13 0 6), .inr (.inr (.inr (.inr (16, 0)))), .inl (((fmC_take_f I (I 17 ((I 13 0 6).toNatClampNeg) 1)).2) 13 0 4)], ((fmC_take_f I (I 17 ((I 13 0 6).toNatClampNeg) 1)).2, J, G, fm_P (1, 0) pb))) rfl ?_
    refine fm_gg O rfl hp ?_
    refine fm_gr O 1 (C' := (40, [(0, .inr (.inr (.inr (.inr (13, 0)))))], [.inl (((fmC_take_f I (I 17 ((I 13 0 6).toNatClampNeg) 1)).2) 17 ((((fmC_take_f I (I 17 ((I 13 0 6).toNatClampNeg) 1)).2) 13 0 6).toNatClampNeg) 2), .inl (((fmC_take_f I (I 17 ((I 13 0 6).toNatClampNeg) 1)).2) 13 0 4)], ((fmC_take_f I (I 17 ((I 13 0 6).toNatClampNeg) 1)).2, J, G, fm_P (1, 0) pb))) rfl ?_
    refine fm_gb O rfl (fun h => ?_) (fun h => ?_)
    · have h2 : (((fmC_take_f I (I 17 ((I 13 0 6).toNatClampNeg) 1)).2) 13 0 4) ≤ (((fmC_take_f I (I 17 ((I 13 0 6).toNatClampNeg) 1)).2) 17 ((((fmC_take_f I (I 17 ((I 13 0 6).toNatClampNeg) 1)).2) 13 0 6).toNatClampNeg) 2) := h
      have he := he.trans (if_pos h2)
      exact fm_gRe O rfl trivial (by first | rw [he] | rfl) (by first | rw [he] | rfl)
    · have h2 : ¬ (((fmC_take_f I (I 17 ((I 13 0 6).toNatClampNeg) 1)).2) 13 0 4) ≤ (((fmC_take_f I (I 17 ((I 13 0 6).toNatClampNeg) 1)).2) 17 ((((fmC_take_f I (I 17 ((I 13 0 6).toNatClampNeg) 1)).2) 13 0 6).toNatClampNeg) 2) := h
      have he := he.trans (if_neg h2)
      refine fm_gr O 3 (C' := (48, [(0, .inr (.inr (.inr (.inr (13, 0)))))], [], (fm_u ((fmC_take_f I (I 17 ((I 13 0 6).toNatClampNeg) 1)).2) 13 0 2 4, J, G, fm_P (1, 0) pb))) rfl ?_
      exact fm_gRe O rfl trivial (by first | rw [he] | rfl) (by first | rw [he] | rfl)
  · have h1 : ¬ (((fmC_take_f I (I 17 ((I 13 0 6).toNatClampNeg) 1)).2) 13 0 2) = 0 := h
    have he := he.trans (if_neg h1)
    exact fm_gRe O rfl trivial (by first | rw [he] | rfl) (by first | rw [he] | rfl)
def fmC_openFrame_f (I : fm_MI) (op : Int32) (ty : Int32) : fm_MI :=
  if (I 13 0 2) = 0 then (if (I 13 0 6) = 8 then (fm_u I 13 0 2 7) else (fmR_open_f (fm_u I 13 0 6 ((I 13 0 6) + 1)) (((I 13 0 6) + 1).toNatClampNeg) op ty (I 13 0 4) (I 6 (((fm_u I 13 0 6 ((I 13 0 6) + 1)) 13 0 1).toNatClampNeg) 0) (fmC_isLive_f I))) else I
theorem fmC_openFrame_e (I : fm_MI) (op : Int32) (ty : Int32) : fmC_openFrame_f I op ty = if (I 13 0 2) = 0 then (if (I 13 0 6) = 8 then (fm_u I 13 0 2 7) else (fmR_open_f (fm_u I 13 0 6 ((I 13 0 6) + 1)) (((I 13 0 6) + 1).toNatClampNeg) op ty (I 13 0 4) (I 6 (((fm_u I 13 0 6 ((I 13 0 6) + 1)) 13 0 1).toNatClampNeg) 0) (fmC_isLive_f I))) else I := rfl
def fmC_openFrame_p (I : fm_MI) : Prop :=
  ((I 13 0 2) = 0 → ((I 13 0 6) = 8 → True) ∧ (¬ (I 13 0 6) = 8 → fmC_isLive_p I ∧ ((vp_in ((I 13 0 6) + 1) 9) ∧ (fmC_subject_p (fm_u I 13 0 6 ((I 13 0 6) + 1)) ∧ (fmR_open_p (fmC_isLive_f I)))))) ∧ (¬ (I 13 0 2) = 0 → True)
set_option maxRecDepth 100000 in
set_option maxHeartbeats 4000000 in
theorem fmC_openFrame_c {E : fm_Ev} (hl : E.1.stackTraces = false) {d : Nat} (hd : 1 ≤ d) (I : fm_MI) (J : fm_MJ) (G : fm_MG) (pb : Nat × Nat) (op : Int32) (ty : Int32) (hp : fmC_openFrame_p I) : fm_Ct E d fmC_openFrame 0 [.inr (.inr (.inr (.inr (13, 0)))), .inl op, .inl ty] (I, J, G, fm_P (1, 0) pb) none (fmC_openFrame_f I op ty, J, G, fm_P (1, 0) pb) := by
  obtain ⟨d, rfl⟩ : ∃ d', d = d' + 1 := ⟨d - 1, by omega⟩
  refine fm_ct fmC_openFrame_o hl (Nat.le_of_ble_eq_true rfl) ?_
  have O := fmC_openFrame_o.1
  unfold fmC_openFrame_p at hp
  have he := fmC_openFrame_e I op ty
  refine fm_gr O 2 (C' := (4, [(0, .inr (.inr (.inr (.inr (13, 0))))), (1, .inl op), (2, .inl ty)], [.inl (I 13 0 2)], (I, J, G, fm_P (1, 0) pb))) rfl ?_
  refine fm_gb O rfl (fun h => ?_) (fun h => ?_)
  · have h1 : (I 13 0 2) = 0 := h
    have he := he.trans (if_pos h1)
    have hp := hp.1 h1
    refine fm_gr O 3 (C' := (13, [(0, .inr (.inr (.inr (.inr (13, 0))))), (1, .inl op), (2, .inl ty)], [.inl 8, .inl (I 13 0 6)], (I, J, G, fm_P (1, 0) pb))) rfl ?_
    refine fm_gb O rfl (fun h => ?_) (fun h => ?_)
    · have h2 : (I 13 0 6) = 8 := h
      have he := he.trans (if_pos h2)
      refine fm_gr O 5 (C' := (26, [(0, .inr (.inr (.inr (.inr (13, 0))))), (1, .inl op), (2, .inl ty)], [.inl 7], (fm_u I 13 0 2 7, J, G, fm_P (1, 0) pb))) rfl ?_
      refine fm_gb O rfl (fun h => ?_) (fun h => ?_)
      · exact absurd h (show ¬ (7 : Int32) = 0 by decide)
      · exact fm_gRe O rfl trivial (by first | rw [he] | rfl) (by first | rw [he] | rfl)
    · have h2 : ¬ (I 13 0 6) = 8 := h
      have he := he.trans (if_neg h2)
      have hp := hp.2 h2
      refine fm_gr O 2 (C' := (26, [(0, .inr (.inr (.inr (.inr (13, 0))))), (1, .inl op), (2, .inl ty)], [.inl (I 13 0 2)], (I, J, G, fm_P (1, 0) pb))) rfl ?_
      refine fm_gb O rfl (fun h => ?_) (fun h => ?_)
      rotate_left
      · exact absurd h1 h
      · refine fm_gr O 1 (C' := (30, [(0, .inr (.inr (.inr (.inr (13, 0))))), (1, .inl op), (2, .inl ty)], [.inr (.inr (.inr (.inr (13, 0))))], (I, J, G, fm_P (1, 0) pb))) rfl ?_
        refine fm_cV0 O fmC_isLive_o (i := 0) (as := []) (rest := []) (v := some (.inl (fmC_isLive_f I))) rfl fk_1_125 rfl (by decide) fn_C_isLive (Nat.le_of_ble_eq_true rfl) (fmC_isLive_c hl (by omega) I J G pb hp.1) ?_
        have hp := hp.2
        refine fm_gr O 11 (C' := (52, [(3, .inl (fmC_isLive_f I)), (0, .inr (.inr (.inr (.inr (13, 0))))), (1, .inl op), (2, .inl ty)], [.inl ((I 13 0 6) + 1), .inr (.inr (.inr (.inr (16, 0))))], (fm_u I 13 0 6 ((I 13 0 6) + 1), J, G, fm_P (1, 0) pb))) rfl ?_
        refine fm_gg O rfl hp.1 ?_
        have hp := hp.2
        refine fm_gr O 5 (C' := (60, [(3, .inl (fmC_isLive_f I)), (0, .inr (.inr (.inr (.inr (13, 0))))), (1, .inl op), (2, .inl ty)], [.inr (.inr (.inr (.inr (13, 0)))), .inl (I 13 0 4), .inl ty, .inl op, .inr (.inr (.inr (.inr (17, ((I 13 0 6) + 1).toNatClampNeg))))], (fm_u I 13 0 6 ((I 13 0 6) + 1), J, G, fm_P (1, 0) pb))) rfl ?_
        refine fm_cV0 O fmC_subject_o (i := 0) (as := []) (rest := [.inl (I 13 0 4), .inl ty, .inl op, .inr (.inr (.inr (.inr (17, ((I 13 0 6) + 1).toNatClampNeg))))]) (v := some (.inr (.inr (.inr (.inr (2, ((fm_u I 13 0 6 ((I 13 0 6) + 1)) 13 0 1).toNatClampNeg)))))) rfl fk_1_41 rfl (by decide) fn_C_subject (Nat.le_of_ble_eq_true rfl) (fmC_subject_c hl (by omega) (fm_u I 13 0 6 ((I 13 0 6) + 1)) J G pb hp.1) ?_
        have hp := hp.2
        refine fm_gr O 3 (C' := (70, [(3, .inl (fmC_isLive_f I)), (0, .inr (.inr (.inr (.inr (13, 0))))), (1, .inl op), (2, .inl ty)], [.inl (fmC_isLive_f I), .inl (I 6 (((fm_u I 13 0 6 ((I 13 0 6) + 1)) 13 0 1).toNatClampNeg) 0), .inl (I 13 0 4), .inl ty, .inl op, .inr (.inr (.inr (.inr (17, ((I 13 0 6) + 1).toNatClampNeg))))], (fm_u I 13 0 6 ((I 13 0 6) + 1), J, G, fm_P (1, 0) pb))) rfl ?_
        refine fm_cV0 O fmR_open_o (i := ((I 13 0 6) + 1).toNatClampNeg) (as := [.inl op, .inl ty, .inl (I 13 0 4), .inl (I 6 (((fm_u I 13 0 6 ((I 13 0 6) + 1)) 13 0 1).toNatClampNeg) 0), .inl (fmC_isLive_f I)]) (rest := []) (v := none) rfl fk_1_57 rfl (by decide) fn_R_open (Nat.le_of_ble_eq_true rfl) (fmR_open_c hl (by omega) (fm_u I 13 0 6 ((I 13 0 6) + 1)) J G ((1, 0)) pb (((I 13 0 6) + 1).toNatClampNeg) op ty (I 13 0 4) (I 6 (((fm_u I 13 0 6 ((I 13 0 6) + 1)) 13 0 1).toNatClampNeg) 0) (fmC_isLive_f I) hp) ?_
        exact fm_gRe O rfl trivial (by first | rw [he] | rfl) (by first | rw [he] | rfl)
  · have h1 : ¬ (I 13 0 2) = 0 := h
    have he := he.trans (if_neg h1)
    refine fm_gr O 2 (C' := (26, [(0, .inr (.inr (.inr (.inr (13, 0))))), (1, .inl op), (2, .inl ty)], [.inl (I 13 0 2)], (I, J, G, fm_P (1, 0) pb))) rfl ?_
    refine fm_gb O rfl (fun h => ?_) (fun h => ?_)
    · exact absurd h h1
    · exact fm_gRe O rfl trivial (by first | rw [he] | rfl) (by first | rw [he] | rfl)
def fmC_turnToElse_f (I : fm_MI) : fm_MI :=
  if (I 17 ((I 13 0 6).toNatClampNeg) 0) = 23 then (if ((fmC_addRow_f (fmC_takeJustWhatIsGiven_f I) 26 0).1) = (-1) then (fm_u (fm_u (fmK_sendHere_f ((fmC_addRow_f (fmC_takeJustWhatIsGiven_f I) 26 0).2) ((((fmC_addRow_f (fmC_takeJustWhatIsGiven_f I) 26 0).2) 13 0 1).toNatClampNeg) (((fmC_addRow_f (fmC_takeJustWhatIsGiven_f I) 26 0).2) 17 ((I 13 0 6).toNatClampNeg) 4)) 17 ((I 13 0 6).toNatClampNeg) 0 24) 17 ((I 13 0 6).toNatClampNeg) 6 0) else (fm_u (fm_u (fmK_sendHere_f (fm_u ((fmC_addRow_f (fmC_takeJustWhatIsGiven_f I) 26 0).2) 12 ((((fmC_addRow_f (fmC_takeJustWhatIsGiven_f I) 26 0).2) 13 0 1).toNatClampNeg) (((fmC_addRow_f (fmC_takeJustWhatIsGiven_f I) 26 0).1).toNatClampNeg) (((fmC_addRow_f (fmC_takeJustWhatIsGiven_f I) 26 0).2) 13 0 6)) (((fm_u ((fmC_addRow_f (fmC_takeJustWhatIsGiven_f I) 26 0).2) 12 ((((fmC_addRow_f (fmC_takeJustWhatIsGiven_f I) 26 0).2) 13 0 1).toNatClampNeg) (((fmC_addRow_f (fmC_takeJustWhatIsGiven_f I) 26 0).1).toNatClampNeg) (((fmC_addRow_f (fmC_takeJustWhatIsGiven_f I) 26 0).2) 13 0 6)) 13 0 1).toNatClampNeg) (((fmC_addRow_f (fmC_takeJustWhatIsGiven_f I) 26 0).2) 17 ((I 13 0 6).toNatClampNeg) 4)) 17 ((I 13 0 6).toNatClampNeg) 0 24) 17 ((I 13 0 6).toNatClampNeg) 6 0)) else (fm_u I 13 0 2 5)
theorem fmC_turnToElse_e (I : fm_MI) : fmC_turnToElse_f I = if (I 17 ((I 13 0 6).toNatClampNeg) 0) = 23 then (if ((fmC_addRow_f (fmC_takeJustWhatIsGiven_f I) 26 0).1) = (-1) then (fm_u (fm_u (fmK_sendHere_f ((fmC_addRow_f (fmC_takeJustWhatIsGiven_f I) 26 0).2) ((((fmC_addRow_f (fmC_takeJustWhatIsGiven_f I) 26 0).2) 13 0 1).toNatClampNeg) (((fmC_addRow_f (fmC_takeJustWhatIsGiven_f I) 26 0).2) 17 ((I 13 0 6).toNatClampNeg) 4)) 17 ((I 13 0 6).toNatClampNeg) 0 24) 17 ((I 13 0 6).toNatClampNeg) 6 0) else (fm_u (fm_u (fmK_sendHere_f (fm_u ((fmC_addRow_f (fmC_takeJustWhatIsGiven_f I) 26 0).2) 12 ((((fmC_addRow_f (fmC_takeJustWhatIsGiven_f I) 26 0).2) 13 0 1).toNatClampNeg) (((fmC_addRow_f (fmC_takeJustWhatIsGiven_f I) 26 0).1).toNatClampNeg) (((fmC_addRow_f (fmC_takeJustWhatIsGiven_f I) 26 0).2) 13 0 6)) (((fm_u ((fmC_addRow_f (fmC_takeJustWhatIsGiven_f I) 26 0).2) 12 ((((fmC_addRow_f (fmC_takeJustWhatIsGiven_f I) 26 0).2) 13 0 1).toNatClampNeg) (((fmC_addRow_f (fmC_takeJustWhatIsGiven_f I) 26 0).1).toNatClampNeg) (((fmC_addRow_f (fmC_takeJustWhatIsGiven_f I) 26 0).2) 13 0 6)) 13 0 1).toNatClampNeg) (((fmC_addRow_f (fmC_takeJustWhatIsGiven_f I) 26 0).2) 17 ((I 13 0 6).toNatClampNeg) 4)) 17 ((I 13 0 6).toNatClampNeg) 0 24) 17 ((I 13 0 6).toNatClampNeg) 6 0)) else (fm_u I 13 0 2 5) := rfl
def fmC_turnToElse_p (I : fm_MI) : Prop :=
  (vp_in (I 13 0 6) 9) ∧ (((I 17 ((I 13 0 6).toNatClampNeg) 0) = 23 → fmC_takeJustWhatIsGiven_p I ∧ (fmC_addRow_p (fmC_takeJustWhatIsGiven_f I) ∧ ((((fmC_addRow_f (fmC_takeJustWhatIsGiven_f I) 26 0).1) = (-1) → fmC_subject_p ((fmC_addRow_f (fmC_takeJustWhatIsGiven_f I) 26 0).2) ∧ (fmK_sendHere_p (((fmC_addRow_f (fmC_takeJustWhatIsGiven_f I) 26 0).2) 17 ((I 13 0 6).toNatClampNeg) 4))) ∧ (¬ ((fmC_addRow_f (fmC_takeJustWhatIsGiven_f I) 26 0).1) = (-1) → fmC_subject_p ((fmC_addRow_f (fmC_takeJustWhatIsGiven_f I) 26 0).2) ∧ ((vp_in ((fmC_addRow_f (fmC_takeJustWhatIsGiven_f I) 26 0).1) 40) ∧ (fmC_subject_p (fm_u ((fmC_addRow_f (fmC_takeJustWhatIsGiven_f I) 26 0).2) 12 ((((fmC_addRow_f (fmC_takeJustWhatIsGiven_f I) 26 0).2) 13 0 1).toNatClampNeg) (((fmC_addRow_f (fmC_takeJustWhatIsGiven_f I) 26 0).1).toNatClampNeg) (((fmC_addRow_f (fmC_takeJustWhatIsGiven_f I) 26 0).2) 13 0 6)) ∧ (fmK_sendHere_p (((fmC_addRow_f (fmC_takeJustWhatIsGiven_f I) 26 0).2) 17 ((I 13 0 6).toNatClampNeg) 4)))))))) ∧ (¬ (I 17 ((I 13 0 6).toNatClampNeg) 0) = 23 → True))
set_option maxRecDepth 100000 in
set_option maxHeartbeats 4000000 in
theorem fmC_turnToElse_c {E : fm_Ev} (hl : E.1.stackTraces = false) {d : Nat} (hd : 2 ≤ d) (I : fm_MI) (J : fm_MJ) (G : fm_MG) (pb : Nat × Nat) (hp : fmC_turnToElse_p I) : fm_Ct E d fmC_turnToElse 0 [.inr (.inr (.inr (.inr (13, 0))))] (I, J, G, fm_P (1, 0) pb) none (fmC_turnToElse_f I, J, G, fm_P (1, 0) pb) := by
  obtain ⟨d, rfl⟩ : ∃ d', d = d' + 1 := ⟨d - 1, by omega⟩
  refine fm_ct fmC_turnToElse_o hl (Nat.le_of_ble_eq_true rfl) ?_
  have O := fmC_turnToElse_o.1
  unfold fmC_turnToElse_p at hp
  have he := fmC_turnToElse_e I
  refine fm_gr O 4 (C' := (8, [(0, .inr (.inr (.inr (.inr (13, 0)))))], [.inl (I 13 0 6), .inr (.inr (.inr (.inr (16, 0))))], (I, J, G, fm_P (1, 0) pb))) rfl ?_
  refine fm_gg O rfl hp.1 ?_
  have hp := hp.2
  refine fm_gr O 4 (C' := (16, [(1, .inr (.inr (.inr (.inr (17, (I 13 0 6).toNatClampNeg))))), (0, .inr (.inr (.inr (.inr (13, 0)))))], [.inl 23, .inl (I 17 ((I 13 0 6).toNatClampNeg) 0)], (I, J, G, fm_P (1, 0) pb))) rfl ?_
  refine fm_gb O rfl (fun h => ?_) (fun h => ?_)
  · have h1 : (I 17 ((I 13 0 6).toNatClampNeg) 0) = 23 := h
    have he := he.trans (if_pos h1)
    have hp := hp.1 h1
    refine fm_gr O 1 (C' := (26, [(1, .inr (.inr (.inr (.inr (17, (I 13 0 6).toNatClampNeg))))), (0, .inr (.inr (.inr (.inr (13, 0)))))], [.inr (.inr (.inr (.inr (13, 0))))], (I, J, G, fm_P (1, 0) pb))) rfl ?_
    refine fm_cV0 O fmC_takeJustWhatIsGiven_o (i := 0) (as := []) (rest := []) (v := none) rfl fk_1_132 rfl (by decide) fn_C_takeJustWhatIsGiven (Nat.le_of_ble_eq_true rfl) (fmC_takeJustWhatIsGiven_c hl (by omega) I J G pb hp.1) ?_
    have hp := hp.2
    refine fm_gr O 3 (C' := (33, [(1, .inr (.inr (.inr (.inr (17, (I 13 0 6).toNatClampNeg))))), (0, .inr (.inr (.inr (.inr (13, 0)))))], [.inl 0, .inl 26, .inr (.inr (.inr (.inr (13, 0))))], (fmC_takeJustWhatIsGiven_f I, J, G, fm_P (1, 0) pb))) rfl ?_
    refine fm_cV0 O fmC_addRow_o (i := 0) (as := [.inl 26, .inl 0]) (rest := []) (v := some (.inl ((fmC_addRow_f (fmC_takeJustWhatIsGiven_f I) 26 0).1))) rfl fk_1_100 rfl (by decide) fn_C_addRow (Nat.le_of_ble_eq_true rfl) (fmC_addRow_c hl (by omega) (fmC_takeJustWhatIsGiven_f I) J G pb 26 0 hp.1) ?_
    have hp := hp.2
    refine fm_gr O 3 (C' := (39, [(2, .inl ((fmC_addRow_f (fmC_takeJustWhatIsGiven_f I) 26 0).1)), (1, .inr (.inr (.inr (.inr (17, (I 13 0 6).toNatClampNeg))))), (0, .inr (.inr (.inr (.inr (13, 0)))))], [.inl (-1), .inl ((fmC_addRow_f (fmC_takeJustWhatIsGiven_f I) 26 0).1)], ((fmC_addRow_f (fmC_takeJustWhatIsGiven_f I) 26 0).2, J, G, fm_P (1, 0) pb))) rfl ?_
    refine fm_gb O rfl (fun h => ?_) (fun h => ?_)
    · have h2 : ((fmC_addRow_f (fmC_takeJustWhatIsGiven_f I) 26 0).1) = (-1) := h
      have he := he.trans (if_pos h2)
      have hp := hp.1 h2
      refine fm_gr O 1 (C' := (59, [(2, .inl ((fmC_addRow_f (fmC_takeJustWhatIsGiven_f I) 26 0).1)), (1, .inr (.inr (.inr (.inr (17, (I 13 0 6).toNatClampNeg))))), (0, .inr (.inr (.inr (.inr (13, 0)))))], [.inr (.inr (.inr (.inr (13, 0))))], ((fmC_addRow_f (fmC_takeJustWhatIsGiven_f I) 26 0).2, J, G, fm_P (1, 0) pb))) rfl ?_
      refine fm_cV0 O fmC_subject_o (i := 0) (as := []) (rest := []) (v := some (.inr (.inr (.inr (.inr (2, (((fmC_addRow_f (fmC_takeJustWhatIsGiven_f I) 26 0).2) 13 0 1).toNatClampNeg)))))) rfl fk_1_41 rfl (by decide) fn_C_subject (Nat.le_of_ble_eq_true rfl) (fmC_subject_c hl (by omega) ((fmC_addRow_f (fmC_takeJustWhatIsGiven_f I) 26 0).2) J G pb hp.1) ?_
      have hp := hp.2
      refine fm_gr O 3 (C' := (69, [(2, .inl ((fmC_addRow_f (fmC_takeJustWhatIsGiven_f I) 26 0).1)), (1, .inr (.inr (.inr (.inr (17, (I 13 0 6).toNatClampNeg))))), (0, .inr (.inr (.inr (.inr (13, 0)))))], [.inl (((fmC_addRow_f (fmC_takeJustWhatIsGiven_f I) 26 0).2) 17 ((I 13 0 6).toNatClampNeg) 4), .inr (.inr (.inr (.inr (6, (((fmC_addRow_f (fmC_takeJustWhatIsGiven_f I) 26 0).2) 13 0 1).toNatClampNeg))))], ((fmC_addRow_f (fmC_takeJustWhatIsGiven_f I) 26 0).2, J, G, fm_P (1, 0) pb))) rfl ?_
      refine fm_cV0 O fmK_sendHere_o (i := (((fmC_addRow_f (fmC_takeJustWhatIsGiven_f I) 26 0).2) 13 0 1).toNatClampNeg) (as := [.inl (((fmC_addRow_f (fmC_takeJustWhatIsGiven_f I) 26 0).2) 17 ((I 13 0 6).toNatClampNeg) 4)]) (rest := []) (v := none) rfl fk_1_138 rfl (by decide) fn_K_sendHere (Nat.le_of_ble_eq_true rfl) (fmK_sendHere_c hl (by omega) ((fmC_addRow_f (fmC_takeJustWhatIsGiven_f I) 26 0).2) J G ((1, 0)) pb ((((fmC_addRow_f (fmC_takeJustWhatIsGiven_f I) 26 0).2) 13 0 1).toNatClampNeg) (((fmC_addRow_f (fmC_takeJustWhatIsGiven_f I) 26 0).2) 17 ((I 13 0 6).toNatClampNeg) 4) hp) ?_
      refine fm_gr O 5 (C' := (80, [(2, .inl ((fmC_addRow_f (fmC_takeJustWhatIsGiven_f I) 26 0).1)), (1, .inr (.inr (.inr (.inr (17, (I 13 0 6).toNatClampNeg))))), (0, .inr (.inr (.inr (.inr (13, 0)))))], [.inl 0, .inr (.inr (.inr (.inr (17, (I 13 0 6).toNatClampNeg))))], (fm_u (fmK_sendHere_f ((fmC_addRow_f (fmC_takeJustWhatIsGiven_f I) 26 0).2) ((((fmC_addRow_f (fmC_takeJustWhatIsGiven_f I) 26 0).2) 13 0 1).toNatClampNeg) (((fmC_addRow_f (fmC_takeJustWhatIsGiven_f I) 26 0).2) 17 ((I 13 0 6).toNatClampNeg) 4)) 17 ((I 13 0 6).toNatClampNeg) 0 24, J, G, fm_P (1, 0) pb))) rfl ?_
      refine fm_gg O rfl (Or.inl rfl) ?_
      exact fm_gRe O rfl trivial (by first | rw [he] | rfl) (by first | rw [he] | rfl)
    · have h2 : ¬ ((fmC_addRow_f (fmC_takeJustWhatIsGiven_f I) 26 0).1) = (-1) := h
      have he := he.trans (if_neg h2)
      have hp := hp.2 h2
      refine fm_gr O 1 (C' := (43, [(2, .inl ((fmC_addRow_f (fmC_takeJustWhatIsGiven_f I) 26 0).1)), (1, .inr (.inr (.inr (.inr (17, (I 13 0 6).toNatClampNeg))))), (0, .inr (.inr (.inr (.inr (13, 0)))))], [.inr (.inr (.inr (.inr (13, 0))))], ((fmC_addRow_f (fmC_takeJustWhatIsGiven_f I) 26 0).2, J, G, fm_P (1, 0) pb))) rfl ?_
      refine fm_cV0 O fmC_subject_o (i := 0) (as := []) (rest := []) (v := some (.inr (.inr (.inr (.inr (2, (((fmC_addRow_f (fmC_takeJustWhatIsGiven_f I) 26 0).2) 13 0 1).toNatClampNeg)))))) rfl fk_1_41 rfl (by decide) fn_C_subject (Nat.le_of_ble_eq_true rfl) (fmC_subject_c hl (by omega) ((fmC_addRow_f (fmC_takeJustWhatIsGiven_f I) 26 0).2) J G pb hp.1) ?_
      have hp := hp.2
      refine fm_gr O 5 (C' := (57, [(2, .inl ((fmC_addRow_f (fmC_takeJustWhatIsGiven_f I) 26 0).1)), (1, .inr (.inr (.inr (.inr (17, (I 13 0 6).toNatClampNeg))))), (0, .inr (.inr (.inr (.inr (13, 0)))))], [.inl (((fmC_addRow_f (fmC_takeJustWhatIsGiven_f I) 26 0).2) 13 0 6), .inl ((fmC_addRow_f (fmC_takeJustWhatIsGiven_f I) 26 0).1), .inr (.inr (.inr (.inr (12, (((fmC_addRow_f (fmC_takeJustWhatIsGiven_f I) 26 0).2) 13 0 1).toNatClampNeg))))], ((fmC_addRow_f (fmC_takeJustWhatIsGiven_f I) 26 0).2, J, G, fm_P (1, 0) pb))) rfl ?_
      refine fm_gg O rfl hp.1 ?_
      have hp := hp.2
      refine fm_gr O 1 (C' := (59, [(2, .inl ((fmC_addRow_f (fmC_takeJustWhatIsGiven_f I) 26 0).1)), (1, .inr (.inr (.inr (.inr (17, (I 13 0 6).toNatClampNeg))))), (0, .inr (.inr (.inr (.inr (13, 0)))))], [.inr (.inr (.inr (.inr (13, 0))))], (fm_u ((fmC_addRow_f (fmC_takeJustWhatIsGiven_f I) 26 0).2) 12 ((((fmC_addRow_f (fmC_takeJustWhatIsGiven_f I) 26 0).2) 13 0 1).toNatClampNeg) (((fmC_addRow_f (fmC_takeJustWhatIsGiven_f I) 26 0).1).toNatClampNeg) (((fmC_addRow_f (fmC_takeJustWhatIsGiven_f I) 26 0).2) 13 0 6), J, G, fm_P (1, 0) pb))) rfl ?_
      refine fm_cV0 O fmC_subject_o (i := 0) (as := []) (rest := []) (v := some (.inr (.inr (.inr (.inr (2, ((fm_u ((fmC_addRow_f (fmC_takeJustWhatIsGiven_f I) 26 0).2) 12 ((((fmC_addRow_f (fmC_takeJustWhatIsGiven_f I) 26 0).2) 13 0 1).toNatClampNeg) (((fmC_addRow_f (fmC_takeJustWhatIsGiven_f I) 26 0).1).toNatClampNeg) (((fmC_addRow_f (fmC_takeJustWhatIsGiven_f I) 26 0).2) 13 0 6)) 13 0 1).toNatClampNeg)))))) rfl fk_1_41 rfl (by decide) fn_C_subject (Nat.le_of_ble_eq_true rfl) (fmC_subject_c hl (by omega) (fm_u ((fmC_addRow_f (fmC_takeJustWhatIsGiven_f I) 26 0).2) 12 ((((fmC_addRow_f (fmC_takeJustWhatIsGiven_f I) 26 0).2) 13 0 1).toNatClampNeg) (((fmC_addRow_f (fmC_takeJustWhatIsGiven_f I) 26 0).1).toNatClampNeg) (((fmC_addRow_f (fmC_takeJustWhatIsGiven_f I) 26 0).2) 13 0 6)) J G pb hp.1) ?_
      have hp := hp.2
      refine fm_gr O 3 (C' := (69, [(2, .inl ((fmC_addRow_f (fmC_takeJustWhatIsGiven_f I) 26 0).1)), (1, .inr (.inr (.inr (.inr (17, (I 13 0 6).toNatClampNeg))))), (0, .inr (.inr (.inr (.inr (13, 0)))))], [.inl (((fmC_addRow_f (fmC_takeJustWhatIsGiven_f I) 26 0).2) 17 ((I 13 0 6).toNatClampNeg) 4), .inr (.inr (.inr (.inr (6, ((fm_u ((fmC_addRow_f (fmC_takeJustWhatIsGiven_f I) 26 0).2) 12 ((((fmC_addRow_f (fmC_takeJustWhatIsGiven_f I) 26 0).2) 13 0 1).toNatClampNeg) (((fmC_addRow_f (fmC_takeJustWhatIsGiven_f I) 26 0).1).toNatClampNeg) (((fmC_addRow_f (fmC_takeJustWhatIsGiven_f I) 26 0).2) 13 0 6)) 13 0 1).toNatClampNeg))))], (fm_u ((fmC_addRow_f (fmC_takeJustWhatIsGiven_f I) 26 0).2) 12 ((((fmC_addRow_f (fmC_takeJustWhatIsGiven_f I) 26 0).2) 13 0 1).toNatClampNeg) (((fmC_addRow_f (fmC_takeJustWhatIsGiven_f I) 26 0).1).toNatClampNeg) (((fmC_addRow_f (fmC_takeJustWhatIsGiven_f I) 26 0).2) 13 0 6), J, G, fm_P (1, 0) pb))) rfl ?_
      refine fm_cV0 O fmK_sendHere_o (i := ((fm_u ((fmC_addRow_f (fmC_takeJustWhatIsGiven_f I) 26 0).2) 12 ((((fmC_addRow_f (fmC_takeJustWhatIsGiven_f I) 26 0).2) 13 0 1).toNatClampNeg) (((fmC_addRow_f (fmC_takeJustWhatIsGiven_f I) 26 0).1).toNatClampNeg) (((fmC_addRow_f (fmC_takeJustWhatIsGiven_f I) 26 0).2) 13 0 6)) 13 0 1).toNatClampNeg) (as := [.inl (((fmC_addRow_f (fmC_takeJustWhatIsGiven_f I) 26 0).2) 17 ((I 13 0 6).toNatClampNeg) 4)]) (rest := []) (v := none) rfl fk_1_138 rfl (by decide) fn_K_sendHere (Nat.le_of_ble_eq_true rfl) (fmK_sendHere_c hl (by omega) (fm_u ((fmC_addRow_f (fmC_takeJustWhatIsGiven_f I) 26 0).2) 12 ((((fmC_addRow_f (fmC_takeJustWhatIsGiven_f I) 26 0).2) 13 0 1).toNatClampNeg) (((fmC_addRow_f (fmC_takeJustWhatIsGiven_f I) 26 0).1).toNatClampNeg) (((fmC_addRow_f (fmC_takeJustWhatIsGiven_f I) 26 0).2) 13 0 6)) J G ((1, 0)) pb (((fm_u ((fmC_addRow_f (fmC_takeJustWhatIsGiven_f I) 26 0).2) 12 ((((fmC_addRow_f (fmC_takeJustWhatIsGiven_f I) 26 0).2) 13 0 1).toNatClampNeg) (((fmC_addRow_f (fmC_takeJustWhatIsGiven_f I) 26 0).1).toNatClampNeg) (((fmC_addRow_f (fmC_takeJustWhatIsGiven_f I) 26 0).2) 13 0 6)) 13 0 1).toNatClampNeg) (((fmC_addRow_f (fmC_takeJustWhatIsGiven_f I) 26 0).2) 17 ((I 13 0 6).toNatClampNeg) 4) hp) ?_
      refine fm_gr O 5 (C' := (80, [(2, .inl ((fmC_addRow_f (fmC_takeJustWhatIsGiven_f I) 26 0).1)), (1, .inr (.inr (.inr (.inr (17, (I 13 0 6).toNatClampNeg))))), (0, .inr (.inr (.inr (.inr (13, 0)))))], [.inl 0, .inr (.inr (.inr (.inr (17, (I 13 0 6).toNatClampNeg))))], (fm_u (fmK_sendHere_f (fm_u ((fmC_addRow_f (fmC_takeJustWhatIsGiven_f I) 26 0).2) 12 ((((fmC_addRow_f (fmC_takeJustWhatIsGiven_f I) 26 0).2) 13 0 1).toNatClampNeg) (((fmC_addRow_f (fmC_takeJustWhatIsGiven_f I) 26 0).1).toNatClampNeg) (((fmC_addRow_f (fmC_takeJustWhatIsGiven_f I) 26 0).2) 13 0 6)) (((fm_u ((fmC_addRow_f (fmC_takeJustWhatIsGiven_f I) 26 0).2) 12 ((((fmC_addRow_f (fmC_takeJustWhatIsGiven_f I) 26 0).2) 13 0 1).toNatClampNeg) (((fmC_addRow_f (fmC_takeJustWhatIsGiven_f I) 26 0).1).toNatClampNeg) (((fmC_addRow_f (fmC_takeJustWhatIsGiven_f I) 26 0).2) 13 0 6)) 13 0 1).toNatClampNeg) (((fmC_addRow_f (fmC_takeJustWhatIsGiven_f I) 26 0).2) 17 ((I 13 0 6).toNatClampNeg) 4)) 17 ((I 13 0 6).toNatClampNeg) 0 24, J, G, fm_P (1, 0) pb))) rfl ?_
      refine fm_gg O rfl (Or.inl rfl) ?_
      exact fm_gRe O rfl trivial (by first | rw [he] | rfl) (by first | rw [he] | rfl)
  · have h1 : ¬ (I 17 ((I 13 0 6).toNatClampNeg) 0) = 23 := h
    have he := he.trans (if_neg h1)
    refine fm_gr O 3 (C' := (24, [(1, .inr (.inr (.inr (.inr (17, (I 13 0 6).toNatClampNeg))))), (0, .inr (.inr (.inr (.inr (13, 0)))))], [], (fm_u I 13 0 2 5, J, G, fm_P (1, 0) pb))) rfl ?_
    exact fm_gRe O rfl trivial (by first | rw [he] | rfl) (by first | rw [he] | rfl)
