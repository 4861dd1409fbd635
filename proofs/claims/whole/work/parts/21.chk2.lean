/-! THE CHECKER, by program (wip/tools/walk.py, gen_c2.py) -/
def fmC_moveValues_f (I : fm_MI) (op : Int32) (aa : Int32) : fm_MI :=
  if op = 4 then (fm_let (fmC_addRow_f I op aa) (fun (r1 : Int32 × fm_MI) => fm_let (fmC_put_f r1.2 (r1.2 3 ((r1.2 13 0 1).toNatClampNeg) aa.toNatClampNeg)) (fun (r2 : fm_MI) => r2))) else (if op = 5 then (fm_let (fmC_take_f I (I 3 ((I 13 0 1).toNatClampNeg) aa.toNatClampNeg)) (fun (r3 : Int32 × fm_MI) => fm_let (fmC_addRow_f r3.2 op aa) (fun (r4 : Int32 × fm_MI) => r4.2))) else (if op = 6 then (fm_let (fmC_take_f I (I 3 ((I 13 0 1).toNatClampNeg) aa.toNatClampNeg)) (fun (r5 : Int32 × fm_MI) => fm_let (fmC_addRow_f r5.2 op aa) (fun (r6 : Int32 × fm_MI) => fm_let (fmC_put_f r6.2 (r6.2 3 ((r6.2 13 0 1).toNatClampNeg) aa.toNatClampNeg)) (fun (r7 : fm_MI) => r7)))) else (if op = 7 then (fm_let (fmC_addRow_f I op aa) (fun (r8 : Int32 × fm_MI) => fm_let (fmC_put_f r8.2 aa) (fun (r9 : fm_MI) => r9))) else (if op = 8 then (fm_let (fmC_take_f I aa) (fun (r10 : Int32 × fm_MI) => fm_let (fmC_addRow_f r10.2 op aa) (fun (r11 : Int32 × fm_MI) => r11.2))) else (if op = 9 then (fm_let (fmC_take_f I 5) (fun (r12 : Int32 × fm_MI) => fm_let (fmC_addRow_f r12.2 op aa) (fun (r13 : Int32 × fm_MI) => r13.2))) else (if op = 10 then (fm_let (fmC_take_f I 0) (fun (r14 : Int32 × fm_MI) => fm_let (fmC_take_f r14.2 5) (fun (r15 : Int32 × fm_MI) => fm_let (fmC_take_f r15.2 r15.1) (fun (r16 : Int32 × fm_MI) => fm_let (fmC_addRow_f r16.2 op aa) (fun (r17 : Int32 × fm_MI) => fm_let (fmC_put_f r17.2 r16.1) (fun (r18 : fm_MI) => r18)))))) else (fm_let (fmC_addRow_f I op aa) (fun (r19 : Int32 × fm_MI) => fm_let (fmC_put_f r19.2 op) (fun (r20 : fm_MI) => r20)))))))))
theorem fmC_moveValues_e (I : fm_MI) (op : Int32) (aa : Int32) : fmC_moveValues_f I op aa = if op = 4 then (fm_let (fmC_addRow_f I op aa) (fun (r1 : Int32 × fm_MI) => fm_let (fmC_put_f r1.2 (r1.2 3 ((r1.2 13 0 1).toNatClampNeg) aa.toNatClampNeg)) (fun (r2 : fm_MI) => r2))) else (if op = 5 then (fm_let (fmC_take_f I (I 3 ((I 13 0 1).toNatClampNeg) aa.toNatClampNeg)) (fun (r3 : Int32 × fm_MI) => fm_let (fmC_addRow_f r3.2 op aa) (fun (r4 : Int32 × fm_MI) => r4.2))) else (if op = 6 then (fm_let (fmC_take_f I (I 3 ((I 13 0 1).toNatClampNeg) aa.toNatClampNeg)) (fun (r5 : Int32 × fm_MI) => fm_let (fmC_addRow_f r5.2 op aa) (fun (r6 : Int32 × fm_MI) => fm_let (fmC_put_f r6.2 (r6.2 3 ((r6.2 13 0 1).toNatClampNeg) aa.toNatClampNeg)) (fun (r7 : fm_MI) => r7)))) else (if op = 7 then (fm_let (fmC_addRow_f I op aa) (fun (r8 : Int32 × fm_MI) => fm_let (fmC_put_f r8.2 aa) (fun (r9 : fm_MI) => r9))) else (if op = 8 then (fm_let (fmC_take_f I aa) (fun (r10 : Int32 × fm_MI) => fm_let (fmC_addRow_f r10.2 op aa) (fun (r11 : Int32 × fm_MI) => r11.2))) else (if op = 9 then (fm_let (fmC_take_f I 5) (fun (r12 : Int32 × fm_MI) => fm_let (fmC_addRow_f r12.2 op aa) (fun (r13 : Int32 × fm_MI) => r13.2))) else (if op = 10 then (fm_let (fmC_take_f I 0) (fun (r14 : Int32 × fm_MI) => fm_let (fmC_take_f r14.2 5) (fun (r15 : Int32 × fm_MI) => fm_let (fmC_take_f r15.2 r15.1) (fun (r16 : Int32 × fm_MI) => fm_let (fmC_addRow_f r16.2 op aa) (fun (r17 : Int32 × fm_MI) => fm_let (fmC_put_f r17.2 r16.1) (fun (r18 : fm_MI) => r18)))))) else (fm_let (fmC_addRow_f I op aa) (fun (r19 : Int32 × fm_MI) => fm_let (fmC_put_f r19.2 op) (fun (r20 : fm_MI) => r20))))))))) := rfl
def fmC_moveValues_p (I : fm_MI) (op : Int32) (aa : Int32) : Prop :=
  (op = 4 → fmC_addRow_p I ∧ (fm_let (fmC_addRow_f I op aa) (fun (r1 : Int32 × fm_MI) => fmC_subject_p r1.2 ∧ ((vp_in aa 6) ∧ (fmC_put_p r1.2 (r1.2 3 ((r1.2 13 0 1).toNatClampNeg) aa.toNatClampNeg)))))) ∧ (¬ op = 4 → (op = 5 → fmC_subject_p I ∧ ((vp_in aa 6) ∧ (fmC_take_p I (I 3 ((I 13 0 1).toNatClampNeg) aa.toNatClampNeg) ∧ (fm_let (fmC_take_f I (I 3 ((I 13 0 1).toNatClampNeg) aa.toNatClampNeg)) (fun (r3 : Int32 × fm_MI) => fmC_addRow_p r3.2))))) ∧ (¬ op = 5 → (op = 6 → fmC_subject_p I ∧ ((vp_in aa 6) ∧ (fmC_take_p I (I 3 ((I 13 0 1).toNatClampNeg) aa.toNatClampNeg) ∧ (fm_let (fmC_take_f I (I 3 ((I 13 0 1).toNatClampNeg) aa.toNatClampNeg)) (fun (r5 : Int32 × fm_MI) => fmC_addRow_p r5.2 ∧ (fm_let (fmC_addRow_f r5.2 op aa) (fun (r6 : Int32 × fm_MI) => fmC_subject_p r6.2 ∧ ((vp_in aa 6) ∧ (fmC_put_p r6.2 (r6.2 3 ((r6.2 13 0 1).toNatClampNeg) aa.toNatClampNeg)))))))))) ∧ (¬ op = 6 → (op = 7 → fmC_addRow_p I ∧ (fm_let (fmC_addRow_f I op aa) (fun (r8 : Int32 × fm_MI) => fmC_put_p r8.2 aa))) ∧ (¬ op = 7 → (op = 8 → fmC_take_p I aa ∧ (fm_let (fmC_take_f I aa) (fun (r10 : Int32 × fm_MI) => fmC_addRow_p r10.2))) ∧ (¬ op = 8 → (op = 9 → fmC_take_p I 5 ∧ (fm_let (fmC_take_f I 5) (fun (r12 : Int32 × fm_MI) => fmC_addRow_p r12.2))) ∧ (¬ op = 9 → (op = 10 → fmC_take_p I 0 ∧ (fm_let (fmC_take_f I 0) (fun (r14 : Int32 × fm_MI) => fmC_take_p r14.2 5 ∧ (fm_let (fmC_take_f r14.2 5) (fun (r15 : Int32 × fm_MI) => fmC_take_p r15.2 r15.1 ∧ (fm_let (fmC_take_f r15.2 r15.1) (fun (r16 : Int32 × fm_MI) => fmC_addRow_p r16.2 ∧ (fm_let (fmC_addRow_f r16.2 op aa) (fun (r17 : Int32 × fm_MI) => fmC_put_p r17.2 r16.1))))))))) ∧ (¬ op = 10 → fmC_addRow_p I ∧ (fm_let (fmC_addRow_f I op aa) (fun (r19 : Int32 × fm_MI) => fmC_put_p r19.2 op)))))))))
set_option maxRecDepth 100000 in
set_option maxHeartbeats 4000000 in
theorem fmC_moveValues_c {E : fm_Ev} (hl : E.1.stackTraces = false) {d : Nat} (hd : 2 ≤ d) (I : fm_MI) (J : fm_MJ) (G : fm_MG) (pb : Nat × Nat) (op : Int32) (aa : Int32) (hp : fmC_moveValues_p I op aa) : fm_Ct E d fmC_moveValues 0 [.inr (.inr (.inr (.inr (13, 0)))), .inl op, .inl aa] (I, J, G, fm_P (1, 0) pb) none (fmC_moveValues_f I op aa, J, G, fm_P (1, 0) pb) := by
  obtain ⟨d, rfl⟩ : ∃ d', d = d' + 1 := ⟨d - 1, by omega⟩
  refine fm_ct fmC_moveValues_o hl (Nat.le_of_ble_eq_true rfl) ?_
  have O := fmC_moveValues_o.1
  unfold fmC_moveValues_p at hp
  have he := fmC_moveValues_e I op aa
  refine fm_gr O 1 (C' := (1, [(0, .inr (.inr (.inr (.inr (13, 0))))), (1, .inl op), (2, .inl aa)], [.inl op], (I, J, G, fm_P (1, 0) pb))) rfl ?_
  by_cases h1 : op = 4
  · have he := he.trans (if_pos h1)
    have hp := hp.1 h1
    refine fm_gs O 4 rfl (show op.toInt = 4 from by rw [h1]; decide) ?_
    refine fm_gr O 3 (C' := (47, [(0, .inr (.inr (.inr (.inr (13, 0))))), (1, .inl op), (2, .inl aa)], [.inl aa, .inl op, .inr (.inr (.inr (.inr (13, 0))))], (I, J, G, fm_P (1, 0) pb))) rfl ?_
    have hc := hp.1
    have hp := hp.2
    have K := fmC_addRow_c (d := d) hl (by omega) I J G pb op aa hc
    generalize er1 : fmC_addRow_f I op aa = r1 at he hp
    have he := he.trans (fm_letE _ _)
    have hp := fm_letP hp
    rw [er1] at K
    refine fm_cV0 O fmC_addRow_o (i := 0) (as := [.inl op, .inl aa]) (rest := []) (v := some (.inl r1.1)) rfl fk_1_100 rfl (by decide) fn_C_addRow (Nat.le_of_ble_eq_true rfl) (K) ?_
    refine fm_gr O 3 (C' := (53, [(0, .inr (.inr (.inr (.inr (13, 0))))), (1, .inl op), (2, .inl aa)], [.inr (.inr (.inr (.inr (13, 0)))), .inr (.inr (.inr (.inr (13, 0))))], (r1.2, J, G, fm_P (1, 0) pb))) rfl ?_
    have hc := hp.1
    have hp := hp.2
    have K := fmC_subject_c (d := d) hl (by omega) r1.2 J G pb hc
    refine fm_cV0 O fmC_subject_o (i := 0) (as := []) (rest := [.inr (.inr (.inr (.inr (13, 0))))]) (v := some (.inr (.inr (.inr (.inr (2, (r1.2 13 0 1).toNatClampNeg)))))) rfl fk_1_41 rfl (by decide) fn_C_subject (Nat.le_of_ble_eq_true rfl) (K) ?_
    refine fm_gr O 2 (C' := (60, [(0, .inr (.inr (.inr (.inr (13, 0))))), (1, .inl op), (2, .inl aa)], [.inl aa, .inr (.inr (.inr (.inr (3, (r1.2 13 0 1).toNatClampNeg)))), .inr (.inr (.inr (.inr (13, 0))))], (r1.2, J, G, fm_P (1, 0) pb))) rfl ?_
    refine fm_gg O rfl hp.1 ?_
    have hp := hp.2
    have K := fmC_put_c (d := d) hl (by omega) r1.2 J G pb (r1.2 3 ((r1.2 13 0 1).toNatClampNeg) aa.toNatClampNeg) hp
    generalize er2 : fmC_put_f r1.2 (r1.2 3 ((r1.2 13 0 1).toNatClampNeg) aa.toNatClampNeg) = r2 at he
    have he := he.trans (fm_letE _ _)
    rw [er2] at K
    refine fm_cV0 O fmC_put_o (i := 0) (as := [.inl (r1.2 3 ((r1.2 13 0 1).toNatClampNeg) aa.toNatClampNeg)]) (rest := []) (v := none) rfl fk_1_105 rfl (by decide) fn_C_put (Nat.le_of_ble_eq_true rfl) (K) ?_
    refine fm_gr O 1 (C' := (218, [(0, .inr (.inr (.inr (.inr (13, 0))))), (1, .inl op), (2, .inl aa)], [], (r2, J, G, fm_P (1, 0) pb))) rfl ?_
    exact fm_gRe O rfl trivial (by first | (rw [he]; done) | (rw [he]; rfl) | rfl) (by first | (rw [he]; done) | (rw [he]; rfl) | rfl)
  · have he := he.trans (if_neg h1)
    have hp := hp.2 h1
    by_cases h2 : op = 5
    · have he := he.trans (if_pos h2)
      have hp := hp.1 h2
      refine fm_gs O 5 rfl (show op.toInt = 5 from by rw [h2]; decide) ?_
      refine fm_gr O 2 (C' := (69, [(0, .inr (.inr (.inr (.inr (13, 0))))), (1, .inl op), (2, .inl aa)], [.inr (.inr (.inr (.inr (13, 0)))), .inr (.inr (.inr (.inr (13, 0))))], (I, J, G, fm_P (1, 0) pb))) rfl ?_
      have hc := hp.1
      have hp := hp.2
      have K := fmC_subject_c (d := d) hl (by omega) I J G pb hc
      refine fm_cV0 O fmC_subject_o (i := 0) (as := []) (rest := [.inr (.inr (.inr (.inr (13, 0))))]) (v := some (.inr (.inr (.inr (.inr (2, (I 13 0 1).toNatClampNeg)))))) rfl fk_1_41 rfl (by decide) fn_C_subject (Nat.le_of_ble_eq_true rfl) (K) ?_
      refine fm_gr O 2 (C' := (76, [(0, .inr (.inr (.inr (.inr (13, 0))))), (1, .inl op), (2, .inl aa)], [.inl aa, .inr (.inr (.inr (.inr (3, (I 13 0 1).toNatClampNeg)))), .inr (.inr (.inr (.inr (13, 0))))], (I, J, G, fm_P (1, 0) pb))) rfl ?_
      refine fm_gg O rfl hp.1 ?_
      have hp := hp.2
      have hc := hp.1
      have hp := hp.2
      have K := fmC_take_c (d := d) hl (by omega) I J G pb (I 3 ((I 13 0 1).toNatClampNeg) aa.toNatClampNeg) hc
      generalize er3 : fmC_take_f I (I 3 ((I 13 0 1).toNatClampNeg) aa.toNatClampNeg) = r3 at he hp
      have he := he.trans (fm_letE _ _)
      have hp := fm_letP hp
      rw [er3] at K
      refine fm_cV0 O fmC_take_o (i := 0) (as := [.inl (I 3 ((I 13 0 1).toNatClampNeg) aa.toNatClampNeg)]) (rest := []) (v := some (.inl r3.1)) rfl fk_1_109 rfl (by decide) fn_C_take (Nat.le_of_ble_eq_true rfl) (K) ?_
      refine fm_gr O 4 (C' := (84, [(0, .inr (.inr (.inr (.inr (13, 0))))), (1, .inl op), (2, .inl aa)], [.inl aa, .inl op, .inr (.inr (.inr (.inr (13, 0))))], (r3.2, J, G, fm_P (1, 0) pb))) rfl ?_
      have K := fmC_addRow_c (d := d) hl (by omega) r3.2 J G pb op aa hp
      generalize er4 : fmC_addRow_f r3.2 op aa = r4 at he
      have he := he.trans (fm_letE _ _)
      rw [er4] at K
      refine fm_cV0 O fmC_addRow_o (i := 0) (as := [.inl op, .inl aa]) (rest := []) (v := some (.inl r4.1)) rfl fk_1_100 rfl (by decide) fn_C_addRow (Nat.le_of_ble_eq_true rfl) (K) ?_
      refine fm_gr O 2 (C' := (218, [(0, .inr (.inr (.inr (.inr (13, 0))))), (1, .inl op), (2, .inl aa)], [], (r4.2, J, G, fm_P (1, 0) pb))) rfl ?_
      exact fm_gRe O rfl trivial (by first | (rw [he]; done) | (rw [he]; rfl) | rfl) (by first | (rw [he]; done) | (rw [he]; rfl) | rfl)
    · have he := he.trans (if_neg h2)
      have hp := hp.2 h2
      by_cases h3 : op = 6
      · have he := he.trans (if_pos h3)
        have hp := hp.1 h3
        refine fm_gs O 6 rfl (show op.toInt = 6 from by rw [h3]; decide) ?_
        refine fm_gr O 2 (C' := (93, [(0, .inr (.inr (.inr (.inr (13, 0))))), (1, .inl op), (2, .inl aa)], [.inr (.inr (.inr (.inr (13, 0)))), .inr (.inr (.inr (.inr (13, 0))))], (I, J, G, fm_P (1, 0) pb))) rfl ?_
        have hc := hp.1
        have hp := hp.2
        have K := fmC_subject_c (d := d) hl (by omega) I J G pb hc
        refine fm_cV0 O fmC_subject_o (i := 0) (as := []) (rest := [.inr (.inr (.inr (.inr (13, 0))))]) (v := some (.inr (.inr (.inr (.inr (2, (I 13 0 1).toNatClampNeg)))))) rfl fk_1_41 rfl (by decide) fn_C_subject (Nat.le_of_ble_eq_true rfl) (K) ?_
        refine fm_gr O 2 (C' := (100, [(0, .inr (.inr (.inr (.inr (13, 0))))), (1, .inl op), (2, .inl aa)], [.inl aa, .inr (.inr (.inr (.inr (3, (I 13 0 1).toNatClampNeg)))), .inr (.inr (.inr (.inr (13, 0))))], (I, J, G, fm_P (1, 0) pb))) rfl ?_
        refine fm_gg O rfl hp.1 ?_
        have hp := hp.2
        have hc := hp.1
        have hp := hp.2
        have K := fmC_take_c (d := d) hl (by omega) I J G pb (I 3 ((I 13 0 1).toNatClampNeg) aa.toNatClampNeg) hc
        generalize er5 : fmC_take_f I (I 3 ((I 13 0 1).toNatClampNeg) aa.toNatClampNeg) = r5 at he hp
        have he := he.trans (fm_letE _ _)
        have hp := fm_letP hp
        rw [er5] at K
        refine fm_cV0 O fmC_take_o (i := 0) (as := [.inl (I 3 ((I 13 0 1).toNatClampNeg) aa.toNatClampNeg)]) (rest := []) (v := some (.inl r5.1)) rfl fk_1_109 rfl (by decide) fn_C_take (Nat.le_of_ble_eq_true rfl) (K) ?_
        refine fm_gr O 4 (C' := (108, [(0, .inr (.inr (.inr (.inr (13, 0))))), (1, .inl op), (2, .inl aa)], [.inl aa, .inl op, .inr (.inr (.inr (.inr (13, 0))))], (r5.2, J, G, fm_P (1, 0) pb))) rfl ?_
        have hc := hp.1
        have hp := hp.2
        have K := fmC_addRow_c (d := d) hl (by omega) r5.2 J G pb op aa hc
        generalize er6 : fmC_addRow_f r5.2 op aa = r6 at he hp
        have he := he.trans (fm_letE _ _)
        have hp := fm_letP hp
        rw [er6] at K
        refine fm_cV0 O fmC_addRow_o (i := 0) (as := [.inl op, .inl aa]) (rest := []) (v := some (.inl r6.1)) rfl fk_1_100 rfl (by decide) fn_C_addRow (Nat.le_of_ble_eq_true rfl) (K) ?_
        refine fm_gr O 3 (C' := (114, [(0, .inr (.inr (.inr (.inr (13, 0))))), (1, .inl op), (2, .inl aa)], [.inr (.inr (.inr (.inr (13, 0)))), .inr (.inr (.inr (.inr (13, 0))))], (r6.2, J, G, fm_P (1, 0) pb))) rfl ?_
        have hc := hp.1
        have hp := hp.2
        have K := fmC_subject_c (d := d) hl (by omega) r6.2 J G pb hc
        refine fm_cV0 O fmC_subject_o (i := 0) (as := []) (rest := [.inr (.inr (.inr (.inr (13, 0))))]) (v := some (.inr (.inr (.inr (.inr (2, (r6.2 13 0 1).toNatClampNeg)))))) rfl fk_1_41 rfl (by decide) fn_C_subject (Nat.le_of_ble_eq_true rfl) (K) ?_
        refine fm_gr O 2 (C' := (121, [(0, .inr (.inr (.inr (.inr (13, 0))))), (1, .inl op), (2, .inl aa)], [.inl aa, .inr (.inr (.inr (.inr (3, (r6.2 13 0 1).toNatClampNeg)))), .inr (.inr (.inr (.inr (13, 0))))], (r6.2, J, G, fm_P (1, 0) pb))) rfl ?_
        refine fm_gg O rfl hp.1 ?_
        have hp := hp.2
        have K := fmC_put_c (d := d) hl (by omega) r6.2 J G pb (r6.2 3 ((r6.2 13 0 1).toNatClampNeg) aa.toNatClampNeg) hp
        generalize er7 : fmC_put_f r6.2 (r6.2 3 ((r6.2 13 0 1).toNatClampNeg) aa.toNatClampNeg) = r7 at he
        have he := he.trans (fm_letE _ _)
        rw [er7] at K
        refine fm_cV0 O fmC_put_o (i := 0) (as := [.inl (r6.2 3 ((r6.2 13 0 1).toNatClampNeg) aa.toNatClampNeg)]) (rest := []) (v := none) rfl fk_1_105 rfl (by decide) fn_C_put (Nat.le_of_ble_eq_true rfl) (K) ?_
        refine fm_gr O 1 (C' := (218, [(0, .inr (.inr (.inr (.inr (13, 0))))), (1, .inl op), (2, .inl aa)], [], (r7, J, G, fm_P (1, 0) pb))) rfl ?_
        exact fm_gRe O rfl trivial (by first | (rw [he]; done) | (rw [he]; rfl) | rfl) (by first | (rw [he]; done) | (rw [he]; rfl) | rfl)
      · have he := he.trans (if_neg h3)
        have hp := hp.2 h3
        by_cases h4 : op = 7
        · have he := he.trans (if_pos h4)
          have hp := hp.1 h4
          refine fm_gs O 7 rfl (show op.toInt = 7 from by rw [h4]; decide) ?_
          refine fm_gr O 3 (C' := (131, [(0, .inr (.inr (.inr (.inr (13, 0))))), (1, .inl op), (2, .inl aa)], [.inl aa, .inl op, .inr (.inr (.inr (.inr (13, 0))))], (I, J, G, fm_P (1, 0) pb))) rfl ?_
          have hc := hp.1
          have hp := hp.2
          have K := fmC_addRow_c (d := d) hl (by omega) I J G pb op aa hc
          generalize er8 : fmC_addRow_f I op aa = r8 at he hp
          have he := he.trans (fm_letE _ _)
          have hp := fm_letP hp
          rw [er8] at K
          refine fm_cV0 O fmC_addRow_o (i := 0) (as := [.inl op, .inl aa]) (rest := []) (v := some (.inl r8.1)) rfl fk_1_100 rfl (by decide) fn_C_addRow (Nat.le_of_ble_eq_true rfl) (K) ?_
          refine fm_gr O 3 (C' := (137, [(0, .inr (.inr (.inr (.inr (13, 0))))), (1, .inl op), (2, .inl aa)], [.inl aa, .inr (.inr (.inr (.inr (13, 0))))], (r8.2, J, G, fm_P (1, 0) pb))) rfl ?_
          have K := fmC_put_c (d := d) hl (by omega) r8.2 J G pb aa hp
          generalize er9 : fmC_put_f r8.2 aa = r9 at he
          have he := he.trans (fm_letE _ _)
          rw [er9] at K
          refine fm_cV0 O fmC_put_o (i := 0) (as := [.inl aa]) (rest := []) (v := none) rfl fk_1_105 rfl (by decide) fn_C_put (Nat.le_of_ble_eq_true rfl) (K) ?_
          refine fm_gr O 1 (C' := (218, [(0, .inr (.inr (.inr (.inr (13, 0))))), (1, .inl op), (2, .inl aa)], [], (r9, J, G, fm_P (1, 0) pb))) rfl ?_
          exact fm_gRe O rfl trivial (by first | (rw [he]; done) | (rw [he]; rfl) | rfl) (by first | (rw [he]; done) | (rw [he]; rfl) | rfl)
        · have he := he.trans (if_neg h4)
          have hp := hp.2 h4
          by_cases h5 : op = 8
          · have he := he.trans (if_pos h5)
            have hp := hp.1 h5
            refine fm_gs O 8 rfl (show op.toInt = 8 from by rw [h5]; decide) ?_
            refine fm_gr O 2 (C' := (145, [(0, .inr (.inr (.inr (.inr (13, 0))))), (1, .inl op), (2, .inl aa)], [.inl aa, .inr (.inr (.inr (.inr (13, 0))))], (I, J, G, fm_P (1, 0) pb))) rfl ?_
            have hc := hp.1
            have hp := hp.2
            have K := fmC_take_c (d := d) hl (by omega) I J G pb aa hc
            generalize er10 : fmC_take_f I aa = r10 at he hp
            have he := he.trans (fm_letE _ _)
            have hp := fm_letP hp
            rw [er10] at K
            refine fm_cV0 O fmC_take_o (i := 0) (as := [.inl aa]) (rest := []) (v := some (.inl r10.1)) rfl fk_1_109 rfl (by decide) fn_C_take (Nat.le_of_ble_eq_true rfl) (K) ?_
            refine fm_gr O 4 (C' := (152, [(0, .inr (.inr (.inr (.inr (13, 0))))), (1, .inl op), (2, .inl aa)], [.inl aa, .inl op, .inr (.inr (.inr (.inr (13, 0))))], (r10.2, J, G, fm_P (1, 0) pb))) rfl ?_
            have K := fmC_addRow_c (d := d) hl (by omega) r10.2 J G pb op aa hp
            generalize er11 : fmC_addRow_f r10.2 op aa = r11 at he
            have he := he.trans (fm_letE _ _)
            rw [er11] at K
            refine fm_cV0 O fmC_addRow_o (i := 0) (as := [.inl op, .inl aa]) (rest := []) (v := some (.inl r11.1)) rfl fk_1_100 rfl (by decide) fn_C_addRow (Nat.le_of_ble_eq_true rfl) (K) ?_
            refine fm_gr O 2 (C' := (218, [(0, .inr (.inr (.inr (.inr (13, 0))))), (1, .inl op), (2, .inl aa)], [], (r11.2, J, G, fm_P (1, 0) pb))) rfl ?_
            exact fm_gRe O rfl trivial (by first | (rw [he]; done) | (rw [he]; rfl) | rfl) (by first | (rw [he]; done) | (rw [he]; rfl) | rfl)
          · have he := he.trans (if_neg h5)
            have hp := hp.2 h5
            by_cases h6 : op = 9
            · have he := he.trans (if_pos h6)
              have hp := hp.1 h6
              refine fm_gs O 9 rfl (show op.toInt = 9 from by rw [h6]; decide) ?_
              refine fm_gr O 2 (C' := (161, [(0, .inr (.inr (.inr (.inr (13, 0))))), (1, .inl op), (2, .inl aa)], [.inl 5, .inr (.inr (.inr (.inr (13, 0))))], (I, J, G, fm_P (1, 0) pb))) rfl ?_
              have hc := hp.1
              have hp := hp.2
              have K := fmC_take_c (d := d) hl (by omega) I J G pb 5 hc
              generalize er12 : fmC_take_f I 5 = r12 at he hp
              have he := he.trans (fm_letE _ _)
              have hp := fm_letP hp
              rw [er12] at K
              refine fm_cV0 O fmC_take_o (i := 0) (as := [.inl 5]) (rest := []) (v := some (.inl r12.1)) rfl fk_1_109 rfl (by decide) fn_C_take (Nat.le_of_ble_eq_true rfl) (K) ?_
              refine fm_gr O 4 (C' := (168, [(0, .inr (.inr (.inr (.inr (13, 0))))), (1, .inl op), (2, .inl aa)], [.inl aa, .inl op, .inr (.inr (.inr (.inr (13, 0))))], (r12.2, J, G, fm_P (1, 0) pb))) rfl ?_
              have K := fmC_addRow_c (d := d) hl (by omega) r12.2 J G pb op aa hp
              generalize er13 : fmC_addRow_f r12.2 op aa = r13 at he
              have he := he.trans (fm_letE _ _)
              rw [er13] at K
              refine fm_cV0 O fmC_addRow_o (i := 0) (as := [.inl op, .inl aa]) (rest := []) (v := some (.inl r13.1)) rfl fk_1_100 rfl (by decide) fn_C_addRow (Nat.le_of_ble_eq_true rfl) (K) ?_
              refine fm_gr O 2 (C' := (218, [(0, .inr (.inr (.inr (.inr (13, 0))))), (1, .inl op), (2, .inl aa)], [], (r13.2, J, G, fm_P (1, 0) pb))) rfl ?_
              exact fm_gRe O rfl trivial (by first | (rw [he]; done) | (rw [he]; rfl) | rfl) (by first | (rw [he]; done) | (rw [he]; rfl) | rfl)
            · have he := he.trans (if_neg h6)
              have hp := hp.2 h6
              by_cases h7 : op = 10
              · have he := he.trans (if_pos h7)
                have hp := hp.1 h7
                refine fm_gs O 10 rfl (show op.toInt = 10 from by rw [h7]; decide) ?_
                refine fm_gr O 2 (C' := (177, [(0, .inr (.inr (.inr (.inr (13, 0))))), (1, .inl op), (2, .inl aa)], [.inl 0, .inr (.inr (.inr (.inr (13, 0))))], (I, J, G, fm_P (1, 0) pb))) rfl ?_
                have hc := hp.1
                have hp := hp.2
                have K := fmC_take_c (d := d) hl (by omega) I J G pb 0 hc
                generalize er14 : fmC_take_f I 0 = r14 at he hp
                have he := he.trans (fm_letE _ _)
                have hp := fm_letP hp
                rw [er14] at K
                refine fm_cV0 O fmC_take_o (i := 0) (as := [.inl 0]) (rest := []) (v := some (.inl r14.1)) rfl fk_1_109 rfl (by decide) fn_C_take (Nat.le_of_ble_eq_true rfl) (K) ?_
                refine fm_gr O 4 (C' := (184, [(0, .inr (.inr (.inr (.inr (13, 0))))), (1, .inl op), (2, .inl aa)], [.inl 5, .inr (.inr (.inr (.inr (13, 0)))), .inr (.inr (.inr (.inr (13, 0))))], (r14.2, J, G, fm_P (1, 0) pb))) rfl ?_
                have hc := hp.1
                have hp := hp.2
                have K := fmC_take_c (d := d) hl (by omega) r14.2 J G pb 5 hc
                generalize er15 : fmC_take_f r14.2 5 = r15 at he hp
                have he := he.trans (fm_letE _ _)
                have hp := fm_letP hp
                rw [er15] at K
                refine fm_cV0 O fmC_take_o (i := 0) (as := [.inl 5]) (rest := [.inr (.inr (.inr (.inr (13, 0))))]) (v := some (.inl r15.1)) rfl fk_1_109 rfl (by decide) fn_C_take (Nat.le_of_ble_eq_true rfl) (K) ?_
                have hc := hp.1
                have hp := hp.2
                have K := fmC_take_c (d := d) hl (by omega) r15.2 J G pb r15.1 hc
                generalize er16 : fmC_take_f r15.2 r15.1 = r16 at he hp
                have he := he.trans (fm_letE _ _)
                have hp := fm_letP hp
                rw [er16] at K
                refine fm_cV0 O fmC_take_o (i := 0) (as := [.inl r15.1]) (rest := []) (v := some (.inl r16.1)) rfl fk_1_109 rfl (by decide) fn_C_take (Nat.le_of_ble_eq_true rfl) (K) ?_
                refine fm_gr O 4 (C' := (194, [(3, .inl r16.1), (0, .inr (.inr (.inr (.inr (13, 0))))), (1, .inl op), (2, .inl aa)], [.inl aa, .inl op, .inr (.inr (.inr (.inr (13, 0))))], (r16.2, J, G, fm_P (1, 0) pb))) rfl ?_
                have hc := hp.1
                have hp := hp.2
                have K := fmC_addRow_c (d := d) hl (by omega) r16.2 J G pb op aa hc
                generalize er17 : fmC_addRow_f r16.2 op aa = r17 at he hp
                have he := he.trans (fm_letE _ _)
                have hp := fm_letP hp
                rw [er17] at K
                refine fm_cV0 O fmC_addRow_o (i := 0) (as := [.inl op, .inl aa]) (rest := []) (v := some (.inl r17.1)) rfl fk_1_100 rfl (by decide) fn_C_addRow (Nat.le_of_ble_eq_true rfl) (K) ?_
                refine fm_gr O 3 (C' := (200, [(3, .inl r16.1), (0, .inr (.inr (.inr (.inr (13, 0))))), (1, .inl op), (2, .inl aa)], [.inl r16.1, .inr (.inr (.inr (.inr (13, 0))))], (r17.2, J, G, fm_P (1, 0) pb))) rfl ?_
                have K := fmC_put_c (d := d) hl (by omega) r17.2 J G pb r16.1 hp
                generalize er18 : fmC_put_f r17.2 r16.1 = r18 at he
                have he := he.trans (fm_letE _ _)
                rw [er18] at K
                refine fm_cV0 O fmC_put_o (i := 0) (as := [.inl r16.1]) (rest := []) (v := none) rfl fk_1_105 rfl (by decide) fn_C_put (Nat.le_of_ble_eq_true rfl) (K) ?_
                refine fm_gr O 1 (C' := (218, [(3, .inl r16.1), (0, .inr (.inr (.inr (.inr (13, 0))))), (1, .inl op), (2, .inl aa)], [], (r18, J, G, fm_P (1, 0) pb))) rfl ?_
                exact fm_gRe O rfl trivial (by first | (rw [he]; done) | (rw [he]; rfl) | rfl) (by first | (rw [he]; done) | (rw [he]; rfl) | rfl)
              · have he := he.trans (if_neg h7)
                have hp := hp.2 h7
                refine fm_gt O rfl (by
                    show op.toInt < 4 ∨ 10 < op.toInt
                    have := lv_neT h1 (show (4 : Int32).toInt = 4 from by decide)
                    have := lv_neT h2 (show (5 : Int32).toInt = 5 from by decide)
                    have := lv_neT h3 (show (6 : Int32).toInt = 6 from by decide)
                    have := lv_neT h4 (show (7 : Int32).toInt = 7 from by decide)
                    have := lv_neT h5 (show (8 : Int32).toInt = 8 from by decide)
                    have := lv_neT h6 (show (9 : Int32).toInt = 9 from by decide)
                    have := lv_neT h7 (show (10 : Int32).toInt = 10 from by decide)
                    omega) ?_
                refine fm_gr O 3 (C' := (209, [(0, .inr (.inr (.inr (.inr (13, 0))))), (1, .inl op), (2, .inl aa)], [.inl aa, .inl op, .inr (.inr (.inr (.inr (13, 0))))], (I, J, G, fm_P (1, 0) pb))) rfl ?_
                have hc := hp.1
                have hp := hp.2
                have K := fmC_addRow_c (d := d) hl (by omega) I J G pb op aa hc
                generalize er19 : fmC_addRow_f I op aa = r19 at he hp
                have he := he.trans (fm_letE _ _)
                have hp := fm_letP hp
                rw [er19] at K
                refine fm_cV0 O fmC_addRow_o (i := 0) (as := [.inl op, .inl aa]) (rest := []) (v := some (.inl r19.1)) rfl fk_1_100 rfl (by decide) fn_C_addRow (Nat.le_of_ble_eq_true rfl) (K) ?_
                refine fm_gr O 3 (C' := (215, [(0, .inr (.inr (.inr (.inr (13, 0))))), (1, .inl op), (2, .inl aa)], [.inl op, .inr (.inr (.inr (.inr (13, 0))))], (r19.2, J, G, fm_P (1, 0) pb))) rfl ?_
                have K := fmC_put_c (d := d) hl (by omega) r19.2 J G pb op hp
                generalize er20 : fmC_put_f r19.2 op = r20 at he
                have he := he.trans (fm_letE _ _)
                rw [er20] at K
                refine fm_cV0 O fmC_put_o (i := 0) (as := [.inl op]) (rest := []) (v := none) rfl fk_1_105 rfl (by decide) fn_C_put (Nat.le_of_ble_eq_true rfl) (K) ?_
                exact fm_gRe O rfl trivial (by first | (rw [he]; done) | (rw [he]; rfl) | rfl) (by first | (rw [he]; done) | (rw [he]; rfl) | rfl)
def fmC_compute_f (I : fm_MI) (op : Int32) (aa : Int32) : fm_MI :=
  if op = 20 then (fm_let (fmC_take_f I (aa / 4)) (fun (r1 : Int32 × fm_MI) => fm_let (fmC_addRow_f r1.2 op aa) (fun (r2 : Int32 × fm_MI) => fm_let (fmC_put_f r2.2 (aa - aa / 4 * 4)) (fun (r3 : fm_MI) => r3)))) else (fm_let (fmC_take_f I aa) (fun (r4 : Int32 × fm_MI) => fm_let (fmC_take_f r4.2 aa) (fun (r5 : Int32 × fm_MI) => fm_let (fmC_addRow_f r5.2 op aa) (fun (r6 : Int32 × fm_MI) => if op = 18 then (fm_let (fmC_put_f r6.2 0) (fun (r7 : fm_MI) => r7)) else (if op = 19 then (fm_let (fmC_put_f r6.2 0) (fun (r8 : fm_MI) => r8)) else (fm_let (fmC_put_f r6.2 aa) (fun (r9 : fm_MI) => r9)))))))
theorem fmC_compute_e (I : fm_MI) (op : Int32) (aa : Int32) : fmC_compute_f I op aa = if op = 20 then (fm_let (fmC_take_f I (aa / 4)) (fun (r1 : Int32 × fm_MI) => fm_let (fmC_addRow_f r1.2 op aa) (fun (r2 : Int32 × fm_MI) => fm_let (fmC_put_f r2.2 (aa - aa / 4 * 4)) (fun (r3 : fm_MI) => r3)))) else (fm_let (fmC_take_f I aa) (fun (r4 : Int32 × fm_MI) => fm_let (fmC_take_f r4.2 aa) (fun (r5 : Int32 × fm_MI) => fm_let (fmC_addRow_f r5.2 op aa) (fun (r6 : Int32 × fm_MI) => if op = 18 then (fm_let (fmC_put_f r6.2 0) (fun (r7 : fm_MI) => r7)) else (if op = 19 then (fm_let (fmC_put_f r6.2 0) (fun (r8 : fm_MI) => r8)) else (fm_let (fmC_put_f r6.2 aa) (fun (r9 : fm_MI) => r9))))))) := rfl
def fmC_compute_p (I : fm_MI) (op : Int32) (aa : Int32) : Prop :=
  (op = 20 → fmC_take_p I (aa / 4) ∧ (fm_let (fmC_take_f I (aa / 4)) (fun (r1 : Int32 × fm_MI) => fmC_addRow_p r1.2 ∧ (fm_let (fmC_addRow_f r1.2 op aa) (fun (r2 : Int32 × fm_MI) => fmC_put_p r2.2 (aa - aa / 4 * 4)))))) ∧ (¬ op = 20 → fmC_take_p I aa ∧ (fm_let (fmC_take_f I aa) (fun (r4 : Int32 × fm_MI) => fmC_take_p r4.2 aa ∧ (fm_let (fmC_take_f r4.2 aa) (fun (r5 : Int32 × fm_MI) => fmC_addRow_p r5.2 ∧ (fm_let (fmC_addRow_f r5.2 op aa) (fun (r6 : Int32 × fm_MI) => (op = 18 → fmC_put_p r6.2 0) ∧ (¬ op = 18 → (op = 19 → fmC_put_p r6.2 0) ∧ (¬ op = 19 → fmC_put_p r6.2 aa)))))))))
set_option maxRecDepth 100000 in
set_option maxHeartbeats 4000000 in
theorem fmC_compute_c {E : fm_Ev} (hl : E.1.stackTraces = false) {d : Nat} (hd : 2 ≤ d) (I : fm_MI) (J : fm_MJ) (G : fm_MG) (pb : Nat × Nat) (op : Int32) (aa : Int32) (hp : fmC_compute_p I op aa) : fm_Ct E d fmC_compute 0 [.inr (.inr (.inr (.inr (13, 0)))), .inl op, .inl aa] (I, J, G, fm_P (1, 0) pb) none (fmC_compute_f I op aa, J, G, fm_P (1, 0) pb) := by
  obtain ⟨d, rfl⟩ : ∃ d', d = d' + 1 := ⟨d - 1, by omega⟩
  refine fm_ct fmC_compute_o hl (Nat.le_of_ble_eq_true rfl) ?_
  have O := fmC_compute_o.1
  unfold fmC_compute_p at hp
  have he := fmC_compute_e I op aa
  refine fm_gr O 2 (C' := (3, [(0, .inr (.inr (.inr (.inr (13, 0))))), (1, .inl op), (2, .inl aa)], [.inl 20, .inl op], (I, J, G, fm_P (1, 0) pb))) rfl ?_
  refine fm_gb O rfl (fun h => ?_) (fun h => ?_)
  · have h1 : op = 20 := h
    have he := he.trans (if_pos h1)
    have hp := hp.1 h1
    refine fm_gr O 3 (C' := (9, [(0, .inr (.inr (.inr (.inr (13, 0))))), (1, .inl op), (2, .inl aa)], [.inl 4, .inl aa, .inr (.inr (.inr (.inr (13, 0))))], (I, J, G, fm_P (1, 0) pb))) rfl ?_
    refine fm_gg O rfl (show ¬ (4 : Int32) = 0 by decide) ?_
    have hc := hp.1
    have hp := hp.2
    have K := fmC_take_c (d := d) hl (by omega) I J G pb (aa / 4) hc
    generalize er1 : fmC_take_f I (aa / 4) = r1 at he hp
    have he := he.trans (fm_letE _ _)
    have hp := fm_letP hp
    rw [er1] at K
    refine fm_cV0 O fmC_take_o (i := 0) (as := [.inl (aa / 4)]) (rest := []) (v := some (.inl r1.1)) rfl fk_1_109 rfl (by decide) fn_C_take (Nat.le_of_ble_eq_true rfl) (K) ?_
    refine fm_gr O 4 (C' := (17, [(0, .inr (.inr (.inr (.inr (13, 0))))), (1, .inl op), (2, .inl aa)], [.inl aa, .inl op, .inr (.inr (.inr (.inr (13, 0))))], (r1.2, J, G, fm_P (1, 0) pb))) rfl ?_
    have hc := hp.1
    have hp := hp.2
    have K := fmC_addRow_c (d := d) hl (by omega) r1.2 J G pb op aa hc
    generalize er2 : fmC_addRow_f r1.2 op aa = r2 at he hp
    have he := he.trans (fm_letE _ _)
    have hp := fm_letP hp
    rw [er2] at K
    refine fm_cV0 O fmC_addRow_o (i := 0) (as := [.inl op, .inl aa]) (rest := []) (v := some (.inl r2.1)) rfl fk_1_100 rfl (by decide) fn_C_addRow (Nat.le_of_ble_eq_true rfl) (K) ?_
    refine fm_gr O 4 (C' := (24, [(0, .inr (.inr (.inr (.inr (13, 0))))), (1, .inl op), (2, .inl aa)], [.inl 4, .inl aa, .inr (.inr (.inr (.inr (13, 0))))], (r2.2, J, G, fm_P (1, 0) pb))) rfl ?_
    refine fm_gg O rfl (show ¬ (4 : Int32) = 0 by decide) ?_
    have K := fmC_put_c (d := d) hl (by omega) r2.2 J G pb (aa - aa / 4 * 4) hp
    generalize er3 : fmC_put_f r2.2 (aa - aa / 4 * 4) = r3 at he
    have he := he.trans (fm_letE _ _)
    rw [er3] at K
    refine fm_cV0 O fmC_put_o (i := 0) (as := [.inl (aa - aa / 4 * 4)]) (rest := []) (v := none) rfl fk_1_105 rfl (by decide) fn_C_put (Nat.le_of_ble_eq_true rfl) (K) ?_
    refine fm_gr O 1 (C' := (71, [(0, .inr (.inr (.inr (.inr (13, 0))))), (1, .inl op), (2, .inl aa)], [], (r3, J, G, fm_P (1, 0) pb))) rfl ?_
    exact fm_gRe O rfl trivial (by first | (rw [he]; done) | (rw [he]; rfl) | rfl) (by first | (rw [he]; done) | (rw [he]; rfl) | rfl)
  · have h1 : ¬ op = 20 := h
    have he := he.trans (if_neg h1)
    have hp := hp.2 h1
    refine fm_gr O 2 (C' := (33, [(0, .inr (.inr (.inr (.inr (13, 0))))), (1, .inl op), (2, .inl aa)], [.inl aa, .inr (.inr (.inr (.inr (13, 0))))], (I, J, G, fm_P (1, 0) pb))) rfl ?_
    have hc := hp.1
    have hp := hp.2
    have K := fmC_take_c (d := d) hl (by omega) I J G pb aa hc
    generalize er4 : fmC_take_f I aa = r4 at he hp
    have he := he.trans (fm_letE _ _)
    have hp := fm_letP hp
    rw [er4] at K
    refine fm_cV0 O fmC_take_o (i := 0) (as := [.inl aa]) (rest := []) (v := some (.inl r4.1)) rfl fk_1_109 rfl (by decide) fn_C_take (Nat.le_of_ble_eq_true rfl) (K) ?_
    refine fm_gr O 3 (C' := (39, [(0, .inr (.inr (.inr (.inr (13, 0))))), (1, .inl op), (2, .inl aa)], [.inl aa, .inr (.inr (.inr (.inr (13, 0))))], (r4.2, J, G, fm_P (1, 0) pb))) rfl ?_
    have hc := hp.1
    have hp := hp.2
    have K := fmC_take_c (d := d) hl (by omega) r4.2 J G pb aa hc
    generalize er5 : fmC_take_f r4.2 aa = r5 at he hp
    have he := he.trans (fm_letE _ _)
    have hp := fm_letP hp
    rw [er5] at K
    refine fm_cV0 O fmC_take_o (i := 0) (as := [.inl aa]) (rest := []) (v := some (.inl r5.1)) rfl fk_1_109 rfl (by decide) fn_C_take (Nat.le_of_ble_eq_true rfl) (K) ?_
    refine fm_gr O 4 (C' := (46, [(0, .inr (.inr (.inr (.inr (13, 0))))), (1, .inl op), (2, .inl aa)], [.inl aa, .inl op, .inr (.inr (.inr (.inr (13, 0))))], (r5.2, J, G, fm_P (1, 0) pb))) rfl ?_
    have hc := hp.1
    have hp := hp.2
    have K := fmC_addRow_c (d := d) hl (by omega) r5.2 J G pb op aa hc
    generalize er6 : fmC_addRow_f r5.2 op aa = r6 at he hp
    have he := he.trans (fm_letE _ _)
    have hp := fm_letP hp
    rw [er6] at K
    refine fm_cV0 O fmC_addRow_o (i := 0) (as := [.inl op, .inl aa]) (rest := []) (v := some (.inl r6.1)) rfl fk_1_100 rfl (by decide) fn_C_addRow (Nat.le_of_ble_eq_true rfl) (K) ?_
    refine fm_gr O 4 (C' := (54, [(0, .inr (.inr (.inr (.inr (13, 0))))), (1, .inl op), (2, .inl aa)], [.inl 18, .inl op, .inr (.inr (.inr (.inr (13, 0))))], (r6.2, J, G, fm_P (1, 0) pb))) rfl ?_
    refine fm_gb O rfl (fun h => ?_) (fun h => ?_)
    · have h2 : op = 18 := h
      have he := he.trans (if_pos h2)
      have hp := hp.1 h2
      refine fm_gr O 2 (C' := (68, [(0, .inr (.inr (.inr (.inr (13, 0))))), (1, .inl op), (2, .inl aa)], [.inl 0, .inr (.inr (.inr (.inr (13, 0))))], (r6.2, J, G, fm_P (1, 0) pb))) rfl ?_
      have K := fmC_put_c (d := d) hl (by omega) r6.2 J G pb 0 hp
      generalize er7 : fmC_put_f r6.2 0 = r7 at he
      have he := he.trans (fm_letE _ _)
      rw [er7] at K
      refine fm_cV0 O fmC_put_o (i := 0) (as := [.inl 0]) (rest := []) (v := none) rfl fk_1_105 rfl (by decide) fn_C_put (Nat.le_of_ble_eq_true rfl) (K) ?_
      exact fm_gRe O rfl trivial (by first | (rw [he]; done) | (rw [he]; rfl) | rfl) (by first | (rw [he]; done) | (rw [he]; rfl) | rfl)
    · have h2 : ¬ op = 18 := h
      have he := he.trans (if_neg h2)
      have hp := hp.2 h2
      refine fm_gr O 2 (C' := (60, [(0, .inr (.inr (.inr (.inr (13, 0))))), (1, .inl op), (2, .inl aa)], [.inl 19, .inl op, .inr (.inr (.inr (.inr (13, 0))))], (r6.2, J, G, fm_P (1, 0) pb))) rfl ?_
      refine fm_gb O rfl (fun h => ?_) (fun h => ?_)
      · have h3 : op = 19 := h
        have he := he.trans (if_pos h3)
        have hp := hp.1 h3
        refine fm_gr O 2 (C' := (68, [(0, .inr (.inr (.inr (.inr (13, 0))))), (1, .inl op), (2, .inl aa)], [.inl 0, .inr (.inr (.inr (.inr (13, 0))))], (r6.2, J, G, fm_P (1, 0) pb))) rfl ?_
        have K := fmC_put_c (d := d) hl (by omega) r6.2 J G pb 0 hp
        generalize er8 : fmC_put_f r6.2 0 = r8 at he
        have he := he.trans (fm_letE _ _)
        rw [er8] at K
        refine fm_cV0 O fmC_put_o (i := 0) (as := [.inl 0]) (rest := []) (v := none) rfl fk_1_105 rfl (by decide) fn_C_put (Nat.le_of_ble_eq_true rfl) (K) ?_
        exact fm_gRe O rfl trivial (by first | (rw [he]; done) | (rw [he]; rfl) | rfl) (by first | (rw [he]; done) | (rw [he]; rfl) | rfl)
      · have h3 : ¬ op = 19 := h
        have he := he.trans (if_neg h3)
        have hp := hp.2 h3
        refine fm_gr O 1 (C' := (68, [(0, .inr (.inr (.inr (.inr (13, 0))))), (1, .inl op), (2, .inl aa)], [.inl aa, .inr (.inr (.inr (.inr (13, 0))))], (r6.2, J, G, fm_P (1, 0) pb))) rfl ?_
        have K := fmC_put_c (d := d) hl (by omega) r6.2 J G pb aa hp
        generalize er9 : fmC_put_f r6.2 aa = r9 at he
        have he := he.trans (fm_letE _ _)
        rw [er9] at K
        refine fm_cV0 O fmC_put_o (i := 0) (as := [.inl aa]) (rest := []) (v := none) rfl fk_1_105 rfl (by decide) fn_C_put (Nat.le_of_ble_eq_true rfl) (K) ?_
        exact fm_gRe O rfl trivial (by first | (rw [he]; done) | (rw [he]; rfl) | rfl) (by first | (rw [he]; done) | (rw [he]; rfl) | rfl)
def fmC_takeJustWhatIsGiven_f (I : fm_MI) : fm_MI :=
  fm_let (fmC_take_f I (I 17 ((I 13 0 6).toNatClampNeg) 1)) (fun (r1 : Int32 × fm_MI) => if (r1.2 13 0 2) = 0 then (if (r1.2 13 0 4) ≤ (r1.2 17 ((r1.2 13 0 6).toNatClampNeg) 2) then r1.2 else (fm_u r1.2 13 0 2 4)) else r1.2)
theorem fmC_takeJustWhatIsGiven_e (I : fm_MI) : fmC_takeJustWhatIsGiven_f I = fm_let (fmC_take_f I (I 17 ((I 13 0 6).toNatClampNeg) 1)) (fun (r1 : Int32 × fm_MI) => if (r1.2 13 0 2) = 0 then (if (r1.2 13 0 4) ≤ (r1.2 17 ((r1.2 13 0 6).toNatClampNeg) 2) then r1.2 else (fm_u r1.2 13 0 2 4)) else r1.2) := rfl
def fmC_takeJustWhatIsGiven_p (I : fm_MI) : Prop :=
  (vp_in (I 13 0 6) 9) ∧ (fmC_take_p I (I 17 ((I 13 0 6).toNatClampNeg) 1) ∧ (fm_let (fmC_take_f I (I 17 ((I 13 0 6).toNatClampNeg) 1)) (fun (r1 : Int32 × fm_MI) => ((r1.2 13 0 2) = 0 → vp_in (r1.2 13 0 6) 9) ∧ (¬ (r1.2 13 0 2) = 0 → True))))
set_option maxRecDepth 100000 in
set_option maxHeartbeats 4000000 in
theorem fmC_takeJustWhatIsGiven_c {E : fm_Ev} (hl : E.1.stackTraces = false) {d : Nat} (hd : 1 ≤ d) (I : fm_MI) (J : fm_MJ) (G : fm_MG) (pb : Nat × Nat) (hp : fmC_takeJustWhatIsGiven_p I) : fm_Ct E d fmC_takeJustWhatIsGiven 0 [.inr (.inr (.inr (.inr (13, 0))))] (I, J, G, fm_P (1, 0) pb) none (fmC_takeJustWhatIsGiven_f I, J, G, fm_P (1, 0) pb) := by
  obtain ⟨d, rfl⟩ : ∃ d', d = d' + 1 := ⟨d - 1, by omega⟩
  refine fm_ct fmC_takeJustWhatIsGiven_o hl (Nat.le_of_ble_eq_true rfl) ?_
  have O := fmC_takeJustWhatIsGiven_o.1
  unfold fmC_takeJustWhatIsGiven_p at hp
  have he := fmC_takeJustWhatIsGiven_e I
  refine fm_gr O 5 (C' := (9, [(0, .inr (.inr (.inr (.inr (13, 0)))))], [.inl (I 13 0 6), .inr (.inr (.inr (.inr (16, 0)))), .inr (.inr (.inr (.inr (13, 0))))], (I, J, G, fm_P (1, 0) pb))) rfl ?_
  refine fm_gg O rfl hp.1 ?_
  have hp := hp.2
  refine fm_gr O 1 (C' := (13, [(0, .inr (.inr (.inr (.inr (13, 0)))))], [.inl (I 17 ((I 13 0 6).toNatClampNeg) 1), .inr (.inr (.inr (.inr (13, 0))))], (I, J, G, fm_P (1, 0) pb))) rfl ?_
  have hc := hp.1
  have hp := hp.2
  have K := fmC_take_c (d := d) hl (by omega) I J G pb (I 17 ((I 13 0 6).toNatClampNeg) 1) hc
  generalize er1 : fmC_take_f I (I 17 ((I 13 0 6).toNatClampNeg) 1) = r1 at he hp
  have he := he.trans (fm_letE _ _)
  have hp := fm_letP hp
  rw [er1] at K
  refine fm_cV0 O fmC_take_o (i := 0) (as := [.inl (I 17 ((I 13 0 6).toNatClampNeg) 1)]) (rest := []) (v := some (.inl r1.1)) rfl fk_1_109 rfl (by decide) fn_C_take (Nat.le_of_ble_eq_true rfl) (K) ?_
  refine fm_gr O 3 (C' := (21, [(0, .inr (.inr (.inr (.inr (13, 0)))))], [.inl (r1.2 13 0 2)], (r1.2, J, G, fm_P (1, 0) pb))) rfl ?_
  refine fm_gb O rfl (fun h => ?_) (fun h => ?_)
  · have h1 : (r1.2 13 0 2) = 0 := h
    have he := he.trans (if_pos h1)
    have hp := hp.1 h1
    refine fm_gr O 6 (C' := (36, [(0, .inr (.inr (.inr (.inr (13, 0)))))], [.inl (r1.2 13 0 6), .inr (.inr (.inr (.inr (16, 0)))), .inl (r1.2 13 0 4)], (r1.2, J, G, fm_P (1, 0) pb))) rfl ?_
    refine fm_gg O rfl hp ?_
    refine fm_gr O 1 (C' := (40, [(0, .inr (.inr (.inr (.inr (13, 0)))))], [.inl (r1.2 17 ((r1.2 13 0 6).toNatClampNeg) 2), .inl (r1.2 13 0 4)], (r1.2, J, G, fm_P (1, 0) pb))) rfl ?_
    refine fm_gb O rfl (fun h => ?_) (fun h => ?_)
    · have h2 : (r1.2 13 0 4) ≤ (r1.2 17 ((r1.2 13 0 6).toNatClampNeg) 2) := h
      have he := he.trans (if_pos h2)
      exact fm_gRe O rfl trivial (by first | (rw [he]; done) | (rw [he]; rfl) | rfl) (by first | (rw [he]; done) | (rw [he]; rfl) | rfl)
    · have h2 : ¬ (r1.2 13 0 4) ≤ (r1.2 17 ((r1.2 13 0 6).toNatClampNeg) 2) := h
      have he := he.trans (if_neg h2)
      refine fm_gr O 3 (C' := (48, [(0, .inr (.inr (.inr (.inr (13, 0)))))], [], (fm_u r1.2 13 0 2 4, J, G, fm_P (1, 0) pb))) rfl ?_
      exact fm_gRe O rfl trivial (by first | (rw [he]; done) | (rw [he]; rfl) | rfl) (by first | (rw [he]; done) | (rw [he]; rfl) | rfl)
  · have h1 : ¬ (r1.2 13 0 2) = 0 := h
    have he := he.trans (if_neg h1)
    exact fm_gRe O rfl trivial (by first | (rw [he]; done) | (rw [he]; rfl) | rfl) (by first | (rw [he]; done) | (rw [he]; rfl) | rfl)
def fmC_openFrame_f (I : fm_MI) (op : Int32) (ty : Int32) : fm_MI :=
  if (I 13 0 2) = 0 then (if (I 13 0 6) = 8 then (fm_u I 13 0 2 7) else (fm_let (fmC_isLive_f I) (fun (r1 : Int32) => fm_let (fmR_open_f (fm_u I 13 0 6 ((I 13 0 6) + 1)) (((I 13 0 6) + 1).toNatClampNeg) op ty (I 13 0 4) (I 6 (((fm_u I 13 0 6 ((I 13 0 6) + 1)) 13 0 1).toNatClampNeg) 0) r1) (fun (r2 : fm_MI) => r2)))) else I
theorem fmC_openFrame_e (I : fm_MI) (op : Int32) (ty : Int32) : fmC_openFrame_f I op ty = if (I 13 0 2) = 0 then (if (I 13 0 6) = 8 then (fm_u I 13 0 2 7) else (fm_let (fmC_isLive_f I) (fun (r1 : Int32) => fm_let (fmR_open_f (fm_u I 13 0 6 ((I 13 0 6) + 1)) (((I 13 0 6) + 1).toNatClampNeg) op ty (I 13 0 4) (I 6 (((fm_u I 13 0 6 ((I 13 0 6) + 1)) 13 0 1).toNatClampNeg) 0) r1) (fun (r2 : fm_MI) => r2)))) else I := rfl
def fmC_openFrame_p (I : fm_MI) : Prop :=
  ((I 13 0 2) = 0 → ((I 13 0 6) = 8 → True) ∧ (¬ (I 13 0 6) = 8 → fmC_isLive_p I ∧ (fm_let (fmC_isLive_f I) (fun (r1 : Int32) => (vp_in ((I 13 0 6) + 1) 9) ∧ (fmC_subject_p (fm_u I 13 0 6 ((I 13 0 6) + 1)) ∧ (fmR_open_p r1)))))) ∧ (¬ (I 13 0 2) = 0 → True)
set_option maxRecDepth 100000 in
set_option maxHeartbeats 4000000 in
theorem fmC_openFrame_c {E : fm_Ev} (hl : E.1.stackTraces = false) {d : Nat} (hd : 1 ≤ d) (I : fm_MI) (J : fm_MJ) (G : fm_MG) (pb : Nat × Nat) (op : Int32) (ty : Int32) (hp : fmC_openFrame_p I) : fm_Ct E d fmC_openFrame 0 [.inr (.inr (.inr (.inr (13, 0)))), .inl op, .inl ty] (I, J, G, fm_P (1, 0) pb) none (fmC_openFrame_f I op ty, J, G, fm_P (1, 0) pb) := by
  obtain ⟨d, rfl⟩ : ∃ d', d = d' + 1 := ⟨d - 1, by omega⟩
  refine fm_ct fmC_openFrame_o hl (Nat.le_of_ble_eq_true rfl) ?_
  have O := fmC_openFrame_o.1
  unfold fmC_openFrame_p at hp
  have he := fmC_openFrame_e I op ty
  refine fm_gr O 2 (C' := (4, [(0, .inr (.inr (.inr (.inr (13, 0))))), (1, .inl op), (2, .inl ty)], [.inl (I 13 0 2)], (I, J, G, fm_P (1, 0) pb))) rfl ?_
  refine fm_gb O rfl (fun h => ?_) (fun h => ?_)
  · have h1 : (I 13 0 2) = 0 := h
    have he := he.trans (if_pos h1)
    have hp := hp.1 h1
    refine fm_gr O 3 (C' := (13, [(0, .inr (.inr (.inr (.inr (13, 0))))), (1, .inl op), (2, .inl ty)], [.inl 8, .inl (I 13 0 6)], (I, J, G, fm_P (1, 0) pb))) rfl ?_
    refine fm_gb O rfl (fun h => ?_) (fun h => ?_)
    · have h2 : (I 13 0 6) = 8 := h
      have he := he.trans (if_pos h2)
      refine fm_gr O 5 (C' := (26, [(0, .inr (.inr (.inr (.inr (13, 0))))), (1, .inl op), (2, .inl ty)], [.inl 7], (fm_u I 13 0 2 7, J, G, fm_P (1, 0) pb))) rfl ?_
      refine fm_gb O rfl (fun h => ?_) (fun h => ?_)
      · exact absurd h (show ¬ (7 : Int32) = 0 by decide)
      · exact fm_gRe O rfl trivial (by first | (rw [he]; done) | (rw [he]; rfl) | rfl) (by first | (rw [he]; done) | (rw [he]; rfl) | rfl)
    · have h2 : ¬ (I 13 0 6) = 8 := h
      have he := he.trans (if_neg h2)
      have hp := hp.2 h2
      refine fm_gr O 2 (C' := (26, [(0, .inr (.inr (.inr (.inr (13, 0))))), (1, .inl op), (2, .inl ty)], [.inl (I 13 0 2)], (I, J, G, fm_P (1, 0) pb))) rfl ?_
      refine fm_gb O rfl (fun h => ?_) (fun h => ?_)
      rotate_left
      · exact absurd h1 h
      · refine fm_gr O 1 (C' := (30, [(0, .inr (.inr (.inr (.inr (13, 0))))), (1, .inl op), (2, .inl ty)], [.inr (.inr (.inr (.inr (13, 0))))], (I, J, G, fm_P (1, 0) pb))) rfl ?_
        have hc := hp.1
        have hp := hp.2
        have K := fmC_isLive_c (d := d) hl (by omega) I J G pb hc
        generalize er1 : fmC_isLive_f I = r1 at he hp
        have he := he.trans (fm_letE _ _)
        have hp := fm_letP hp
        rw [er1] at K
        refine fm_cV0 O fmC_isLive_o (i := 0) (as := []) (rest := []) (v := some (.inl r1)) rfl fk_1_125 rfl (by decide) fn_C_isLive (Nat.le_of_ble_eq_true rfl) (K) ?_
        refine fm_gr O 11 (C' := (52, [(3, .inl r1), (0, .inr (.inr (.inr (.inr (13, 0))))), (1, .inl op), (2, .inl ty)], [.inl ((I 13 0 6) + 1), .inr (.inr (.inr (.inr (16, 0))))], (fm_u I 13 0 6 ((I 13 0 6) + 1), J, G, fm_P (1, 0) pb))) rfl ?_
        refine fm_gg O rfl hp.1 ?_
        have hp := hp.2
        refine fm_gr O 5 (C' := (60, [(3, .inl r1), (0, .inr (.inr (.inr (.inr (13, 0))))), (1, .inl op), (2, .inl ty)], [.inr (.inr (.inr (.inr (13, 0)))), .inl (I 13 0 4), .inl ty, .inl op, .inr (.inr (.inr (.inr (17, ((I 13 0 6) + 1).toNatClampNeg))))], (fm_u I 13 0 6 ((I 13 0 6) + 1), J, G, fm_P (1, 0) pb))) rfl ?_
        have hc := hp.1
        have hp := hp.2
        have K := fmC_subject_c (d := d) hl (by omega) (fm_u I 13 0 6 ((I 13 0 6) + 1)) J G pb hc
        refine fm_cV0 O fmC_subject_o (i := 0) (as := []) (rest := [.inl (I 13 0 4), .inl ty, .inl op, .inr (.inr (.inr (.inr (17, ((I 13 0 6) + 1).toNatClampNeg))))]) (v := some (.inr (.inr (.inr (.inr (2, ((fm_u I 13 0 6 ((I 13 0 6) + 1)) 13 0 1).toNatClampNeg)))))) rfl fk_1_41 rfl (by decide) fn_C_subject (Nat.le_of_ble_eq_true rfl) (K) ?_
        refine fm_gr O 3 (C' := (70, [(3, .inl r1), (0, .inr (.inr (.inr (.inr (13, 0))))), (1, .inl op), (2, .inl ty)], [.inl r1, .inl (I 6 (((fm_u I 13 0 6 ((I 13 0 6) + 1)) 13 0 1).toNatClampNeg) 0), .inl (I 13 0 4), .inl ty, .inl op, .inr (.inr (.inr (.inr (17, ((I 13 0 6) + 1).toNatClampNeg))))], (fm_u I 13 0 6 ((I 13 0 6) + 1), J, G, fm_P (1, 0) pb))) rfl ?_
        have K := fmR_open_c (d := d) hl (by omega) (fm_u I 13 0 6 ((I 13 0 6) + 1)) J G ((1, 0)) pb (((I 13 0 6) + 1).toNatClampNeg) op ty (I 13 0 4) (I 6 (((fm_u I 13 0 6 ((I 13 0 6) + 1)) 13 0 1).toNatClampNeg) 0) r1 hp
        generalize er2 : fmR_open_f (fm_u I 13 0 6 ((I 13 0 6) + 1)) (((I 13 0 6) + 1).toNatClampNeg) op ty (I 13 0 4) (I 6 (((fm_u I 13 0 6 ((I 13 0 6) + 1)) 13 0 1).toNatClampNeg) 0) r1 = r2 at he
        have he := he.trans (fm_letE _ _)
        rw [er2] at K
        refine fm_cV0 O fmR_open_o (i := ((I 13 0 6) + 1).toNatClampNeg) (as := [.inl op, .inl ty, .inl (I 13 0 4), .inl (I 6 (((fm_u I 13 0 6 ((I 13 0 6) + 1)) 13 0 1).toNatClampNeg) 0), .inl r1]) (rest := []) (v := none) rfl fk_1_57 rfl (by decide) fn_R_open (Nat.le_of_ble_eq_true rfl) (K) ?_
        exact fm_gRe O rfl trivial (by first | (rw [he]; done) | (rw [he]; rfl) | rfl) (by first | (rw [he]; done) | (rw [he]; rfl) | rfl)
  · have h1 : ¬ (I 13 0 2) = 0 := h
    have he := he.trans (if_neg h1)
    refine fm_gr O 2 (C' := (26, [(0, .inr (.inr (.inr (.inr (13, 0))))), (1, .inl op), (2, .inl ty)], [.inl (I 13 0 2)], (I, J, G, fm_P (1, 0) pb))) rfl ?_
    refine fm_gb O rfl (fun h => ?_) (fun h => ?_)
    · exact absurd h h1
    · exact fm_gRe O rfl trivial (by first | (rw [he]; done) | (rw [he]; rfl) | rfl) (by first | (rw [he]; done) | (rw [he]; rfl) | rfl)
def fmC_turnToElse_f (I : fm_MI) : fm_MI :=
  if (I 17 ((I 13 0 6).toNatClampNeg) 0) = 23 then (fm_let (fmC_takeJustWhatIsGiven_f I) (fun (r1 : fm_MI) => fm_let (fmC_addRow_f r1 26 0) (fun (r2 : Int32 × fm_MI) => if r2.1 = (-1) then (fm_let (fmK_sendHere_f r2.2 ((r2.2 13 0 1).toNatClampNeg) (r2.2 17 ((I 13 0 6).toNatClampNeg) 4)) (fun (r3 : fm_MI) => fm_u (fm_u r3 17 ((I 13 0 6).toNatClampNeg) 0 24) 17 ((I 13 0 6).toNatClampNeg) 6 0)) else (fm_let (fmK_sendHere_f (fm_u r2.2 12 ((r2.2 13 0 1).toNatClampNeg) r2.1.toNatClampNeg (r2.2 13 0 6)) (((fm_u r2.2 12 ((r2.2 13 0 1).toNatClampNeg) r2.1.toNatClampNeg (r2.2 13 0 6)) 13 0 1).toNatClampNeg) (r2.2 17 ((I 13 0 6).toNatClampNeg) 4)) (fun (r4 : fm_MI) => fm_u (fm_u r4 17 ((I 13 0 6).toNatClampNeg) 0 24) 17 ((I 13 0 6).toNatClampNeg) 6 0))))) else (fm_u I 13 0 2 5)
theorem fmC_turnToElse_e (I : fm_MI) : fmC_turnToElse_f I = if (I 17 ((I 13 0 6).toNatClampNeg) 0) = 23 then (fm_let (fmC_takeJustWhatIsGiven_f I) (fun (r1 : fm_MI) => fm_let (fmC_addRow_f r1 26 0) (fun (r2 : Int32 × fm_MI) => if r2.1 = (-1) then (fm_let (fmK_sendHere_f r2.2 ((r2.2 13 0 1).toNatClampNeg) (r2.2 17 ((I 13 0 6).toNatClampNeg) 4)) (fun (r3 : fm_MI) => fm_u (fm_u r3 17 ((I 13 0 6).toNatClampNeg) 0 24) 17 ((I 13 0 6).toNatClampNeg) 6 0)) else (fm_let (fmK_sendHere_f (fm_u r2.2 12 ((r2.2 13 0 1).toNatClampNeg) r2.1.toNatClampNeg (r2.2 13 0 6)) (((fm_u r2.2 12 ((r2.2 13 0 1).toNatClampNeg) r2.1.toNatClampNeg (r2.2 13 0 6)) 13 0 1).toNatClampNeg) (r2.2 17 ((I 13 0 6).toNatClampNeg) 4)) (fun (r4 : fm_MI) => fm_u (fm_u r4 17 ((I 13 0 6).toNatClampNeg) 0 24) 17 ((I 13 0 6).toNatClampNeg) 6 0))))) else (fm_u I 13 0 2 5) := rfl
def fmC_turnToElse_p (I : fm_MI) : Prop :=
  (vp_in (I 13 0 6) 9) ∧ (((I 17 ((I 13 0 6).toNatClampNeg) 0) = 23 → fmC_takeJustWhatIsGiven_p I ∧ (fm_let (fmC_takeJustWhatIsGiven_f I) (fun (r1 : fm_MI) => fmC_addRow_p r1 ∧ (fm_let (fmC_addRow_f r1 26 0) (fun (r2 : Int32 × fm_MI) => (r2.1 = (-1) → fmC_subject_p r2.2 ∧ (fmK_sendHere_p (r2.2 17 ((I 13 0 6).toNatClampNeg) 4))) ∧ (¬ r2.1 = (-1) → fmC_subject_p r2.2 ∧ ((vp_in r2.1 40) ∧ (fmC_subject_p (fm_u r2.2 12 ((r2.2 13 0 1).toNatClampNeg) r2.1.toNatClampNeg (r2.2 13 0 6)) ∧ (fmK_sendHere_p (r2.2 17 ((I 13 0 6).toNatClampNeg) 4)))))))))) ∧ (¬ (I 17 ((I 13 0 6).toNatClampNeg) 0) = 23 → True))
set_option maxRecDepth 100000 in
set_option maxHeartbeats 4000000 in
theorem fmC_turnToElse_c {E : fm_Ev} (hl : E.1.stackTraces = false) {d : Nat} (hd : 2 ≤ d) (I : fm_MI) (J : fm_MJ) (G : fm_MG) (pb : Nat × Nat) (hp : fmC_turnToElse_p I) : fm_Ct E d fmC_turnToElse 0 [.inr (.inr (.inr (.inr (13, 0))))] (I, J, G, fm_P (1, 0) pb) none (fmC_turnToElse_f I, J, G, fm_P (1, 0) pb) := by
  obtain ⟨d, rfl⟩ : ∃ d', d = d' + 1 := ⟨d - 1, by omega⟩
  refine fm_ct fmC_turnToElse_o hl (Nat.le_of_ble_eq_true rfl) ?_
  have O := fmC_turnToElse_o.1
  unfold fmC_turnToElse_p at hp
  have he := fmC_turnToElse_e I
  refine fm_gr O 4 (C' := (8, [(0, .inr (.inr (.inr (.inr (13, 0)))))], [.inl (I 13 0 6), .inr (.inr (.inr (.inr (16, 0))))], (I, J, G, fm_P (1, 0) pb))) rfl ?_
  refine fm_gg O rfl hp.1 ?_
  have hp := hp.2
  refine fm_gr O 4 (C' := (16, [(1, .inr (.inr (.inr (.inr (17, (I 13 0 6).toNatClampNeg))))), (0, .inr (.inr (.inr (.inr (13, 0)))))], [.inl 23, .inl (I 17 ((I 13 0 6).toNatClampNeg) 0)], (I, J, G, fm_P (1, 0) pb))) rfl ?_
  refine fm_gb O rfl (fun h => ?_) (fun h => ?_)
  · have h1 : (I 17 ((I 13 0 6).toNatClampNeg) 0) = 23 := h
    have he := he.trans (if_pos h1)
    have hp := hp.1 h1
    refine fm_gr O 1 (C' := (26, [(1, .inr (.inr (.inr (.inr (17, (I 13 0 6).toNatClampNeg))))), (0, .inr (.inr (.inr (.inr (13, 0)))))], [.inr (.inr (.inr (.inr (13, 0))))], (I, J, G, fm_P (1, 0) pb))) rfl ?_
    have hc := hp.1
    have hp := hp.2
    have K := fmC_takeJustWhatIsGiven_c (d := d) hl (by omega) I J G pb hc
    generalize er1 : fmC_takeJustWhatIsGiven_f I = r1 at he hp
    have he := he.trans (fm_letE _ _)
    have hp := fm_letP hp
    rw [er1] at K
    refine fm_cV0 O fmC_takeJustWhatIsGiven_o (i := 0) (as := []) (rest := []) (v := none) rfl fk_1_132 rfl (by decide) fn_C_takeJustWhatIsGiven (Nat.le_of_ble_eq_true rfl) (K) ?_
    refine fm_gr O 3 (C' := (33, [(1, .inr (.inr (.inr (.inr (17, (I 13 0 6).toNatClampNeg))))), (0, .inr (.inr (.inr (.inr (13, 0)))))], [.inl 0, .inl 26, .inr (.inr (.inr (.inr (13, 0))))], (r1, J, G, fm_P (1, 0) pb))) rfl ?_
    have hc := hp.1
    have hp := hp.2
    have K := fmC_addRow_c (d := d) hl (by omega) r1 J G pb 26 0 hc
    generalize er2 : fmC_addRow_f r1 26 0 = r2 at he hp
    have he := he.trans (fm_letE _ _)
    have hp := fm_letP hp
    rw [er2] at K
    refine fm_cV0 O fmC_addRow_o (i := 0) (as := [.inl 26, .inl 0]) (rest := []) (v := some (.inl r2.1)) rfl fk_1_100 rfl (by decide) fn_C_addRow (Nat.le_of_ble_eq_true rfl) (K) ?_
    refine fm_gr O 3 (C' := (39, [(2, .inl r2.1), (1, .inr (.inr (.inr (.inr (17, (I 13 0 6).toNatClampNeg))))), (0, .inr (.inr (.inr (.inr (13, 0)))))], [.inl (-1), .inl r2.1], (r2.2, J, G, fm_P (1, 0) pb))) rfl ?_
    refine fm_gb O rfl (fun h => ?_) (fun h => ?_)
    · have h2 : r2.1 = (-1) := h
      have he := he.trans (if_pos h2)
      have hp := hp.1 h2
      refine fm_gr O 1 (C' := (59, [(2, .inl r2.1), (1, .inr (.inr (.inr (.inr (17, (I 13 0 6).toNatClampNeg))))), (0, .inr (.inr (.inr (.inr (13, 0)))))], [.inr (.inr (.inr (.inr (13, 0))))], (r2.2, J, G, fm_P (1, 0) pb))) rfl ?_
      have hc := hp.1
      have hp := hp.2
      have K := fmC_subject_c (d := d) hl (by omega) r2.2 J G pb hc
      refine fm_cV0 O fmC_subject_o (i := 0) (as := []) (rest := []) (v := some (.inr (.inr (.inr (.inr (2, (r2.2 13 0 1).toNatClampNeg)))))) rfl fk_1_41 rfl (by decide) fn_C_subject (Nat.le_of_ble_eq_true rfl) (K) ?_
      refine fm_gr O 3 (C' := (69, [(2, .inl r2.1), (1, .inr (.inr (.inr (.inr (17, (I 13 0 6).toNatClampNeg))))), (0, .inr (.inr (.inr (.inr (13, 0)))))], [.inl (r2.2 17 ((I 13 0 6).toNatClampNeg) 4), .inr (.inr (.inr (.inr (6, (r2.2 13 0 1).toNatClampNeg))))], (r2.2, J, G, fm_P (1, 0) pb))) rfl ?_
      have K := fmK_sendHere_c (d := d) hl (by omega) r2.2 J G ((1, 0)) pb ((r2.2 13 0 1).toNatClampNeg) (r2.2 17 ((I 13 0 6).toNatClampNeg) 4) hp
      generalize er3 : fmK_sendHere_f r2.2 ((r2.2 13 0 1).toNatClampNeg) (r2.2 17 ((I 13 0 6).toNatClampNeg) 4) = r3 at he
      have he := he.trans (fm_letE _ _)
      rw [er3] at K
      refine fm_cV0 O fmK_sendHere_o (i := (r2.2 13 0 1).toNatClampNeg) (as := [.inl (r2.2 17 ((I 13 0 6).toNatClampNeg) 4)]) (rest := []) (v := none) rfl fk_1_138 rfl (by decide) fn_K_sendHere (Nat.le_of_ble_eq_true rfl) (K) ?_
      refine fm_gr O 5 (C' := (80, [(2, .inl r2.1), (1, .inr (.inr (.inr (.inr (17, (I 13 0 6).toNatClampNeg))))), (0, .inr (.inr (.inr (.inr (13, 0)))))], [.inl 0, .inr (.inr (.inr (.inr (17, (I 13 0 6).toNatClampNeg))))], (fm_u r3 17 ((I 13 0 6).toNatClampNeg) 0 24, J, G, fm_P (1, 0) pb))) rfl ?_
      refine fm_gg O rfl (Or.inl rfl) ?_
      exact fm_gRe O rfl trivial (by first | (rw [he]; done) | (rw [he]; rfl) | rfl) (by first | (rw [he]; done) | (rw [he]; rfl) | rfl)
    · have h2 : ¬ r2.1 = (-1) := h
      have he := he.trans (if_neg h2)
      have hp := hp.2 h2
      refine fm_gr O 1 (C' := (43, [(2, .inl r2.1), (1, .inr (.inr (.inr (.inr (17, (I 13 0 6).toNatClampNeg))))), (0, .inr (.inr (.inr (.inr (13, 0)))))], [.inr (.inr (.inr (.inr (13, 0))))], (r2.2, J, G, fm_P (1, 0) pb))) rfl ?_
      have hc := hp.1
      have hp := hp.2
      have K := fmC_subject_c (d := d) hl (by omega) r2.2 J G pb hc
      refine fm_cV0 O fmC_subject_o (i := 0) (as := []) (rest := []) (v := some (.inr (.inr (.inr (.inr (2, (r2.2 13 0 1).toNatClampNeg)))))) rfl fk_1_41 rfl (by decide) fn_C_subject (Nat.le_of_ble_eq_true rfl) (K) ?_
      refine fm_gr O 5 (C' := (57, [(2, .inl r2.1), (1, .inr (.inr (.inr (.inr (17, (I 13 0 6).toNatClampNeg))))), (0, .inr (.inr (.inr (.inr (13, 0)))))], [.inl (r2.2 13 0 6), .inl r2.1, .inr (.inr (.inr (.inr (12, (r2.2 13 0 1).toNatClampNeg))))], (r2.2, J, G, fm_P (1, 0) pb))) rfl ?_
      refine fm_gg O rfl hp.1 ?_
      have hp := hp.2
      refine fm_gr O 1 (C' := (59, [(2, .inl r2.1), (1, .inr (.inr (.inr (.inr (17, (I 13 0 6).toNatClampNeg))))), (0, .inr (.inr (.inr (.inr (13, 0)))))], [.inr (.inr (.inr (.inr (13, 0))))], (fm_u r2.2 12 ((r2.2 13 0 1).toNatClampNeg) r2.1.toNatClampNeg (r2.2 13 0 6), J, G, fm_P (1, 0) pb))) rfl ?_
      have hc := hp.1
      have hp := hp.2
      have K := fmC_subject_c (d := d) hl (by omega) (fm_u r2.2 12 ((r2.2 13 0 1).toNatClampNeg) r2.1.toNatClampNeg (r2.2 13 0 6)) J G pb hc
      refine fm_cV0 O fmC_subject_o (i := 0) (as := []) (rest := []) (v := some (.inr (.inr (.inr (.inr (2, ((fm_u r2.2 12 ((r2.2 13 0 1).toNatClampNeg) r2.1.toNatClampNeg (r2.2 13 0 6)) 13 0 1).toNatClampNeg)))))) rfl fk_1_41 rfl (by decide) fn_C_subject (Nat.le_of_ble_eq_true rfl) (K) ?_
      refine fm_gr O 3 (C' := (69, [(2, .inl r2.1), (1, .inr (.inr (.inr (.inr (17, (I 13 0 6).toNatClampNeg))))), (0, .inr (.inr (.inr (.inr (13, 0)))))], [.inl (r2.2 17 ((I 13 0 6).toNatClampNeg) 4), .inr (.inr (.inr (.inr (6, ((fm_u r2.2 12 ((r2.2 13 0 1).toNatClampNeg) r2.1.toNatClampNeg (r2.2 13 0 6)) 13 0 1).toNatClampNeg))))], (fm_u r2.2 12 ((r2.2 13 0 1).toNatClampNeg) r2.1.toNatClampNeg (r2.2 13 0 6), J, G, fm_P (1, 0) pb))) rfl ?_
      have K := fmK_sendHere_c (d := d) hl (by omega) (fm_u r2.2 12 ((r2.2 13 0 1).toNatClampNeg) r2.1.toNatClampNeg (r2.2 13 0 6)) J G ((1, 0)) pb (((fm_u r2.2 12 ((r2.2 13 0 1).toNatClampNeg) r2.1.toNatClampNeg (r2.2 13 0 6)) 13 0 1).toNatClampNeg) (r2.2 17 ((I 13 0 6).toNatClampNeg) 4) hp
      generalize er4 : fmK_sendHere_f (fm_u r2.2 12 ((r2.2 13 0 1).toNatClampNeg) r2.1.toNatClampNeg (r2.2 13 0 6)) (((fm_u r2.2 12 ((r2.2 13 0 1).toNatClampNeg) r2.1.toNatClampNeg (r2.2 13 0 6)) 13 0 1).toNatClampNeg) (r2.2 17 ((I 13 0 6).toNatClampNeg) 4) = r4 at he
      have he := he.trans (fm_letE _ _)
      rw [er4] at K
      refine fm_cV0 O fmK_sendHere_o (i := ((fm_u r2.2 12 ((r2.2 13 0 1).toNatClampNeg) r2.1.toNatClampNeg (r2.2 13 0 6)) 13 0 1).toNatClampNeg) (as := [.inl (r2.2 17 ((I 13 0 6).toNatClampNeg) 4)]) (rest := []) (v := none) rfl fk_1_138 rfl (by decide) fn_K_sendHere (Nat.le_of_ble_eq_true rfl) (K) ?_
      refine fm_gr O 5 (C' := (80, [(2, .inl r2.1), (1, .inr (.inr (.inr (.inr (17, (I 13 0 6).toNatClampNeg))))), (0, .inr (.inr (.inr (.inr (13, 0)))))], [.inl 0, .inr (.inr (.inr (.inr (17, (I 13 0 6).toNatClampNeg))))], (fm_u r4 17 ((I 13 0 6).toNatClampNeg) 0 24, J, G, fm_P (1, 0) pb))) rfl ?_
      refine fm_gg O rfl (Or.inl rfl) ?_
      exact fm_gRe O rfl trivial (by first | (rw [he]; done) | (rw [he]; rfl) | rfl) (by first | (rw [he]; done) | (rw [he]; rfl) | rfl)
  · have h1 : ¬ (I 17 ((I 13 0 6).toNatClampNeg) 0) = 23 := h
    have he := he.trans (if_neg h1)
    refine fm_gr O 3 (C' := (24, [(1, .inr (.inr (.inr (.inr (17, (I 13 0 6).toNatClampNeg))))), (0, .inr (.inr (.inr (.inr (13, 0)))))], [], (fm_u I 13 0 2 5, J, G, fm_P (1, 0) pb))) rfl ?_
    exact fm_gRe O rfl trivial (by first | (rw [he]; done) | (rw [he]; rfl) | rfl) (by first | (rw [he]; done) | (rw [he]; rfl) | rfl)
