/-! THE REFERENCE, by program (wip/tools/walk.py, gen_c3.py) -/
def fmD_jump_f (I : fm_MI) (aa : Int32) (al : Int32) : fm_MI :=
  fm_let (fmD_in_f aa 0 ((I 24 0 16) - 1)) (fun (r1 : Int32) => if r1 = 0 then (fm_let (fmD_wrong_f I 1) (fun (r2 : fm_MI) => r2)) else (if (I 38 0 ((((I 24 0 16) - 1) - aa).toNatClampNeg)) = 22 then (if al = 0 then (fm_let (fmD_take_f I 0) (fun (r3 : Int32 × fm_MI) => r3.2)) else (fm_let (fmD_die_f I) (fun (r4 : fm_MI) => r4))) else (if al = 0 then (fm_let (fmD_take_f I 0) (fun (r5 : Int32 × fm_MI) => if (I 37 0 ((((I 24 0 16) - 1) - aa).toNatClampNeg)) = 4 then r5.2 else (fm_let (fmD_take_f r5.2 (I 37 0 ((((I 24 0 16) - 1) - aa).toNatClampNeg))) (fun (r6 : Int32 × fm_MI) => fm_let (fmD_put_f r6.2 (I 37 0 ((((I 24 0 16) - 1) - aa).toNatClampNeg))) (fun (r7 : fm_MI) => r7))))) else (if (I 37 0 ((((I 24 0 16) - 1) - aa).toNatClampNeg)) = 4 then (fm_let (fmD_die_f I) (fun (r8 : fm_MI) => r8)) else (fm_let (fmD_take_f I (I 37 0 ((((I 24 0 16) - 1) - aa).toNatClampNeg))) (fun (r9 : Int32 × fm_MI) => fm_let (fmD_die_f r9.2) (fun (r10 : fm_MI) => r10)))))))
theorem fmD_jump_e (I : fm_MI) (aa : Int32) (al : Int32) : fmD_jump_f I aa al = fm_let (fmD_in_f aa 0 ((I 24 0 16) - 1)) (fun (r1 : Int32) => if r1 = 0 then (fm_let (fmD_wrong_f I 1) (fun (r2 : fm_MI) => r2)) else (if (I 38 0 ((((I 24 0 16) - 1) - aa).toNatClampNeg)) = 22 then (if al = 0 then (fm_let (fmD_take_f I 0) (fun (r3 : Int32 × fm_MI) => r3.2)) else (fm_let (fmD_die_f I) (fun (r4 : fm_MI) => r4))) else (if al = 0 then (fm_let (fmD_take_f I 0) (fun (r5 : Int32 × fm_MI) => if (I 37 0 ((((I 24 0 16) - 1) - aa).toNatClampNeg)) = 4 then r5.2 else (fm_let (fmD_take_f r5.2 (I 37 0 ((((I 24 0 16) - 1) - aa).toNatClampNeg))) (fun (r6 : Int32 × fm_MI) => fm_let (fmD_put_f r6.2 (I 37 0 ((((I 24 0 16) - 1) - aa).toNatClampNeg))) (fun (r7 : fm_MI) => r7))))) else (if (I 37 0 ((((I 24 0 16) - 1) - aa).toNatClampNeg)) = 4 then (fm_let (fmD_die_f I) (fun (r8 : fm_MI) => r8)) else (fm_let (fmD_take_f I (I 37 0 ((((I 24 0 16) - 1) - aa).toNatClampNeg))) (fun (r9 : Int32 × fm_MI) => fm_let (fmD_die_f r9.2) (fun (r10 : fm_MI) => r10))))))) := rfl
def fmD_jump_p (I : fm_MI) (aa : Int32) (al : Int32) : Prop :=
  fm_let (fmD_in_f aa 0 ((I 24 0 16) - 1)) (fun (r1 : Int32) => (r1 = 0 → True) ∧ (¬ r1 = 0 → (vp_in (((I 24 0 16) - 1) - aa) 12) ∧ (((I 38 0 ((((I 24 0 16) - 1) - aa).toNatClampNeg)) = 22 → (al = 0 → fmD_take_p I) ∧ (¬ al = 0 → fmD_die_p I)) ∧ (¬ (I 38 0 ((((I 24 0 16) - 1) - aa).toNatClampNeg)) = 22 → (vp_in (((I 24 0 16) - 1) - aa) 12) ∧ ((al = 0 → fmD_take_p I ∧ (fm_let (fmD_take_f I 0) (fun (r5 : Int32 × fm_MI) => ((I 37 0 ((((I 24 0 16) - 1) - aa).toNatClampNeg)) = 4 → True) ∧ (¬ (I 37 0 ((((I 24 0 16) - 1) - aa).toNatClampNeg)) = 4 → fmD_take_p r5.2 ∧ (fm_let (fmD_take_f r5.2 (I 37 0 ((((I 24 0 16) - 1) - aa).toNatClampNeg))) (fun (r6 : Int32 × fm_MI) => fmD_put_p r6.2)))))) ∧ (¬ al = 0 → ((I 37 0 ((((I 24 0 16) - 1) - aa).toNatClampNeg)) = 4 → fmD_die_p I) ∧ (¬ (I 37 0 ((((I 24 0 16) - 1) - aa).toNatClampNeg)) = 4 → fmD_take_p I ∧ (fm_let (fmD_take_f I (I 37 0 ((((I 24 0 16) - 1) - aa).toNatClampNeg))) (fun (r9 : Int32 × fm_MI) => fmD_die_p r9.2)))))))))
set_option maxRecDepth 100000 in
set_option maxHeartbeats 4000000 in
theorem fmD_jump_c {E : fm_Ev} (hl : E.1.stackTraces = false) {d : Nat} (hd : 1 ≤ d) (I : fm_MI) (J : fm_MJ) (G : fm_MG) (pa : Nat × Nat) (pb : Nat × Nat) (aa : Int32) (al : Int32) (hp : fmD_jump_p I aa al) : fm_Ct E d fmD_jump 0 [.inr (.inr (.inr (.inr (24, 0)))), .inl aa, .inl al] (I, J, G, fm_P pa pb) none (fmD_jump_f I aa al, J, G, fm_P pa pb) := by
  obtain ⟨d, rfl⟩ : ∃ d', d = d' + 1 := ⟨d - 1, by omega⟩
  refine fm_ct fmD_jump_o hl (Nat.le_of_ble_eq_true rfl) ?_
  have O := fmD_jump_o.1
  unfold fmD_jump_p at hp
  have he := fmD_jump_e I aa al
  refine fm_gr O 6 (C' := (8, [(0, .inr (.inr (.inr (.inr (24, 0))))), (1, .inl aa), (2, .inl al)], [.inl ((I 24 0 16) - 1), .inl 0, .inl aa], (I, J, G, fm_P pa pb))) rfl ?_
  have K := fmD_in_c (d := d) hl (by omega) I J G pa pb aa 0 ((I 24 0 16) - 1)
  generalize er1 : fmD_in_f aa 0 ((I 24 0 16) - 1) = r1 at he hp
  have he := he.trans (fm_letE _ _)
  have hp := fm_letP hp
  rw [er1] at K
  refine fm_cS0 O fmD_in_o (as := [.inl aa, .inl 0, .inl ((I 24 0 16) - 1)]) (rest := []) (v := some (.inl r1)) rfl fk_6_86 fn_D_in (Nat.le_of_ble_eq_true rfl) (K) ?_
  refine fm_gb O rfl (fun h => ?_) (fun h => ?_)
  · have h1 : r1 = 0 := h
    have he := he.trans (if_pos h1)
    refine fm_gr O 2 (C' := (16, [(0, .inr (.inr (.inr (.inr (24, 0))))), (1, .inl aa), (2, .inl al)], [.inl 1, .inr (.inr (.inr (.inr (24, 0))))], (I, J, G, fm_P pa pb))) rfl ?_
    have K := fmD_wrong_c (d := d) hl (by omega) I J G pa pb 1
    generalize er2 : fmD_wrong_f I 1 = r2 at he
    have he := he.trans (fm_letE _ _)
    rw [er2] at K
    refine fm_cV0 O fmD_wrong_o (i := 0) (as := [.inl 1]) (rest := []) (v := none) rfl fk_6_115 rfl (by decide) fn_D_wrong (Nat.le_of_ble_eq_true rfl) (K) ?_
    exact fm_gRe O rfl trivial (by first | (rw [he]; done) | (rw [he]; rfl) | rfl) (by first | (rw [he]; done) | (rw [he]; rfl) | rfl)
  · have h1 : ¬ r1 = 0 := h
    have he := he.trans (if_neg h1)
    have hp := hp.2 h1
    refine fm_gr O 10 (C' := (34, [(3, .inl (((I 24 0 16) - 1) - aa)), (0, .inr (.inr (.inr (.inr (24, 0))))), (1, .inl aa), (2, .inl al)], [.inl (((I 24 0 16) - 1) - aa), .inr (.inr (.inr (.inr (38, 0))))], (I, J, G, fm_P pa pb))) rfl ?_
    refine fm_gg O rfl hp.1 ?_
    have hp := hp.2
    refine fm_gr O 1 (C' := (37, [(3, .inl (((I 24 0 16) - 1) - aa)), (0, .inr (.inr (.inr (.inr (24, 0))))), (1, .inl aa), (2, .inl al)], [.inl 22, .inl (I 38 0 ((((I 24 0 16) - 1) - aa).toNatClampNeg))], (I, J, G, fm_P pa pb))) rfl ?_
    refine fm_gb O rfl (fun h => ?_) (fun h => ?_)
    · have h2 : (I 38 0 ((((I 24 0 16) - 1) - aa).toNatClampNeg)) = 22 := h
      have he := he.trans (if_pos h2)
      have hp := hp.1 h2
      refine fm_gr O 4 (C' := (53, [(4, .inl 4), (3, .inl (((I 24 0 16) - 1) - aa)), (0, .inr (.inr (.inr (.inr (24, 0))))), (1, .inl aa), (2, .inl al)], [.inl al], (I, J, G, fm_P pa pb))) rfl ?_
      refine fm_gb O rfl (fun h => ?_) (fun h => ?_)
      · have h3 : al = 0 := h
        have he := he.trans (if_pos h3)
        have hp := hp.1 h3
        refine fm_gr O 2 (C' := (58, [(4, .inl 4), (3, .inl (((I 24 0 16) - 1) - aa)), (0, .inr (.inr (.inr (.inr (24, 0))))), (1, .inl aa), (2, .inl al)], [.inl 0, .inr (.inr (.inr (.inr (24, 0))))], (I, J, G, fm_P pa pb))) rfl ?_
        have K := fmD_take_c (d := d) hl (by omega) I J G pa pb 0 hp
        generalize er3 : fmD_take_f I 0 = r3 at he
        have he := he.trans (fm_letE _ _)
        rw [er3] at K
        refine fm_cV0 O fmD_take_o (i := 0) (as := [.inl 0]) (rest := []) (v := some (.inl r3.1)) rfl fk_6_111 rfl (by decide) fn_D_take (Nat.le_of_ble_eq_true rfl) (K) ?_
        refine fm_gr O 3 (C' := (66, [(5, .inl r3.1), (4, .inl 4), (3, .inl (((I 24 0 16) - 1) - aa)), (0, .inr (.inr (.inr (.inr (24, 0))))), (1, .inl aa), (2, .inl al)], [.inl 4, .inl 4], (r3.2, J, G, fm_P pa pb))) rfl ?_
        refine fm_gb O rfl (fun h => ?_) (fun h => ?_)
        rotate_left
        · exact absurd (show (4 : Int32) = 4 by decide) h
        · refine fm_gr O 1 (C' := (88, [(5, .inl r3.1), (4, .inl 4), (3, .inl (((I 24 0 16) - 1) - aa)), (0, .inr (.inr (.inr (.inr (24, 0))))), (1, .inl aa), (2, .inl al)], [.inl al], (r3.2, J, G, fm_P pa pb))) rfl ?_
          refine fm_gb O rfl (fun h => ?_) (fun h => ?_)
          rotate_left
          · exact absurd h3 h
          · exact fm_gRe O rfl trivial (by first | (rw [he]; done) | (rw [he]; rfl) | rfl) (by first | (rw [he]; done) | (rw [he]; rfl) | rfl)
      · have h3 : ¬ al = 0 := h
        have he := he.trans (if_neg h3)
        have hp := hp.2 h3
        refine fm_gr O 2 (C' := (66, [(4, .inl 4), (3, .inl (((I 24 0 16) - 1) - aa)), (0, .inr (.inr (.inr (.inr (24, 0))))), (1, .inl aa), (2, .inl al)], [.inl 4, .inl 4], (I, J, G, fm_P pa pb))) rfl ?_
        refine fm_gb O rfl (fun h => ?_) (fun h => ?_)
        rotate_left
        · exact absurd (show (4 : Int32) = 4 by decide) h
        · refine fm_gr O 1 (C' := (88, [(4, .inl 4), (3, .inl (((I 24 0 16) - 1) - aa)), (0, .inr (.inr (.inr (.inr (24, 0))))), (1, .inl aa), (2, .inl al)], [.inl al], (I, J, G, fm_P pa pb))) rfl ?_
          refine fm_gb O rfl (fun h => ?_) (fun h => ?_)
          · exact absurd h h3
          · refine fm_gr O 1 (C' := (92, [(4, .inl 4), (3, .inl (((I 24 0 16) - 1) - aa)), (0, .inr (.inr (.inr (.inr (24, 0))))), (1, .inl aa), (2, .inl al)], [.inr (.inr (.inr (.inr (24, 0))))], (I, J, G, fm_P pa pb))) rfl ?_
            have K := fmD_die_c (d := d) hl (by omega) I J G pa pb hp
            generalize er4 : fmD_die_f I = r4 at he
            have he := he.trans (fm_letE _ _)
            rw [er4] at K
            refine fm_cV0 O fmD_die_o (i := 0) (as := []) (rest := []) (v := none) rfl fk_6_122 rfl (by decide) fn_D_die (Nat.le_of_ble_eq_true rfl) (K) ?_
            exact fm_gRe O rfl trivial (by first | (rw [he]; done) | (rw [he]; rfl) | rfl) (by first | (rw [he]; done) | (rw [he]; rfl) | rfl)
    · have h2 : ¬ (I 38 0 ((((I 24 0 16) - 1) - aa).toNatClampNeg)) = 22 := h
      have he := he.trans (if_neg h2)
      have hp := hp.2 h2
      refine fm_gr O 3 (C' := (49, [(3, .inl (((I 24 0 16) - 1) - aa)), (0, .inr (.inr (.inr (.inr (24, 0))))), (1, .inl aa), (2, .inl al)], [.inl (((I 24 0 16) - 1) - aa), .inr (.inr (.inr (.inr (37, 0))))], (I, J, G, fm_P pa pb))) rfl ?_
      refine fm_gg O rfl hp.1 ?_
      have hp := hp.2
      refine fm_gr O 2 (C' := (53, [(4, .inl (I 37 0 ((((I 24 0 16) - 1) - aa).toNatClampNeg))), (3, .inl (((I 24 0 16) - 1) - aa)), (0, .inr (.inr (.inr (.inr (24, 0))))), (1, .inl aa), (2, .inl al)], [.inl al], (I, J, G, fm_P pa pb))) rfl ?_
      refine fm_gb O rfl (fun h => ?_) (fun h => ?_)
      · have h3 : al = 0 := h
        have he := he.trans (if_pos h3)
        have hp := hp.1 h3
        refine fm_gr O 2 (C' := (58, [(4, .inl (I 37 0 ((((I 24 0 16) - 1) - aa).toNatClampNeg))), (3, .inl (((I 24 0 16) - 1) - aa)), (0, .inr (.inr (.inr (.inr (24, 0))))), (1, .inl aa), (2, .inl al)], [.inl 0, .inr (.inr (.inr (.inr (24, 0))))], (I, J, G, fm_P pa pb))) rfl ?_
        have hc := hp.1
        have hp := hp.2
        have K := fmD_take_c (d := d) hl (by omega) I J G pa pb 0 hc
        generalize er5 : fmD_take_f I 0 = r5 at he hp
        have he := he.trans (fm_letE _ _)
        have hp := fm_letP hp
        rw [er5] at K
        refine fm_cV0 O fmD_take_o (i := 0) (as := [.inl 0]) (rest := []) (v := some (.inl r5.1)) rfl fk_6_111 rfl (by decide) fn_D_take (Nat.le_of_ble_eq_true rfl) (K) ?_
        refine fm_gr O 3 (C' := (66, [(5, .inl r5.1), (4, .inl (I 37 0 ((((I 24 0 16) - 1) - aa).toNatClampNeg))), (3, .inl (((I 24 0 16) - 1) - aa)), (0, .inr (.inr (.inr (.inr (24, 0))))), (1, .inl aa), (2, .inl al)], [.inl 4, .inl (I 37 0 ((((I 24 0 16) - 1) - aa).toNatClampNeg))], (r5.2, J, G, fm_P pa pb))) rfl ?_
        refine fm_gb O rfl (fun h => ?_) (fun h => ?_)
        · have h4 : (I 37 0 ((((I 24 0 16) - 1) - aa).toNatClampNeg)) = 4 := h
          have he := he.trans (if_pos h4)
          refine fm_gr O 1 (C' := (88, [(5, .inl r5.1), (4, .inl (I 37 0 ((((I 24 0 16) - 1) - aa).toNatClampNeg))), (3, .inl (((I 24 0 16) - 1) - aa)), (0, .inr (.inr (.inr (.inr (24, 0))))), (1, .inl aa), (2, .inl al)], [.inl al], (r5.2, J, G, fm_P pa pb))) rfl ?_
          refine fm_gb O rfl (fun h => ?_) (fun h => ?_)
          rotate_left
          · exact absurd h3 h
          · exact fm_gRe O rfl trivial (by first | (rw [he]; done) | (rw [he]; rfl) | rfl) (by first | (rw [he]; done) | (rw [he]; rfl) | rfl)
        · have h4 : ¬ (I 37 0 ((((I 24 0 16) - 1) - aa).toNatClampNeg)) = 4 := h
          have he := he.trans (if_neg h4)
          have hp := hp.2 h4
          refine fm_gr O 2 (C' := (72, [(5, .inl r5.1), (4, .inl (I 37 0 ((((I 24 0 16) - 1) - aa).toNatClampNeg))), (3, .inl (((I 24 0 16) - 1) - aa)), (0, .inr (.inr (.inr (.inr (24, 0))))), (1, .inl aa), (2, .inl al)], [.inl (I 37 0 ((((I 24 0 16) - 1) - aa).toNatClampNeg)), .inr (.inr (.inr (.inr (24, 0))))], (r5.2, J, G, fm_P pa pb))) rfl ?_
          have hc := hp.1
          have hp := hp.2
          have K := fmD_take_c (d := d) hl (by omega) r5.2 J G pa pb (I 37 0 ((((I 24 0 16) - 1) - aa).toNatClampNeg)) hc
          generalize er6 : fmD_take_f r5.2 (I 37 0 ((((I 24 0 16) - 1) - aa).toNatClampNeg)) = r6 at he hp
          have he := he.trans (fm_letE _ _)
          have hp := fm_letP hp
          rw [er6] at K
          refine fm_cV0 O fmD_take_o (i := 0) (as := [.inl (I 37 0 ((((I 24 0 16) - 1) - aa).toNatClampNeg))]) (rest := []) (v := some (.inl r6.1)) rfl fk_6_111 rfl (by decide) fn_D_take (Nat.le_of_ble_eq_true rfl) (K) ?_
          refine fm_gr O 2 (C' := (78, [(5, .inl r6.1), (4, .inl (I 37 0 ((((I 24 0 16) - 1) - aa).toNatClampNeg))), (3, .inl (((I 24 0 16) - 1) - aa)), (0, .inr (.inr (.inr (.inr (24, 0))))), (1, .inl aa), (2, .inl al)], [.inl al], (r6.2, J, G, fm_P pa pb))) rfl ?_
          refine fm_gb O rfl (fun h => ?_) (fun h => ?_)
          rotate_left
          · exact absurd h3 h
          · refine fm_gr O 2 (C' := (84, [(5, .inl r6.1), (4, .inl (I 37 0 ((((I 24 0 16) - 1) - aa).toNatClampNeg))), (3, .inl (((I 24 0 16) - 1) - aa)), (0, .inr (.inr (.inr (.inr (24, 0))))), (1, .inl aa), (2, .inl al)], [.inl (I 37 0 ((((I 24 0 16) - 1) - aa).toNatClampNeg)), .inr (.inr (.inr (.inr (24, 0))))], (r6.2, J, G, fm_P pa pb))) rfl ?_
            have K := fmD_put_c (d := d) hl (by omega) r6.2 J G pa pb (I 37 0 ((((I 24 0 16) - 1) - aa).toNatClampNeg)) hp
            generalize er7 : fmD_put_f r6.2 (I 37 0 ((((I 24 0 16) - 1) - aa).toNatClampNeg)) = r7 at he
            have he := he.trans (fm_letE _ _)
            rw [er7] at K
            refine fm_cV0 O fmD_put_o (i := 0) (as := [.inl (I 37 0 ((((I 24 0 16) - 1) - aa).toNatClampNeg))]) (rest := []) (v := none) rfl fk_6_119 rfl (by decide) fn_D_put (Nat.le_of_ble_eq_true rfl) (K) ?_
            refine fm_gr O 1 (C' := (88, [(5, .inl r6.1), (4, .inl (I 37 0 ((((I 24 0 16) - 1) - aa).toNatClampNeg))), (3, .inl (((I 24 0 16) - 1) - aa)), (0, .inr (.inr (.inr (.inr (24, 0))))), (1, .inl aa), (2, .inl al)], [.inl al], (r7, J, G, fm_P pa pb))) rfl ?_
            refine fm_gb O rfl (fun h => ?_) (fun h => ?_)
            rotate_left
            · exact absurd h3 h
            · exact fm_gRe O rfl trivial (by first | (rw [he]; done) | (rw [he]; rfl) | rfl) (by first | (rw [he]; done) | (rw [he]; rfl) | rfl)
      · have h3 : ¬ al = 0 := h
        have he := he.trans (if_neg h3)
        have hp := hp.2 h3
        refine fm_gr O 2 (C' := (66, [(4, .inl (I 37 0 ((((I 24 0 16) - 1) - aa).toNatClampNeg))), (3, .inl (((I 24 0 16) - 1) - aa)), (0, .inr (.inr (.inr (.inr (24, 0))))), (1, .inl aa), (2, .inl al)], [.inl 4, .inl (I 37 0 ((((I 24 0 16) - 1) - aa).toNatClampNeg))], (I, J, G, fm_P pa pb))) rfl ?_
        refine fm_gb O rfl (fun h => ?_) (fun h => ?_)
        · have h4 : (I 37 0 ((((I 24 0 16) - 1) - aa).toNatClampNeg)) = 4 := h
          have he := he.trans (if_pos h4)
          have hp := hp.1 h4
          refine fm_gr O 1 (C' := (88, [(4, .inl (I 37 0 ((((I 24 0 16) - 1) - aa).toNatClampNeg))), (3, .inl (((I 24 0 16) - 1) - aa)), (0, .inr (.inr (.inr (.inr (24, 0))))), (1, .inl aa), (2, .inl al)], [.inl al], (I, J, G, fm_P pa pb))) rfl ?_
          refine fm_gb O rfl (fun h => ?_) (fun h => ?_)
          · exact absurd h h3
          · refine fm_gr O 1 (C' := (92, [(4, .inl (I 37 0 ((((I 24 0 16) - 1) - aa).toNatClampNeg))), (3, .inl (((I 24 0 16) - 1) - aa)), (0, .inr (.inr (.inr (.inr (24, 0))))), (1, .inl aa), (2, .inl al)], [.inr (.inr (.inr (.inr (24, 0))))], (I, J, G, fm_P pa pb))) rfl ?_
            have K := fmD_die_c (d := d) hl (by omega) I J G pa pb hp
            generalize er8 : fmD_die_f I = r8 at he
            have he := he.trans (fm_letE _ _)
            rw [er8] at K
            refine fm_cV0 O fmD_die_o (i := 0) (as := []) (rest := []) (v := none) rfl fk_6_122 rfl (by decide) fn_D_die (Nat.le_of_ble_eq_true rfl) (K) ?_
            exact fm_gRe O rfl trivial (by first | (rw [he]; done) | (rw [he]; rfl) | rfl) (by first | (rw [he]; done) | (rw [he]; rfl) | rfl)
        · have h4 : ¬ (I 37 0 ((((I 24 0 16) - 1) - aa).toNatClampNeg)) = 4 := h
          have he := he.trans (if_neg h4)
          have hp := hp.2 h4
          refine fm_gr O 2 (C' := (72, [(4, .inl (I 37 0 ((((I 24 0 16) - 1) - aa).toNatClampNeg))), (3, .inl (((I 24 0 16) - 1) - aa)), (0, .inr (.inr (.inr (.inr (24, 0))))), (1, .inl aa), (2, .inl al)], [.inl (I 37 0 ((((I 24 0 16) - 1) - aa).toNatClampNeg)), .inr (.inr (.inr (.inr (24, 0))))], (I, J, G, fm_P pa pb))) rfl ?_
          have hc := hp.1
          have hp := hp.2
          have K := fmD_take_c (d := d) hl (by omega) I J G pa pb (I 37 0 ((((I 24 0 16) - 1) - aa).toNatClampNeg)) hc
          generalize er9 : fmD_take_f I (I 37 0 ((((I 24 0 16) - 1) - aa).toNatClampNeg)) = r9 at he hp
          have he := he.trans (fm_letE _ _)
          have hp := fm_letP hp
          rw [er9] at K
          refine fm_cV0 O fmD_take_o (i := 0) (as := [.inl (I 37 0 ((((I 24 0 16) - 1) - aa).toNatClampNeg))]) (rest := []) (v := some (.inl r9.1)) rfl fk_6_111 rfl (by decide) fn_D_take (Nat.le_of_ble_eq_true rfl) (K) ?_
          refine fm_gr O 2 (C' := (78, [(5, .inl r9.1), (4, .inl (I 37 0 ((((I 24 0 16) - 1) - aa).toNatClampNeg))), (3, .inl (((I 24 0 16) - 1) - aa)), (0, .inr (.inr (.inr (.inr (24, 0))))), (1, .inl aa), (2, .inl al)], [.inl al], (r9.2, J, G, fm_P pa pb))) rfl ?_
          refine fm_gb O rfl (fun h => ?_) (fun h => ?_)
          · exact absurd h h3
          · refine fm_gr O 1 (C' := (88, [(5, .inl r9.1), (4, .inl (I 37 0 ((((I 24 0 16) - 1) - aa).toNatClampNeg))), (3, .inl (((I 24 0 16) - 1) - aa)), (0, .inr (.inr (.inr (.inr (24, 0))))), (1, .inl aa), (2, .inl al)], [.inl al], (r9.2, J, G, fm_P pa pb))) rfl ?_
            refine fm_gb O rfl (fun h => ?_) (fun h => ?_)
            · exact absurd h h3
            · refine fm_gr O 1 (C' := (92, [(5, .inl r9.1), (4, .inl (I 37 0 ((((I 24 0 16) - 1) - aa).toNatClampNeg))), (3, .inl (((I 24 0 16) - 1) - aa)), (0, .inr (.inr (.inr (.inr (24, 0))))), (1, .inl aa), (2, .inl al)], [.inr (.inr (.inr (.inr (24, 0))))], (r9.2, J, G, fm_P pa pb))) rfl ?_
              have K := fmD_die_c (d := d) hl (by omega) r9.2 J G pa pb hp
              generalize er10 : fmD_die_f r9.2 = r10 at he
              have he := he.trans (fm_letE _ _)
              rw [er10] at K
              refine fm_cV0 O fmD_die_o (i := 0) (as := []) (rest := []) (v := none) rfl fk_6_122 rfl (by decide) fn_D_die (Nat.le_of_ble_eq_true rfl) (K) ?_
              exact fm_gRe O rfl trivial (by first | (rw [he]; done) | (rw [he]; rfl) | rfl) (by first | (rw [he]; done) | (rw [he]; rfl) | rfl)
def fmD_two_f (I : fm_MI) (t : Int32) (ou : Int32) : fm_MI :=
  fm_let (fmD_take_f I t) (fun (r1 : Int32 × fm_MI) => fm_let (fmD_take_f r1.2 t) (fun (r2 : Int32 × fm_MI) => fm_let (fmD_put_f r2.2 ou) (fun (r3 : fm_MI) => r3)))
theorem fmD_two_e (I : fm_MI) (t : Int32) (ou : Int32) : fmD_two_f I t ou = fm_let (fmD_take_f I t) (fun (r1 : Int32 × fm_MI) => fm_let (fmD_take_f r1.2 t) (fun (r2 : Int32 × fm_MI) => fm_let (fmD_put_f r2.2 ou) (fun (r3 : fm_MI) => r3))) := rfl
def fmD_two_p (I : fm_MI) (t : Int32) : Prop :=
  fmD_take_p I ∧ (fm_let (fmD_take_f I t) (fun (r1 : Int32 × fm_MI) => fmD_take_p r1.2 ∧ (fm_let (fmD_take_f r1.2 t) (fun (r2 : Int32 × fm_MI) => fmD_put_p r2.2))))
set_option maxRecDepth 100000 in
set_option maxHeartbeats 4000000 in
theorem fmD_two_c {E : fm_Ev} (hl : E.1.stackTraces = false) {d : Nat} (hd : 1 ≤ d) (I : fm_MI) (J : fm_MJ) (G : fm_MG) (pa : Nat × Nat) (pb : Nat × Nat) (t : Int32) (ou : Int32) (hp : fmD_two_p I t) : fm_Ct E d fmD_two 0 [.inr (.inr (.inr (.inr (24, 0)))), .inl t, .inl ou] (I, J, G, fm_P pa pb) none (fmD_two_f I t ou, J, G, fm_P pa pb) := by
  obtain ⟨d, rfl⟩ : ∃ d', d = d' + 1 := ⟨d - 1, by omega⟩
  refine fm_ct fmD_two_o hl (Nat.le_of_ble_eq_true rfl) ?_
  have O := fmD_two_o.1
  unfold fmD_two_p at hp
  have he := fmD_two_e I t ou
  refine fm_gr O 2 (C' := (2, [(0, .inr (.inr (.inr (.inr (24, 0))))), (1, .inl t), (2, .inl ou)], [.inl t, .inr (.inr (.inr (.inr (24, 0))))], (I, J, G, fm_P pa pb))) rfl ?_
  have hc := hp.1
  have hp := hp.2
  have K := fmD_take_c (d := d) hl (by omega) I J G pa pb t hc
  generalize er1 : fmD_take_f I t = r1 at he hp
  have he := he.trans (fm_letE _ _)
  have hp := fm_letP hp
  rw [er1] at K
  refine fm_cV0 O fmD_take_o (i := 0) (as := [.inl t]) (rest := []) (v := some (.inl r1.1)) rfl fk_6_111 rfl (by decide) fn_D_take (Nat.le_of_ble_eq_true rfl) (K) ?_
  refine fm_gr O 3 (C' := (8, [(3, .inl r1.1), (0, .inr (.inr (.inr (.inr (24, 0))))), (1, .inl t), (2, .inl ou)], [.inl t, .inr (.inr (.inr (.inr (24, 0))))], (r1.2, J, G, fm_P pa pb))) rfl ?_
  have hc := hp.1
  have hp := hp.2
  have K := fmD_take_c (d := d) hl (by omega) r1.2 J G pa pb t hc
  generalize er2 : fmD_take_f r1.2 t = r2 at he hp
  have he := he.trans (fm_letE _ _)
  have hp := fm_letP hp
  rw [er2] at K
  refine fm_cV0 O fmD_take_o (i := 0) (as := [.inl t]) (rest := []) (v := some (.inl r2.1)) rfl fk_6_111 rfl (by decide) fn_D_take (Nat.le_of_ble_eq_true rfl) (K) ?_
  refine fm_gr O 3 (C' := (15, [(4, .inl r2.1), (3, .inl r1.1), (0, .inr (.inr (.inr (.inr (24, 0))))), (1, .inl t), (2, .inl ou)], [.inl ou, .inr (.inr (.inr (.inr (24, 0))))], (r2.2, J, G, fm_P pa pb))) rfl ?_
  have K := fmD_put_c (d := d) hl (by omega) r2.2 J G pa pb ou hp
  generalize er3 : fmD_put_f r2.2 ou = r3 at he
  have he := he.trans (fm_letE _ _)
  rw [er3] at K
  refine fm_cV0 O fmD_put_o (i := 0) (as := [.inl ou]) (rest := []) (v := none) rfl fk_6_119 rfl (by decide) fn_D_put (Nat.le_of_ble_eq_true rfl) (K) ?_
  exact fm_gRe O rfl trivial (by first | (rw [he]; done) | (rw [he]; rfl) | rfl) (by first | (rw [he]; done) | (rw [he]; rfl) | rfl)
def fmD_checkLocal_f (I : fm_MI) (f : Int32) (op : Int32) (aa : Int32) : fm_MI :=
  fm_let (fmD_in_f aa 0 ((I 29 0 f.toNatClampNeg) - 1)) (fun (r1 : Int32) => if r1 = 0 then (fm_let (fmD_wrong_f I 1) (fun (r2 : fm_MI) => r2)) else (if op = 4 then (fm_let (fmD_put_f I (I 30 0 (((f * 6) + aa).toNatClampNeg))) (fun (r3 : fm_MI) => r3)) else (fm_let (fmD_take_f I (I 30 0 (((f * 6) + aa).toNatClampNeg))) (fun (r4 : Int32 × fm_MI) => if op = 6 then (fm_let (fmD_put_f r4.2 (r4.2 30 0 (((f * 6) + aa).toNatClampNeg))) (fun (r5 : fm_MI) => r5)) else r4.2))))
theorem fmD_checkLocal_e (I : fm_MI) (f : Int32) (op : Int32) (aa : Int32) : fmD_checkLocal_f I f op aa = fm_let (fmD_in_f aa 0 ((I 29 0 f.toNatClampNeg) - 1)) (fun (r1 : Int32) => if r1 = 0 then (fm_let (fmD_wrong_f I 1) (fun (r2 : fm_MI) => r2)) else (if op = 4 then (fm_let (fmD_put_f I (I 30 0 (((f * 6) + aa).toNatClampNeg))) (fun (r3 : fm_MI) => r3)) else (fm_let (fmD_take_f I (I 30 0 (((f * 6) + aa).toNatClampNeg))) (fun (r4 : Int32 × fm_MI) => if op = 6 then (fm_let (fmD_put_f r4.2 (r4.2 30 0 (((f * 6) + aa).toNatClampNeg))) (fun (r5 : fm_MI) => r5)) else r4.2)))) := rfl
def fmD_checkLocal_p (I : fm_MI) (f : Int32) (op : Int32) (aa : Int32) : Prop :=
  (vp_in f 4) ∧ (fm_let (fmD_in_f aa 0 ((I 29 0 f.toNatClampNeg) - 1)) (fun (r1 : Int32) => (r1 = 0 → True) ∧ (¬ r1 = 0 → (op = 4 → (vp_in ((f * 6) + aa) 24) ∧ (fmD_put_p I)) ∧ (¬ op = 4 → (vp_in ((f * 6) + aa) 24) ∧ (fmD_take_p I ∧ (fm_let (fmD_take_f I (I 30 0 (((f * 6) + aa).toNatClampNeg))) (fun (r4 : Int32 × fm_MI) => (op = 6 → (vp_in ((f * 6) + aa) 24) ∧ (fmD_put_p r4.2)) ∧ (¬ op = 6 → True))))))))
set_option maxRecDepth 100000 in
set_option maxHeartbeats 4000000 in
theorem fmD_checkLocal_c {E : fm_Ev} (hl : E.1.stackTraces = false) {d : Nat} (hd : 1 ≤ d) (I : fm_MI) (J : fm_MJ) (G : fm_MG) (pa : Nat × Nat) (pb : Nat × Nat) (f : Int32) (op : Int32) (aa : Int32) (hp : fmD_checkLocal_p I f op aa) : fm_Ct E d fmD_checkLocal 0 [.inr (.inr (.inr (.inr (24, 0)))), .inl f, .inl op, .inl aa] (I, J, G, fm_P pa pb) none (fmD_checkLocal_f I f op aa, J, G, fm_P pa pb) := by
  obtain ⟨d, rfl⟩ : ∃ d', d = d' + 1 := ⟨d - 1, by omega⟩
  refine fm_ct fmD_checkLocal_o hl (Nat.le_of_ble_eq_true rfl) ?_
  have O := fmD_checkLocal_o.1
  unfold fmD_checkLocal_p at hp
  have he := fmD_checkLocal_e I f op aa
  refine fm_gr O 5 (C' := (7, [(0, .inr (.inr (.inr (.inr (24, 0))))), (1, .inl f), (2, .inl op), (3, .inl aa)], [.inl f, .inr (.inr (.inr (.inr (29, 0)))), .inl 0, .inl aa], (I, J, G, fm_P pa pb))) rfl ?_
  refine fm_gg O rfl hp.1 ?_
  have hp := hp.2
  refine fm_gr O 2 (C' := (10, [(0, .inr (.inr (.inr (.inr (24, 0))))), (1, .inl f), (2, .inl op), (3, .inl aa)], [.inl ((I 29 0 f.toNatClampNeg) - 1), .inl 0, .inl aa], (I, J, G, fm_P pa pb))) rfl ?_
  have K := fmD_in_c (d := d) hl (by omega) I J G pa pb aa 0 ((I 29 0 f.toNatClampNeg) - 1)
  generalize er1 : fmD_in_f aa 0 ((I 29 0 f.toNatClampNeg) - 1) = r1 at he hp
  have he := he.trans (fm_letE _ _)
  have hp := fm_letP hp
  rw [er1] at K
  refine fm_cS0 O fmD_in_o (as := [.inl aa, .inl 0, .inl ((I 29 0 f.toNatClampNeg) - 1)]) (rest := []) (v := some (.inl r1)) rfl fk_6_86 fn_D_in (Nat.le_of_ble_eq_true rfl) (K) ?_
  refine fm_gb O rfl (fun h => ?_) (fun h => ?_)
  · have h1 : r1 = 0 := h
    have he := he.trans (if_pos h1)
    refine fm_gr O 2 (C' := (18, [(0, .inr (.inr (.inr (.inr (24, 0))))), (1, .inl f), (2, .inl op), (3, .inl aa)], [.inl 1, .inr (.inr (.inr (.inr (24, 0))))], (I, J, G, fm_P pa pb))) rfl ?_
    have K := fmD_wrong_c (d := d) hl (by omega) I J G pa pb 1
    generalize er2 : fmD_wrong_f I 1 = r2 at he
    have he := he.trans (fm_letE _ _)
    rw [er2] at K
    refine fm_cV0 O fmD_wrong_o (i := 0) (as := [.inl 1]) (rest := []) (v := none) rfl fk_6_115 rfl (by decide) fn_D_wrong (Nat.le_of_ble_eq_true rfl) (K) ?_
    refine fm_gr O 1 (C' := (85, [(0, .inr (.inr (.inr (.inr (24, 0))))), (1, .inl f), (2, .inl op), (3, .inl aa)], [], (r2, J, G, fm_P pa pb))) rfl ?_
    exact fm_gRe O rfl trivial (by first | (rw [he]; done) | (rw [he]; rfl) | rfl) (by first | (rw [he]; done) | (rw [he]; rfl) | rfl)
  · have h1 : ¬ r1 = 0 := h
    have he := he.trans (if_neg h1)
    have hp := hp.2 h1
    refine fm_gr O 2 (C' := (26, [(0, .inr (.inr (.inr (.inr (24, 0))))), (1, .inl f), (2, .inl op), (3, .inl aa)], [.inl 4, .inl op], (I, J, G, fm_P pa pb))) rfl ?_
    refine fm_gb O rfl (fun h => ?_) (fun h => ?_)
    · have h2 : op = 4 := h
      have he := he.trans (if_pos h2)
      have hp := hp.1 h2
      refine fm_gr O 8 (C' := (40, [(0, .inr (.inr (.inr (.inr (24, 0))))), (1, .inl f), (2, .inl op), (3, .inl aa)], [.inl ((f * 6) + aa), .inr (.inr (.inr (.inr (30, 0)))), .inr (.inr (.inr (.inr (24, 0))))], (I, J, G, fm_P pa pb))) rfl ?_
      refine fm_gg O rfl hp.1 ?_
      have hp := hp.2
      have K := fmD_put_c (d := d) hl (by omega) I J G pa pb (I 30 0 (((f * 6) + aa).toNatClampNeg)) hp
      generalize er3 : fmD_put_f I (I 30 0 (((f * 6) + aa).toNatClampNeg)) = r3 at he
      have he := he.trans (fm_letE _ _)
      rw [er3] at K
      refine fm_cV0 O fmD_put_o (i := 0) (as := [.inl (I 30 0 (((f * 6) + aa).toNatClampNeg))]) (rest := []) (v := none) rfl fk_6_119 rfl (by decide) fn_D_put (Nat.le_of_ble_eq_true rfl) (K) ?_
      refine fm_gr O 1 (C' := (85, [(0, .inr (.inr (.inr (.inr (24, 0))))), (1, .inl f), (2, .inl op), (3, .inl aa)], [], (r3, J, G, fm_P pa pb))) rfl ?_
      exact fm_gRe O rfl trivial (by first | (rw [he]; done) | (rw [he]; rfl) | rfl) (by first | (rw [he]; done) | (rw [he]; rfl) | rfl)
    · have h2 : ¬ op = 4 := h
      have he := he.trans (if_neg h2)
      have hp := hp.2 h2
      refine fm_gr O 8 (C' := (58, [(0, .inr (.inr (.inr (.inr (24, 0))))), (1, .inl f), (2, .inl op), (3, .inl aa)], [.inl ((f * 6) + aa), .inr (.inr (.inr (.inr (30, 0)))), .inr (.inr (.inr (.inr (24, 0))))], (I, J, G, fm_P pa pb))) rfl ?_
      refine fm_gg O rfl hp.1 ?_
      have hp := hp.2
      have hc := hp.1
      have hp := hp.2
      have K := fmD_take_c (d := d) hl (by omega) I J G pa pb (I 30 0 (((f * 6) + aa).toNatClampNeg)) hc
      generalize er4 : fmD_take_f I (I 30 0 (((f * 6) + aa).toNatClampNeg)) = r4 at he hp
      have he := he.trans (fm_letE _ _)
      have hp := fm_letP hp
      rw [er4] at K
      refine fm_cV0 O fmD_take_o (i := 0) (as := [.inl (I 30 0 (((f * 6) + aa).toNatClampNeg))]) (rest := []) (v := some (.inl r4.1)) rfl fk_6_111 rfl (by decide) fn_D_take (Nat.le_of_ble_eq_true rfl) (K) ?_
      refine fm_gr O 3 (C' := (67, [(4, .inl r4.1), (0, .inr (.inr (.inr (.inr (24, 0))))), (1, .inl f), (2, .inl op), (3, .inl aa)], [.inl 6, .inl op], (r4.2, J, G, fm_P pa pb))) rfl ?_
      refine fm_gb O rfl (fun h => ?_) (fun h => ?_)
      · have h3 : op = 6 := h
        have he := he.trans (if_pos h3)
        have hp := hp.1 h3
        refine fm_gr O 8 (C' := (81, [(4, .inl r4.1), (0, .inr (.inr (.inr (.inr (24, 0))))), (1, .inl f), (2, .inl op), (3, .inl aa)], [.inl ((f * 6) + aa), .inr (.inr (.inr (.inr (30, 0)))), .inr (.inr (.inr (.inr (24, 0))))], (r4.2, J, G, fm_P pa pb))) rfl ?_
        refine fm_gg O rfl hp.1 ?_
        have hp := hp.2
        have K := fmD_put_c (d := d) hl (by omega) r4.2 J G pa pb (r4.2 30 0 (((f * 6) + aa).toNatClampNeg)) hp
        generalize er5 : fmD_put_f r4.2 (r4.2 30 0 (((f * 6) + aa).toNatClampNeg)) = r5 at he
        have he := he.trans (fm_letE _ _)
        rw [er5] at K
        refine fm_cV0 O fmD_put_o (i := 0) (as := [.inl (r4.2 30 0 (((f * 6) + aa).toNatClampNeg))]) (rest := []) (v := none) rfl fk_6_119 rfl (by decide) fn_D_put (Nat.le_of_ble_eq_true rfl) (K) ?_
        exact fm_gRe O rfl trivial (by first | (rw [he]; done) | (rw [he]; rfl) | rfl) (by first | (rw [he]; done) | (rw [he]; rfl) | rfl)
      · have h3 : ¬ op = 6 := h
        have he := he.trans (if_neg h3)
        exact fm_gRe O rfl trivial (by first | (rw [he]; done) | (rw [he]; rfl) | rfl) (by first | (rw [he]; done) | (rw [he]; rfl) | rfl)
def fmD_checkGlobal_f (I : fm_MI) (op : Int32) (aa : Int32) : fm_MI :=
  fm_let (fmD_in_f aa 0 3) (fun (r1 : Int32) => if r1 = 0 then (fm_let (fmD_wrong_f I 1) (fun (r2 : fm_MI) => r2)) else (if op = 7 then (fm_let (fmD_put_f I aa) (fun (r3 : fm_MI) => r3)) else (fm_let (fmD_take_f I aa) (fun (r4 : Int32 × fm_MI) => r4.2))))
theorem fmD_checkGlobal_e (I : fm_MI) (op : Int32) (aa : Int32) : fmD_checkGlobal_f I op aa = fm_let (fmD_in_f aa 0 3) (fun (r1 : Int32) => if r1 = 0 then (fm_let (fmD_wrong_f I 1) (fun (r2 : fm_MI) => r2)) else (if op = 7 then (fm_let (fmD_put_f I aa) (fun (r3 : fm_MI) => r3)) else (fm_let (fmD_take_f I aa) (fun (r4 : Int32 × fm_MI) => r4.2)))) := rfl
def fmD_checkGlobal_p (I : fm_MI) (op : Int32) (aa : Int32) : Prop :=
  fm_let (fmD_in_f aa 0 3) (fun (r1 : Int32) => (r1 = 0 → True) ∧ (¬ r1 = 0 → (op = 7 → fmD_put_p I) ∧ (¬ op = 7 → fmD_take_p I)))
set_option maxRecDepth 100000 in
set_option maxHeartbeats 4000000 in
theorem fmD_checkGlobal_c {E : fm_Ev} (hl : E.1.stackTraces = false) {d : Nat} (hd : 1 ≤ d) (I : fm_MI) (J : fm_MJ) (G : fm_MG) (pa : Nat × Nat) (pb : Nat × Nat) (op : Int32) (aa : Int32) (hp : fmD_checkGlobal_p I op aa) : fm_Ct E d fmD_checkGlobal 0 [.inr (.inr (.inr (.inr (24, 0)))), .inl op, .inl aa] (I, J, G, fm_P pa pb) none (fmD_checkGlobal_f I op aa, J, G, fm_P pa pb) := by
  obtain ⟨d, rfl⟩ : ∃ d', d = d' + 1 := ⟨d - 1, by omega⟩
  refine fm_ct fmD_checkGlobal_o hl (Nat.le_of_ble_eq_true rfl) ?_
  have O := fmD_checkGlobal_o.1
  unfold fmD_checkGlobal_p at hp
  have he := fmD_checkGlobal_e I op aa
  refine fm_gr O 3 (C' := (3, [(0, .inr (.inr (.inr (.inr (24, 0))))), (1, .inl op), (2, .inl aa)], [.inl 3, .inl 0, .inl aa], (I, J, G, fm_P pa pb))) rfl ?_
  have K := fmD_in_c (d := d) hl (by omega) I J G pa pb aa 0 3
  generalize er1 : fmD_in_f aa 0 3 = r1 at he hp
  have he := he.trans (fm_letE _ _)
  have hp := fm_letP hp
  rw [er1] at K
  refine fm_cS0 O fmD_in_o (as := [.inl aa, .inl 0, .inl 3]) (rest := []) (v := some (.inl r1)) rfl fk_6_86 fn_D_in (Nat.le_of_ble_eq_true rfl) (K) ?_
  refine fm_gb O rfl (fun h => ?_) (fun h => ?_)
  · have h1 : r1 = 0 := h
    have he := he.trans (if_pos h1)
    refine fm_gr O 2 (C' := (11, [(0, .inr (.inr (.inr (.inr (24, 0))))), (1, .inl op), (2, .inl aa)], [.inl 1, .inr (.inr (.inr (.inr (24, 0))))], (I, J, G, fm_P pa pb))) rfl ?_
    have K := fmD_wrong_c (d := d) hl (by omega) I J G pa pb 1
    generalize er2 : fmD_wrong_f I 1 = r2 at he
    have he := he.trans (fm_letE _ _)
    rw [er2] at K
    refine fm_cV0 O fmD_wrong_o (i := 0) (as := [.inl 1]) (rest := []) (v := none) rfl fk_6_115 rfl (by decide) fn_D_wrong (Nat.le_of_ble_eq_true rfl) (K) ?_
    refine fm_gr O 1 (C' := (37, [(0, .inr (.inr (.inr (.inr (24, 0))))), (1, .inl op), (2, .inl aa)], [], (r2, J, G, fm_P pa pb))) rfl ?_
    exact fm_gRe O rfl trivial (by first | (rw [he]; done) | (rw [he]; rfl) | rfl) (by first | (rw [he]; done) | (rw [he]; rfl) | rfl)
  · have h1 : ¬ r1 = 0 := h
    have he := he.trans (if_neg h1)
    have hp := hp.2 h1
    refine fm_gr O 2 (C' := (20, [(0, .inr (.inr (.inr (.inr (24, 0))))), (1, .inl op), (2, .inl aa)], [.inl 7, .inl op], (I, J, G, fm_P pa pb))) rfl ?_
    refine fm_gb O rfl (fun h => ?_) (fun h => ?_)
    · have h2 : op = 7 := h
      have he := he.trans (if_pos h2)
      have hp := hp.1 h2
      refine fm_gr O 2 (C' := (25, [(0, .inr (.inr (.inr (.inr (24, 0))))), (1, .inl op), (2, .inl aa)], [.inl aa, .inr (.inr (.inr (.inr (24, 0))))], (I, J, G, fm_P pa pb))) rfl ?_
      have K := fmD_put_c (d := d) hl (by omega) I J G pa pb aa hp
      generalize er3 : fmD_put_f I aa = r3 at he
      have he := he.trans (fm_letE _ _)
      rw [er3] at K
      refine fm_cV0 O fmD_put_o (i := 0) (as := [.inl aa]) (rest := []) (v := none) rfl fk_6_119 rfl (by decide) fn_D_put (Nat.le_of_ble_eq_true rfl) (K) ?_
      refine fm_gr O 1 (C' := (37, [(0, .inr (.inr (.inr (.inr (24, 0))))), (1, .inl op), (2, .inl aa)], [], (r3, J, G, fm_P pa pb))) rfl ?_
      exact fm_gRe O rfl trivial (by first | (rw [he]; done) | (rw [he]; rfl) | rfl) (by first | (rw [he]; done) | (rw [he]; rfl) | rfl)
    · have h2 : ¬ op = 7 := h
      have he := he.trans (if_neg h2)
      have hp := hp.2 h2
      refine fm_gr O 2 (C' := (33, [(0, .inr (.inr (.inr (.inr (24, 0))))), (1, .inl op), (2, .inl aa)], [.inl aa, .inr (.inr (.inr (.inr (24, 0))))], (I, J, G, fm_P pa pb))) rfl ?_
      have K := fmD_take_c (d := d) hl (by omega) I J G pa pb aa hp
      generalize er4 : fmD_take_f I aa = r4 at he
      have he := he.trans (fm_letE _ _)
      rw [er4] at K
      refine fm_cV0 O fmD_take_o (i := 0) (as := [.inl aa]) (rest := []) (v := some (.inl r4.1)) rfl fk_6_111 rfl (by decide) fn_D_take (Nat.le_of_ble_eq_true rfl) (K) ?_
      refine fm_gr O 1 (C' := (37, [(3, .inl r4.1), (0, .inr (.inr (.inr (.inr (24, 0))))), (1, .inl op), (2, .inl aa)], [], (r4.2, J, G, fm_P pa pb))) rfl ?_
      exact fm_gRe O rfl trivial (by first | (rw [he]; done) | (rw [he]; rfl) | rfl) (by first | (rw [he]; done) | (rw [he]; rfl) | rfl)
def fmD_checkCall_L23_f : Nat → fm_MI → fm_MJ → fm_MG → (Nat × Nat) → (Nat × Nat) → Int32 → Int32 → fm_MI
  | 0, I, J, G, pa, pb, y1, y2 => I
  | n + 1, I, J, G, pa, pb, y1, y2 => if y2 < 0 then (if (I 31 0 y1.toNatClampNeg) = 4 then I else (fm_let (fmD_put_f I (I 31 0 y1.toNatClampNeg)) (fun (r3 : fm_MI) => r3))) else (fm_let (fmD_take_f I (I 30 0 (((y1 * 6) + y2).toNatClampNeg))) (fun (r4 : Int32 × fm_MI) => fmD_checkCall_L23_f n r4.2 J G pa pb y1 (y2 + (-1))))
theorem fmD_checkCall_L23_e (n : Nat) (I : fm_MI) (J : fm_MJ) (G : fm_MG) (pa : Nat × Nat) (pb : Nat × Nat) (y1 : Int32) (y2 : Int32) : fmD_checkCall_L23_f (n + 1) I J G pa pb y1 y2 = if y2 < 0 then (if (I 31 0 y1.toNatClampNeg) = 4 then I else (fm_let (fmD_put_f I (I 31 0 y1.toNatClampNeg)) (fun (r3 : fm_MI) => r3))) else (fm_let (fmD_take_f I (I 30 0 (((y1 * 6) + y2).toNatClampNeg))) (fun (r4 : Int32 × fm_MI) => fmD_checkCall_L23_f n r4.2 J G pa pb y1 (y2 + (-1)))) := rfl
def fmD_checkCall_L23_p : Nat → fm_MI → fm_MJ → fm_MG → (Nat × Nat) → (Nat × Nat) → Int32 → Int32 → Prop
  | 0, I, J, G, pa, pb, y1, y2 => False
  | n + 1, I, J, G, pa, pb, y1, y2 => (y2 < 0 → (vp_in y1 4) ∧ (((I 31 0 y1.toNatClampNeg) = 4 → True) ∧ (¬ (I 31 0 y1.toNatClampNeg) = 4 → (vp_in y1 4) ∧ (fmD_put_p I)))) ∧ (¬ y2 < 0 → (vp_in ((y1 * 6) + y2) 24) ∧ (fmD_take_p I ∧ (fm_let (fmD_take_f I (I 30 0 (((y1 * 6) + y2).toNatClampNeg))) (fun (r4 : Int32 × fm_MI) => fmD_checkCall_L23_p n r4.2 J G pa pb y1 (y2 + (-1))))))
theorem fmD_checkCall_L23_q (n : Nat) (I : fm_MI) (J : fm_MJ) (G : fm_MG) (pa : Nat × Nat) (pb : Nat × Nat) (y1 : Int32) (y2 : Int32) : fmD_checkCall_L23_p (n + 1) I J G pa pb y1 y2 = ((y2 < 0 → (vp_in y1 4) ∧ (((I 31 0 y1.toNatClampNeg) = 4 → True) ∧ (¬ (I 31 0 y1.toNatClampNeg) = 4 → (vp_in y1 4) ∧ (fmD_put_p I)))) ∧ (¬ y2 < 0 → (vp_in ((y1 * 6) + y2) 24) ∧ (fmD_take_p I ∧ (fm_let (fmD_take_f I (I 30 0 (((y1 * 6) + y2).toNatClampNeg))) (fun (r4 : Int32 × fm_MI) => fmD_checkCall_L23_p n r4.2 J G pa pb y1 (y2 + (-1))))))) := rfl
set_option maxRecDepth 100000 in
set_option maxHeartbeats 4000000 in
theorem fmD_checkCall_L23_c {E : fm_Ev} (hl : E.1.stackTraces = false) {d : Nat} (hd : 2 ≤ d + 1) (n : Nat) : ∀ (I : fm_MI) (J : fm_MJ) (G : fm_MG) (pa : Nat × Nat) (pb : Nat × Nat) (y1 : Int32) (y2 : Int32), fmD_checkCall_L23_p n I J G pa pb y1 y2 → fm_Go E (d + 1) fmD_checkCall 0 (23, [(0, .inr (.inr (.inr (.inr (24, 0))))), (1, .inl y1), (2, .inl y2)], [], (I, J, G, fm_P pa pb)) (fm_Zr E none (fmD_checkCall_L23_f n I J G pa pb y1 y2, J, G, fm_P pa pb)) := by
  have O := fmD_checkCall_o.1
  induction n with
  | zero => intro I J G pa pb y1 y2 hp; exact hp.elim
  | succ n ih =>
    intro I J G pa pb y1 y2 hp
    rw [fmD_checkCall_L23_q] at hp
    have he := fmD_checkCall_L23_e n I J G pa pb y1 y2
    refine fm_gr O 1 (C' := (24, [(0, .inr (.inr (.inr (.inr (24, 0))))), (1, .inl y1), (2, .inl y2)], [.inl y2], (I, J, G, fm_P pa pb))) rfl ?_
    refine fm_gb O rfl (fun h => ?_) (fun h => ?_)
    · have h1 : y2 < 0 := h
      have he := he.trans (if_pos h1)
      have hp := hp.1 h1
      refine fm_gr O 3 (C' := (54, [(0, .inr (.inr (.inr (.inr (24, 0))))), (1, .inl y1), (2, .inl y2)], [.inl y1, .inr (.inr (.inr (.inr (31, 0))))], (I, J, G, fm_P pa pb))) rfl ?_
      refine fm_gg O rfl hp.1 ?_
      have hp := hp.2
      refine fm_gr O 1 (C' := (56, [(0, .inr (.inr (.inr (.inr (24, 0))))), (1, .inl y1), (2, .inl y2)], [.inl 4, .inl (I 31 0 y1.toNatClampNeg)], (I, J, G, fm_P pa pb))) rfl ?_
      refine fm_gb O rfl (fun h => ?_) (fun h => ?_)
      · have h2 : (I 31 0 y1.toNatClampNeg) = 4 := h
        have he := he.trans (if_pos h2)
        exact fm_gRe O rfl trivial (by first | (rw [he]; done) | (rw [he]; rfl) | rfl) (by first | (rw [he]; done) | (rw [he]; rfl) | rfl)
      · have h2 : ¬ (I 31 0 y1.toNatClampNeg) = 4 := h
        have he := he.trans (if_neg h2)
        have hp := hp.2 h2
        refine fm_gr O 4 (C' := (65, [(0, .inr (.inr (.inr (.inr (24, 0))))), (1, .inl y1), (2, .inl y2)], [.inl y1, .inr (.inr (.inr (.inr (31, 0)))), .inr (.inr (.inr (.inr (24, 0))))], (I, J, G, fm_P pa pb))) rfl ?_
        refine fm_gg O rfl hp.1 ?_
        have hp := hp.2
        have K := fmD_put_c (d := d) hl (by omega) I J G pa pb (I 31 0 y1.toNatClampNeg) hp
        generalize er3 : fmD_put_f I (I 31 0 y1.toNatClampNeg) = r3 at he
        have he := he.trans (fm_letE _ _)
        rw [er3] at K
        refine fm_cV0 O fmD_put_o (i := 0) (as := [.inl (I 31 0 y1.toNatClampNeg)]) (rest := []) (v := none) rfl fk_6_119 rfl (by decide) fn_D_put (Nat.le_of_ble_eq_true rfl) (K) ?_
        exact fm_gRe O rfl trivial (by first | (rw [he]; done) | (rw [he]; rfl) | rfl) (by first | (rw [he]; done) | (rw [he]; rfl) | rfl)
    · have h1 : ¬ y2 < 0 := h
      have he := he.trans (if_neg h1)
      have hp := hp.2 h1
      refine fm_gr O 8 (C' := (38, [(0, .inr (.inr (.inr (.inr (24, 0))))), (1, .inl y1), (2, .inl y2)], [.inl ((y1 * 6) + y2), .inr (.inr (.inr (.inr (30, 0)))), .inr (.inr (.inr (.inr (24, 0))))], (I, J, G, fm_P pa pb))) rfl ?_
      refine fm_gg O rfl hp.1 ?_
      have hp := hp.2
      have hc := hp.1
      have hp := hp.2
      have K := fmD_take_c (d := d) hl (by omega) I J G pa pb (I 30 0 (((y1 * 6) + y2).toNatClampNeg)) hc
      generalize er4 : fmD_take_f I (I 30 0 (((y1 * 6) + y2).toNatClampNeg)) = r4 at he hp
      have he := he.trans (fm_letE _ _)
      have hp := fm_letP hp
      rw [er4] at K
      refine fm_cV0 O fmD_take_o (i := 0) (as := [.inl (I 30 0 (((y1 * 6) + y2).toNatClampNeg))]) (rest := []) (v := some (.inl r4.1)) rfl fk_6_111 rfl (by decide) fn_D_take (Nat.le_of_ble_eq_true rfl) (K) ?_
      refine fm_gr O 3 (C' := (23, [(2, .inl (y2 + (-1))), (3, .inl r4.1), (0, .inr (.inr (.inr (.inr (24, 0))))), (1, .inl y1)], [], (r4.2, J, G, fm_P pa pb))) rfl ?_
      refine fm_gL O [2, 3, 0] rfl ?_
      rw [he]
      exact ih r4.2 J G pa pb y1 (y2 + (-1)) hp
def fmD_checkCall_f (I : fm_MI) (J : fm_MJ) (G : fm_MG) (pa : Nat × Nat) (pb : Nat × Nat) (aa : Int32) : fm_MI :=
  fm_let (fmD_isFunction_f I aa) (fun (r1 : Int32) => if r1 = 0 then (fm_let (fmD_wrong_f I 1) (fun (r2 : fm_MI) => r2)) else (fmD_checkCall_L23_f 4 I J G pa pb aa ((I 28 0 aa.toNatClampNeg) - 1)))
theorem fmD_checkCall_e (I : fm_MI) (J : fm_MJ) (G : fm_MG) (pa : Nat × Nat) (pb : Nat × Nat) (aa : Int32) : fmD_checkCall_f I J G pa pb aa = fm_let (fmD_isFunction_f I aa) (fun (r1 : Int32) => if r1 = 0 then (fm_let (fmD_wrong_f I 1) (fun (r2 : fm_MI) => r2)) else (fmD_checkCall_L23_f 4 I J G pa pb aa ((I 28 0 aa.toNatClampNeg) - 1))) := rfl
def fmD_checkCall_p (I : fm_MI) (J : fm_MJ) (G : fm_MG) (pa : Nat × Nat) (pb : Nat × Nat) (aa : Int32) : Prop :=
  fmD_isFunction_p aa ∧ (fm_let (fmD_isFunction_f I aa) (fun (r1 : Int32) => (r1 = 0 → True) ∧ (¬ r1 = 0 → (vp_in aa 4) ∧ (fmD_checkCall_L23_p 4 I J G pa pb aa ((I 28 0 aa.toNatClampNeg) - 1)))))
set_option maxRecDepth 100000 in
set_option maxHeartbeats 4000000 in
theorem fmD_checkCall_c {E : fm_Ev} (hl : E.1.stackTraces = false) {d : Nat} (hd : 2 ≤ d) (I : fm_MI) (J : fm_MJ) (G : fm_MG) (pa : Nat × Nat) (pb : Nat × Nat) (aa : Int32) (hp : fmD_checkCall_p I J G pa pb aa) : fm_Ct E d fmD_checkCall 0 [.inr (.inr (.inr (.inr (24, 0)))), .inl aa] (I, J, G, fm_P pa pb) none (fmD_checkCall_f I J G pa pb aa, J, G, fm_P pa pb) := by
  obtain ⟨d, rfl⟩ : ∃ d', d = d' + 1 := ⟨d - 1, by omega⟩
  refine fm_ct fmD_checkCall_o hl (Nat.le_of_ble_eq_true rfl) ?_
  have O := fmD_checkCall_o.1
  unfold fmD_checkCall_p at hp
  have he := fmD_checkCall_e I J G pa pb aa
  refine fm_gr O 2 (C' := (2, [(0, .inr (.inr (.inr (.inr (24, 0))))), (1, .inl aa)], [.inl aa, .inr (.inr (.inr (.inr (24, 0))))], (I, J, G, fm_P pa pb))) rfl ?_
  have hc := hp.1
  have hp := hp.2
  have K := fmD_isFunction_c (d := d) hl (by omega) I J G pa pb aa hc
  generalize er1 : fmD_isFunction_f I aa = r1 at he hp
  have he := he.trans (fm_letE _ _)
  have hp := fm_letP hp
  rw [er1] at K
  refine fm_cV0 O fmD_isFunction_o (i := 0) (as := [.inl aa]) (rest := []) (v := some (.inl r1)) rfl fk_6_98 rfl (by decide) fn_D_isFunction (Nat.le_of_ble_eq_true rfl) (K) ?_
  refine fm_gb O rfl (fun h => ?_) (fun h => ?_)
  · have h1 : r1 = 0 := h
    have he := he.trans (if_pos h1)
    refine fm_gr O 2 (C' := (10, [(0, .inr (.inr (.inr (.inr (24, 0))))), (1, .inl aa)], [.inl 1, .inr (.inr (.inr (.inr (24, 0))))], (I, J, G, fm_P pa pb))) rfl ?_
    have K := fmD_wrong_c (d := d) hl (by omega) I J G pa pb 1
    generalize er2 : fmD_wrong_f I 1 = r2 at he
    have he := he.trans (fm_letE _ _)
    rw [er2] at K
    refine fm_cV0 O fmD_wrong_o (i := 0) (as := [.inl 1]) (rest := []) (v := none) rfl fk_6_115 rfl (by decide) fn_D_wrong (Nat.le_of_ble_eq_true rfl) (K) ?_
    exact fm_gRe O rfl trivial (by first | (rw [he]; done) | (rw [he]; rfl) | rfl) (by first | (rw [he]; done) | (rw [he]; rfl) | rfl)
  · have h1 : ¬ r1 = 0 := h
    have he := he.trans (if_neg h1)
    have hp := hp.2 h1
    refine fm_gr O 3 (C' := (19, [(0, .inr (.inr (.inr (.inr (24, 0))))), (1, .inl aa)], [.inl aa, .inr (.inr (.inr (.inr (28, 0))))], (I, J, G, fm_P pa pb))) rfl ?_
    refine fm_gg O rfl hp.1 ?_
    have hp := hp.2
    refine fm_gr O 3 (C' := (23, [(2, .inl ((I 28 0 aa.toNatClampNeg) - 1)), (0, .inr (.inr (.inr (.inr (24, 0))))), (1, .inl aa)], [], (I, J, G, fm_P pa pb))) rfl ?_
    refine fm_gL O [1, 2, 0] rfl ?_
    rw [he]
    exact fmD_checkCall_L23_c hl hd 4 I J G pa pb aa ((I 28 0 aa.toNatClampNeg) - 1) hp
def fmD_choose_f (I : fm_MI) : fm_MI :=
  fm_let (fmD_take_f I 0) (fun (r1 : Int32 × fm_MI) => fm_let (fmD_take_f r1.2 5) (fun (r2 : Int32 × fm_MI) => fm_let (fmD_take_f r2.2 r2.1) (fun (r3 : Int32 × fm_MI) => if r2.1 = 5 then (fm_let (fmD_put_f r3.2 r3.1) (fun (r4 : fm_MI) => r4)) else (fm_let (fmD_put_f r3.2 r2.1) (fun (r5 : fm_MI) => r5)))))
theorem fmD_choose_e (I : fm_MI) : fmD_choose_f I = fm_let (fmD_take_f I 0) (fun (r1 : Int32 × fm_MI) => fm_let (fmD_take_f r1.2 5) (fun (r2 : Int32 × fm_MI) => fm_let (fmD_take_f r2.2 r2.1) (fun (r3 : Int32 × fm_MI) => if r2.1 = 5 then (fm_let (fmD_put_f r3.2 r3.1) (fun (r4 : fm_MI) => r4)) else (fm_let (fmD_put_f r3.2 r2.1) (fun (r5 : fm_MI) => r5))))) := rfl
def fmD_choose_p (I : fm_MI) : Prop :=
  fmD_take_p I ∧ (fm_let (fmD_take_f I 0) (fun (r1 : Int32 × fm_MI) => fmD_take_p r1.2 ∧ (fm_let (fmD_take_f r1.2 5) (fun (r2 : Int32 × fm_MI) => fmD_take_p r2.2 ∧ (fm_let (fmD_take_f r2.2 r2.1) (fun (r3 : Int32 × fm_MI) => (r2.1 = 5 → fmD_put_p r3.2) ∧ (¬ r2.1 = 5 → fmD_put_p r3.2)))))))
set_option maxRecDepth 100000 in
set_option maxHeartbeats 4000000 in
theorem fmD_choose_c {E : fm_Ev} (hl : E.1.stackTraces = false) {d : Nat} (hd : 1 ≤ d) (I : fm_MI) (J : fm_MJ) (G : fm_MG) (pa : Nat × Nat) (pb : Nat × Nat) (hp : fmD_choose_p I) : fm_Ct E d fmD_choose 0 [.inr (.inr (.inr (.inr (24, 0))))] (I, J, G, fm_P pa pb) none (fmD_choose_f I, J, G, fm_P pa pb) := by
  obtain ⟨d, rfl⟩ : ∃ d', d = d' + 1 := ⟨d - 1, by omega⟩
  refine fm_ct fmD_choose_o hl (Nat.le_of_ble_eq_true rfl) ?_
  have O := fmD_choose_o.1
  unfold fmD_choose_p at hp
  have he := fmD_choose_e I
  refine fm_gr O 2 (C' := (2, [(0, .inr (.inr (.inr (.inr (24, 0)))))], [.inl 0, .inr (.inr (.inr (.inr (24, 0))))], (I, J, G, fm_P pa pb))) rfl ?_
  have hc := hp.1
  have hp := hp.2
  have K := fmD_take_c (d := d) hl (by omega) I J G pa pb 0 hc
  generalize er1 : fmD_take_f I 0 = r1 at he hp
  have he := he.trans (fm_letE _ _)
  have hp := fm_letP hp
  rw [er1] at K
  refine fm_cV0 O fmD_take_o (i := 0) (as := [.inl 0]) (rest := []) (v := some (.inl r1.1)) rfl fk_6_111 rfl (by decide) fn_D_take (Nat.le_of_ble_eq_true rfl) (K) ?_
  refine fm_gr O 3 (C' := (8, [(1, .inl r1.1), (0, .inr (.inr (.inr (.inr (24, 0)))))], [.inl 5, .inr (.inr (.inr (.inr (24, 0))))], (r1.2, J, G, fm_P pa pb))) rfl ?_
  have hc := hp.1
  have hp := hp.2
  have K := fmD_take_c (d := d) hl (by omega) r1.2 J G pa pb 5 hc
  generalize er2 : fmD_take_f r1.2 5 = r2 at he hp
  have he := he.trans (fm_letE _ _)
  have hp := fm_letP hp
  rw [er2] at K
  refine fm_cV0 O fmD_take_o (i := 0) (as := [.inl 5]) (rest := []) (v := some (.inl r2.1)) rfl fk_6_111 rfl (by decide) fn_D_take (Nat.le_of_ble_eq_true rfl) (K) ?_
  refine fm_gr O 3 (C' := (14, [(2, .inl r2.1), (1, .inl r1.1), (0, .inr (.inr (.inr (.inr (24, 0)))))], [.inl r2.1, .inr (.inr (.inr (.inr (24, 0))))], (r2.2, J, G, fm_P pa pb))) rfl ?_
  have hc := hp.1
  have hp := hp.2
  have K := fmD_take_c (d := d) hl (by omega) r2.2 J G pa pb r2.1 hc
  generalize er3 : fmD_take_f r2.2 r2.1 = r3 at he hp
  have he := he.trans (fm_letE _ _)
  have hp := fm_letP hp
  rw [er3] at K
  refine fm_cV0 O fmD_take_o (i := 0) (as := [.inl r2.1]) (rest := []) (v := some (.inl r3.1)) rfl fk_6_111 rfl (by decide) fn_D_take (Nat.le_of_ble_eq_true rfl) (K) ?_
  refine fm_gr O 4 (C' := (21, [(3, .inl r3.1), (2, .inl r2.1), (1, .inl r1.1), (0, .inr (.inr (.inr (.inr (24, 0)))))], [.inl 5, .inl r2.1, .inr (.inr (.inr (.inr (24, 0))))], (r3.2, J, G, fm_P pa pb))) rfl ?_
  refine fm_gb O rfl (fun h => ?_) (fun h => ?_)
  · have h1 : r2.1 = 5 := h
    have he := he.trans (if_pos h1)
    have hp := hp.1 h1
    refine fm_gr O 2 (C' := (29, [(3, .inl r3.1), (2, .inl r2.1), (1, .inl r1.1), (0, .inr (.inr (.inr (.inr (24, 0)))))], [.inl r3.1, .inr (.inr (.inr (.inr (24, 0))))], (r3.2, J, G, fm_P pa pb))) rfl ?_
    have K := fmD_put_c (d := d) hl (by omega) r3.2 J G pa pb r3.1 hp
    generalize er4 : fmD_put_f r3.2 r3.1 = r4 at he
    have he := he.trans (fm_letE _ _)
    rw [er4] at K
    refine fm_cV0 O fmD_put_o (i := 0) (as := [.inl r3.1]) (rest := []) (v := none) rfl fk_6_119 rfl (by decide) fn_D_put (Nat.le_of_ble_eq_true rfl) (K) ?_
    exact fm_gRe O rfl trivial (by first | (rw [he]; done) | (rw [he]; rfl) | rfl) (by first | (rw [he]; done) | (rw [he]; rfl) | rfl)
  · have h1 : ¬ r2.1 = 5 := h
    have he := he.trans (if_neg h1)
    have hp := hp.2 h1
    refine fm_gr O 1 (C' := (29, [(3, .inl r3.1), (2, .inl r2.1), (1, .inl r1.1), (0, .inr (.inr (.inr (.inr (24, 0)))))], [.inl r2.1, .inr (.inr (.inr (.inr (24, 0))))], (r3.2, J, G, fm_P pa pb))) rfl ?_
    have K := fmD_put_c (d := d) hl (by omega) r3.2 J G pa pb r2.1 hp
    generalize er5 : fmD_put_f r3.2 r2.1 = r5 at he
    have he := he.trans (fm_letE _ _)
    rw [er5] at K
    refine fm_cV0 O fmD_put_o (i := 0) (as := [.inl r2.1]) (rest := []) (v := none) rfl fk_6_119 rfl (by decide) fn_D_put (Nat.le_of_ble_eq_true rfl) (K) ?_
    exact fm_gRe O rfl trivial (by first | (rw [he]; done) | (rw [he]; rfl) | rfl) (by first | (rw [he]; done) | (rw [he]; rfl) | rfl)
def fmD_checkFrame_f (I : fm_MI) (op : Int32) (aa : Int32) : fm_MI :=
  if 24 ≤ op then (if op = 24 then (if (I 38 0 (((I 24 0 16) - 1).toNatClampNeg)) = 23 then (if (I 24 0 16) = 1 then (fm_let (fmD_wrong_f I 5) (fun (r1 : fm_MI) => r1)) else (fm_let (fmD_finish_f I) (fun (r2 : fm_MI) => if (r2 24 0 17) ≤ 0 then (if op = 25 then (if (r2 38 0 (((r2 24 0 16) - 1).toNatClampNeg)) = 23 then (if (r2 37 0 (((r2 24 0 16) - 1).toNatClampNeg)) = 4 then (fm_let (fmD_begin_f (fm_u r2 24 0 16 ((r2 24 0 16) - 1)) 24 (r2 37 0 (((r2 24 0 16) - 1).toNatClampNeg))) (fun (r3 : fm_MI) => r3)) else (fm_let (fmD_wrong_f r2 6) (fun (r4 : fm_MI) => r4))) else (fm_let (fmD_begin_f (fm_u r2 24 0 16 ((r2 24 0 16) - 1)) 24 (r2 37 0 (((r2 24 0 16) - 1).toNatClampNeg))) (fun (r5 : fm_MI) => r5))) else (fm_let (fmD_begin_f (fm_u r2 24 0 16 ((r2 24 0 16) - 1)) 24 (r2 37 0 (((r2 24 0 16) - 1).toNatClampNeg))) (fun (r6 : fm_MI) => r6))) else r2))) else (fm_let (fmD_wrong_f I 5) (fun (r7 : fm_MI) => r7))) else (if (I 24 0 16) = 1 then (fm_let (fmD_wrong_f I 5) (fun (r8 : fm_MI) => r8)) else (fm_let (fmD_finish_f I) (fun (r9 : fm_MI) => if (r9 24 0 17) ≤ 0 then (if op = 25 then (if (r9 38 0 (((r9 24 0 16) - 1).toNatClampNeg)) = 23 then (if (r9 37 0 (((r9 24 0 16) - 1).toNatClampNeg)) = 4 then (fm_u r9 24 0 16 ((r9 24 0 16) - 1)) else (fm_let (fmD_wrong_f r9 6) (fun (r10 : fm_MI) => r10))) else (if (r9 37 0 (((r9 24 0 16) - 1).toNatClampNeg)) = 4 then (fm_u r9 24 0 16 ((r9 24 0 16) - 1)) else (fm_let (fmD_put_f (fm_u r9 24 0 16 ((r9 24 0 16) - 1)) (r9 37 0 (((r9 24 0 16) - 1).toNatClampNeg))) (fun (r11 : fm_MI) => r11)))) else (if (r9 37 0 (((r9 24 0 16) - 1).toNatClampNeg)) = 4 then (fm_u r9 24 0 16 ((r9 24 0 16) - 1)) else (fm_let (fmD_put_f (fm_u r9 24 0 16 ((r9 24 0 16) - 1)) (r9 37 0 (((r9 24 0 16) - 1).toNatClampNeg))) (fun (r12 : fm_MI) => r12)))) else r9)))) else (fm_let (fmD_in_f aa 0 4) (fun (r13 : Int32) => if r13 = 0 then (fm_let (fmD_wrong_f I 1) (fun (r14 : fm_MI) => r14)) else (if op = 23 then (fm_let (fmD_take_f I 0) (fun (r15 : Int32 × fm_MI) => fm_let (fmD_begin_f r15.2 op aa) (fun (r16 : fm_MI) => r16))) else (fm_let (fmD_begin_f I op aa) (fun (r17 : fm_MI) => r17)))))
theorem fmD_checkFrame_e (I : fm_MI) (op : Int32) (aa : Int32) : fmD_checkFrame_f I op aa = if 24 ≤ op then (if op = 24 then (if (I 38 0 (((I 24 0 16) - 1).toNatClampNeg)) = 23 then (if (I 24 0 16) = 1 then (fm_let (fmD_wrong_f I 5) (fun (r1 : fm_MI) => r1)) else (fm_let (fmD_finish_f I) (fun (r2 : fm_MI) => if (r2 24 0 17) ≤ 0 then (if op = 25 then (if (r2 38 0 (((r2 24 0 16) - 1).toNatClampNeg)) = 23 then (if (r2 37 0 (((r2 24 0 16) - 1).toNatClampNeg)) = 4 then (fm_let (fmD_begin_f (fm_u r2 24 0 16 ((r2 24 0 16) - 1)) 24 (r2 37 0 (((r2 24 0 16) - 1).toNatClampNeg))) (fun (r3 : fm_MI) => r3)) else (fm_let (fmD_wrong_f r2 6) (fun (r4 : fm_MI) => r4))) else (fm_let (fmD_begin_f (fm_u r2 24 0 16 ((r2 24 0 16) - 1)) 24 (r2 37 0 (((r2 24 0 16) - 1).toNatClampNeg))) (fun (r5 : fm_MI) => r5))) else (fm_let (fmD_begin_f (fm_u r2 24 0 16 ((r2 24 0 16) - 1)) 24 (r2 37 0 (((r2 24 0 16) - 1).toNatClampNeg))) (fun (r6 : fm_MI) => r6))) else r2))) else (fm_let (fmD_wrong_f I 5) (fun (r7 : fm_MI) => r7))) else (if (I 24 0 16) = 1 then (fm_let (fmD_wrong_f I 5) (fun (r8 : fm_MI) => r8)) else (fm_let (fmD_finish_f I) (fun (r9 : fm_MI) => if (r9 24 0 17) ≤ 0 then (if op = 25 then (if (r9 38 0 (((r9 24 0 16) - 1).toNatClampNeg)) = 23 then (if (r9 37 0 (((r9 24 0 16) - 1).toNatClampNeg)) = 4 then (fm_u r9 24 0 16 ((r9 24 0 16) - 1)) else (fm_let (fmD_wrong_f r9 6) (fun (r10 : fm_MI) => r10))) else (if (r9 37 0 (((r9 24 0 16) - 1).toNatClampNeg)) = 4 then (fm_u r9 24 0 16 ((r9 24 0 16) - 1)) else (fm_let (fmD_put_f (fm_u r9 24 0 16 ((r9 24 0 16) - 1)) (r9 37 0 (((r9 24 0 16) - 1).toNatClampNeg))) (fun (r11 : fm_MI) => r11)))) else (if (r9 37 0 (((r9 24 0 16) - 1).toNatClampNeg)) = 4 then (fm_u r9 24 0 16 ((r9 24 0 16) - 1)) else (fm_let (fmD_put_f (fm_u r9 24 0 16 ((r9 24 0 16) - 1)) (r9 37 0 (((r9 24 0 16) - 1).toNatClampNeg))) (fun (r12 : fm_MI) => r12)))) else r9)))) else (fm_let (fmD_in_f aa 0 4) (fun (r13 : Int32) => if r13 = 0 then (fm_let (fmD_wrong_f I 1) (fun (r14 : fm_MI) => r14)) else (if op = 23 then (fm_let (fmD_take_f I 0) (fun (r15 : Int32 × fm_MI) => fm_let (fmD_begin_f r15.2 op aa) (fun (r16 : fm_MI) => r16))) else (fm_let (fmD_begin_f I op aa) (fun (r17 : fm_MI) => r17))))) := rfl
def fmD_checkFrame_p (I : fm_MI) (op : Int32) (aa : Int32) : Prop :=
  (24 ≤ op → (op = 24 → (vp_in ((I 24 0 16) - 1) 12) ∧ (((I 38 0 (((I 24 0 16) - 1).toNatClampNeg)) = 23 → ((I 24 0 16) = 1 → True) ∧ (¬ (I 24 0 16) = 1 → fmD_finish_p I ∧ (fm_let (fmD_finish_f I) (fun (r2 : fm_MI) => ((r2 24 0 17) ≤ 0 → (vp_in ((r2 24 0 16) - 1) 12) ∧ ((op = 25 → (vp_in ((r2 24 0 16) - 1) 12) ∧ (((r2 38 0 (((r2 24 0 16) - 1).toNatClampNeg)) = 23 → ((r2 37 0 (((r2 24 0 16) - 1).toNatClampNeg)) = 4 → fmD_begin_p (fm_u r2 24 0 16 ((r2 24 0 16) - 1))) ∧ (¬ (r2 37 0 (((r2 24 0 16) - 1).toNatClampNeg)) = 4 → True)) ∧ (¬ (r2 38 0 (((r2 24 0 16) - 1).toNatClampNeg)) = 23 → fmD_begin_p (fm_u r2 24 0 16 ((r2 24 0 16) - 1))))) ∧ (¬ op = 25 → fmD_begin_p (fm_u r2 24 0 16 ((r2 24 0 16) - 1))))) ∧ (¬ (r2 24 0 17) ≤ 0 → True))))) ∧ (¬ (I 38 0 (((I 24 0 16) - 1).toNatClampNeg)) = 23 → True))) ∧ (¬ op = 24 → ((I 24 0 16) = 1 → True) ∧ (¬ (I 24 0 16) = 1 → fmD_finish_p I ∧ (fm_let (fmD_finish_f I) (fun (r9 : fm_MI) => ((r9 24 0 17) ≤ 0 → (vp_in ((r9 24 0 16) - 1) 12) ∧ ((op = 25 → (vp_in ((r9 24 0 16) - 1) 12) ∧ (((r9 38 0 (((r9 24 0 16) - 1).toNatClampNeg)) = 23 → True) ∧ (¬ (r9 38 0 (((r9 24 0 16) - 1).toNatClampNeg)) = 23 → ((r9 37 0 (((r9 24 0 16) - 1).toNatClampNeg)) = 4 → True) ∧ (¬ (r9 37 0 (((r9 24 0 16) - 1).toNatClampNeg)) = 4 → fmD_put_p (fm_u r9 24 0 16 ((r9 24 0 16) - 1)))))) ∧ (¬ op = 25 → ((r9 37 0 (((r9 24 0 16) - 1).toNatClampNeg)) = 4 → True) ∧ (¬ (r9 37 0 (((r9 24 0 16) - 1).toNatClampNeg)) = 4 → fmD_put_p (fm_u r9 24 0 16 ((r9 24 0 16) - 1)))))) ∧ (¬ (r9 24 0 17) ≤ 0 → True)))))) ∧ (¬ 24 ≤ op → fm_let (fmD_in_f aa 0 4) (fun (r13 : Int32) => (r13 = 0 → True) ∧ (¬ r13 = 0 → (op = 23 → fmD_take_p I ∧ (fm_let (fmD_take_f I 0) (fun (r15 : Int32 × fm_MI) => fmD_begin_p r15.2))) ∧ (¬ op = 23 → fmD_begin_p I))))
set_option maxRecDepth 100000 in
set_option maxHeartbeats 4000000 in
theorem fmD_checkFrame_c {E : fm_Ev} (hl : E.1.stackTraces = false) {d : Nat} (hd : 2 ≤ d) (I : fm_MI) (J : fm_MJ) (G : fm_MG) (pa : Nat × Nat) (pb : Nat × Nat) (op : Int32) (aa : Int32) (hp : fmD_checkFrame_p I op aa) : fm_Ct E d fmD_checkFrame 0 [.inr (.inr (.inr (.inr (24, 0)))), .inl op, .inl aa] (I, J, G, fm_P pa pb) none (fmD_checkFrame_f I op aa, J, G, fm_P pa pb) := by
  obtain ⟨d, rfl⟩ : ∃ d', d = d' + 1 := ⟨d - 1, by omega⟩
  refine fm_ct fmD_checkFrame_o hl (Nat.le_of_ble_eq_true rfl) ?_
  have O := fmD_checkFrame_o.1
  unfold fmD_checkFrame_p at hp
  have he := fmD_checkFrame_e I op aa
  refine fm_gr O 2 (C' := (3, [(0, .inr (.inr (.inr (.inr (24, 0))))), (1, .inl op), (2, .inl aa)], [.inl 24, .inl op], (I, J, G, fm_P pa pb))) rfl ?_
  refine fm_gb O rfl (fun h => ?_) (fun h => ?_)
  · have h1 : 24 ≤ op := h
    have he := he.trans (if_pos h1)
    have hp := hp.1 h1
    refine fm_gr O 2 (C' := (47, [(0, .inr (.inr (.inr (.inr (24, 0))))), (1, .inl op), (2, .inl aa)], [.inl 24, .inl op], (I, J, G, fm_P pa pb))) rfl ?_
    refine fm_gb O rfl (fun h => ?_) (fun h => ?_)
    · have h2 : op = 24 := h
      have he := he.trans (if_pos h2)
      have hp := hp.1 h2
      refine fm_gr O 6 (C' := (60, [(0, .inr (.inr (.inr (.inr (24, 0))))), (1, .inl op), (2, .inl aa)], [.inl ((I 24 0 16) - 1), .inr (.inr (.inr (.inr (38, 0))))], (I, J, G, fm_P pa pb))) rfl ?_
      refine fm_gg O rfl hp.1 ?_
      have hp := hp.2
      refine fm_gr O 1 (C' := (63, [(0, .inr (.inr (.inr (.inr (24, 0))))), (1, .inl op), (2, .inl aa)], [.inl 23, .inl (I 38 0 (((I 24 0 16) - 1).toNatClampNeg))], (I, J, G, fm_P pa pb))) rfl ?_
      refine fm_gb O rfl (fun h => ?_) (fun h => ?_)
      · have h3 : (I 38 0 (((I 24 0 16) - 1).toNatClampNeg)) = 23 := h
        have he := he.trans (if_pos h3)
        have hp := hp.1 h3
        refine fm_gr O 3 (C' := (71, [(0, .inr (.inr (.inr (.inr (24, 0))))), (1, .inl op), (2, .inl aa)], [.inl 1, .inl (I 24 0 16)], (I, J, G, fm_P pa pb))) rfl ?_
        refine fm_gb O rfl (fun h => ?_) (fun h => ?_)
        · have h4 : (I 24 0 16) = 1 := h
          have he := he.trans (if_pos h4)
          refine fm_gr O 2 (C' := (76, [(0, .inr (.inr (.inr (.inr (24, 0))))), (1, .inl op), (2, .inl aa)], [.inl 5, .inr (.inr (.inr (.inr (24, 0))))], (I, J, G, fm_P pa pb))) rfl ?_
          have K := fmD_wrong_c (d := d) hl (by omega) I J G pa pb 5
          generalize er1 : fmD_wrong_f I 5 = r1 at he
          have he := he.trans (fm_letE _ _)
          rw [er1] at K
          refine fm_cV0 O fmD_wrong_o (i := 0) (as := [.inl 5]) (rest := []) (v := none) rfl fk_6_115 rfl (by decide) fn_D_wrong (Nat.le_of_ble_eq_true rfl) (K) ?_
          refine fm_gr O 1 (C' := (176, [(0, .inr (.inr (.inr (.inr (24, 0))))), (1, .inl op), (2, .inl aa)], [], (r1, J, G, fm_P pa pb))) rfl ?_
          exact fm_gRe O rfl trivial (by first | (rw [he]; done) | (rw [he]; rfl) | rfl) (by first | (rw [he]; done) | (rw [he]; rfl) | rfl)
        · have h4 : ¬ (I 24 0 16) = 1 := h
          have he := he.trans (if_neg h4)
          have hp := hp.2 h4
          refine fm_gr O 1 (C' := (83, [(0, .inr (.inr (.inr (.inr (24, 0))))), (1, .inl op), (2, .inl aa)], [.inr (.inr (.inr (.inr (24, 0))))], (I, J, G, fm_P pa pb))) rfl ?_
          have hc := hp.1
          have hp := hp.2
          have K := fmD_finish_c (d := d) hl (by omega) I J G pa pb hc
          generalize er2 : fmD_finish_f I = r2 at he hp
          have he := he.trans (fm_letE _ _)
          have hp := fm_letP hp
          rw [er2] at K
          refine fm_cV0 O fmD_finish_o (i := 0) (as := []) (rest := []) (v := none) rfl fk_6_129 rfl (by decide) fn_D_finish (Nat.le_of_ble_eq_true rfl) (K) ?_
          refine fm_gr O 2 (C' := (90, [(0, .inr (.inr (.inr (.inr (24, 0))))), (1, .inl op), (2, .inl aa)], [.inl (r2 24 0 17)], (r2, J, G, fm_P pa pb))) rfl ?_
          refine fm_gb O rfl (fun h => ?_) (fun h => ?_)
          · have h5 : (r2 24 0 17) ≤ 0 := h
            have he := he.trans (if_pos h5)
            have hp := hp.1 h5
            refine fm_gr O 6 (C' := (104, [(0, .inr (.inr (.inr (.inr (24, 0))))), (1, .inl op), (2, .inl aa)], [.inl ((r2 24 0 16) - 1), .inr (.inr (.inr (.inr (37, 0))))], (r2, J, G, fm_P pa pb))) rfl ?_
            refine fm_gg O rfl hp.1 ?_
            have hp := hp.2
            refine fm_gr O 3 (C' := (109, [(3, .inl (r2 37 0 (((r2 24 0 16) - 1).toNatClampNeg))), (0, .inr (.inr (.inr (.inr (24, 0))))), (1, .inl op), (2, .inl aa)], [.inl 25, .inl op], (r2, J, G, fm_P pa pb))) rfl ?_
            refine fm_gb O rfl (fun h => ?_) (fun h => ?_)
            · have h6 : op = 25 := h
              have he := he.trans (if_pos h6)
              have hp := hp.1 h6
              refine fm_gr O 6 (C' := (122, [(3, .inl (r2 37 0 (((r2 24 0 16) - 1).toNatClampNeg))), (0, .inr (.inr (.inr (.inr (24, 0))))), (1, .inl op), (2, .inl aa)], [.inl ((r2 24 0 16) - 1), .inr (.inr (.inr (.inr (38, 0))))], (r2, J, G, fm_P pa pb))) rfl ?_
              refine fm_gg O rfl hp.1 ?_
              have hp := hp.2
              refine fm_gr O 1 (C' := (125, [(3, .inl (r2 37 0 (((r2 24 0 16) - 1).toNatClampNeg))), (0, .inr (.inr (.inr (.inr (24, 0))))), (1, .inl op), (2, .inl aa)], [.inl 23, .inl (r2 38 0 (((r2 24 0 16) - 1).toNatClampNeg))], (r2, J, G, fm_P pa pb))) rfl ?_
              refine fm_gb O rfl (fun h => ?_) (fun h => ?_)
              · have h7 : (r2 38 0 (((r2 24 0 16) - 1).toNatClampNeg)) = 23 := h
                have he := he.trans (if_pos h7)
                have hp := hp.1 h7
                refine fm_gr O 2 (C' := (130, [(3, .inl (r2 37 0 (((r2 24 0 16) - 1).toNatClampNeg))), (0, .inr (.inr (.inr (.inr (24, 0))))), (1, .inl op), (2, .inl aa)], [.inl 4, .inl (r2 37 0 (((r2 24 0 16) - 1).toNatClampNeg))], (r2, J, G, fm_P pa pb))) rfl ?_
                refine fm_gb O rfl (fun h => ?_) (fun h => ?_)
                · have h8 : (r2 37 0 (((r2 24 0 16) - 1).toNatClampNeg)) = 4 := h
                  have he := he.trans (if_pos h8)
                  have hp := hp.1 h8
                  refine fm_gr O 8 (C' := (153, [(3, .inl (r2 37 0 (((r2 24 0 16) - 1).toNatClampNeg))), (0, .inr (.inr (.inr (.inr (24, 0))))), (1, .inl op), (2, .inl aa)], [.inl 24, .inl op], (fm_u r2 24 0 16 ((r2 24 0 16) - 1), J, G, fm_P pa pb))) rfl ?_
                  refine fm_gb O rfl (fun h => ?_) (fun h => ?_)
                  rotate_left
                  · exact absurd h2 h
                  · refine fm_gr O 3 (C' := (160, [(3, .inl (r2 37 0 (((r2 24 0 16) - 1).toNatClampNeg))), (0, .inr (.inr (.inr (.inr (24, 0))))), (1, .inl op), (2, .inl aa)], [.inl (r2 37 0 (((r2 24 0 16) - 1).toNatClampNeg)), .inl 24, .inr (.inr (.inr (.inr (24, 0))))], (fm_u r2 24 0 16 ((r2 24 0 16) - 1), J, G, fm_P pa pb))) rfl ?_
                    have K := fmD_begin_c (d := d) hl (by omega) (fm_u r2 24 0 16 ((r2 24 0 16) - 1)) J G pa pb 24 (r2 37 0 (((r2 24 0 16) - 1).toNatClampNeg)) hp
                    generalize er3 : fmD_begin_f (fm_u r2 24 0 16 ((r2 24 0 16) - 1)) 24 (r2 37 0 (((r2 24 0 16) - 1).toNatClampNeg)) = r3 at he
                    have he := he.trans (fm_letE _ _)
                    rw [er3] at K
                    refine fm_cV0 O fmD_begin_o (i := 0) (as := [.inl 24, .inl (r2 37 0 (((r2 24 0 16) - 1).toNatClampNeg))]) (rest := []) (v := none) rfl fk_6_125 rfl (by decide) fn_D_begin (Nat.le_of_ble_eq_true rfl) (K) ?_
                    refine fm_gr O 1 (C' := (176, [(3, .inl (r2 37 0 (((r2 24 0 16) - 1).toNatClampNeg))), (0, .inr (.inr (.inr (.inr (24, 0))))), (1, .inl op), (2, .inl aa)], [], (r3, J, G, fm_P pa pb))) rfl ?_
                    exact fm_gRe O rfl trivial (by first | (rw [he]; done) | (rw [he]; rfl) | rfl) (by first | (rw [he]; done) | (rw [he]; rfl) | rfl)
                · have h8 : ¬ (r2 37 0 (((r2 24 0 16) - 1).toNatClampNeg)) = 4 := h
                  have he := he.trans (if_neg h8)
                  refine fm_gr O 2 (C' := (136, [(3, .inl (r2 37 0 (((r2 24 0 16) - 1).toNatClampNeg))), (0, .inr (.inr (.inr (.inr (24, 0))))), (1, .inl op), (2, .inl aa)], [.inl 6, .inr (.inr (.inr (.inr (24, 0))))], (r2, J, G, fm_P pa pb))) rfl ?_
                  have K := fmD_wrong_c (d := d) hl (by omega) r2 J G pa pb 6
                  generalize er4 : fmD_wrong_f r2 6 = r4 at he
                  have he := he.trans (fm_letE _ _)
                  rw [er4] at K
                  refine fm_cV0 O fmD_wrong_o (i := 0) (as := [.inl 6]) (rest := []) (v := none) rfl fk_6_115 rfl (by decide) fn_D_wrong (Nat.le_of_ble_eq_true rfl) (K) ?_
                  exact fm_gRe O rfl trivial (by first | (rw [he]; done) | (rw [he]; rfl) | rfl) (by first | (rw [he]; done) | (rw [he]; rfl) | rfl)
              · have h7 : ¬ (r2 38 0 (((r2 24 0 16) - 1).toNatClampNeg)) = 23 := h
                have he := he.trans (if_neg h7)
                have hp := hp.2 h7
                refine fm_gr O 8 (C' := (153, [(3, .inl (r2 37 0 (((r2 24 0 16) - 1).toNatClampNeg))), (0, .inr (.inr (.inr (.inr (24, 0))))), (1, .inl op), (2, .inl aa)], [.inl 24, .inl op], (fm_u r2 24 0 16 ((r2 24 0 16) - 1), J, G, fm_P pa pb))) rfl ?_
                refine fm_gb O rfl (fun h => ?_) (fun h => ?_)
                rotate_left
                · exact absurd h2 h
                · refine fm_gr O 3 (C' := (160, [(3, .inl (r2 37 0 (((r2 24 0 16) - 1).toNatClampNeg))), (0, .inr (.inr (.inr (.inr (24, 0))))), (1, .inl op), (2, .inl aa)], [.inl (r2 37 0 (((r2 24 0 16) - 1).toNatClampNeg)), .inl 24, .inr (.inr (.inr (.inr (24, 0))))], (fm_u r2 24 0 16 ((r2 24 0 16) - 1), J, G, fm_P pa pb))) rfl ?_
                  have K := fmD_begin_c (d := d) hl (by omega) (fm_u r2 24 0 16 ((r2 24 0 16) - 1)) J G pa pb 24 (r2 37 0 (((r2 24 0 16) - 1).toNatClampNeg)) hp
                  generalize er5 : fmD_begin_f (fm_u r2 24 0 16 ((r2 24 0 16) - 1)) 24 (r2 37 0 (((r2 24 0 16) - 1).toNatClampNeg)) = r5 at he
                  have he := he.trans (fm_letE _ _)
                  rw [er5] at K
                  refine fm_cV0 O fmD_begin_o (i := 0) (as := [.inl 24, .inl (r2 37 0 (((r2 24 0 16) - 1).toNatClampNeg))]) (rest := []) (v := none) rfl fk_6_125 rfl (by decide) fn_D_begin (Nat.le_of_ble_eq_true rfl) (K) ?_
                  refine fm_gr O 1 (C' := (176, [(3, .inl (r2 37 0 (((r2 24 0 16) - 1).toNatClampNeg))), (0, .inr (.inr (.inr (.inr (24, 0))))), (1, .inl op), (2, .inl aa)], [], (r5, J, G, fm_P pa pb))) rfl ?_
                  exact fm_gRe O rfl trivial (by first | (rw [he]; done) | (rw [he]; rfl) | rfl) (by first | (rw [he]; done) | (rw [he]; rfl) | rfl)
            · have h6 : ¬ op = 25 := h
              have he := he.trans (if_neg h6)
              have hp := hp.2 h6
              refine fm_gr O 8 (C' := (153, [(3, .inl (r2 37 0 (((r2 24 0 16) - 1).toNatClampNeg))), (0, .inr (.inr (.inr (.inr (24, 0))))), (1, .inl op), (2, .inl aa)], [.inl 24, .inl op], (fm_u r2 24 0 16 ((r2 24 0 16) - 1), J, G, fm_P pa pb))) rfl ?_
              refine fm_gb O rfl (fun h => ?_) (fun h => ?_)
              rotate_left
              · exact absurd h2 h
              · refine fm_gr O 3 (C' := (160, [(3, .inl (r2 37 0 (((r2 24 0 16) - 1).toNatClampNeg))), (0, .inr (.inr (.inr (.inr (24, 0))))), (1, .inl op), (2, .inl aa)], [.inl (r2 37 0 (((r2 24 0 16) - 1).toNatClampNeg)), .inl 24, .inr (.inr (.inr (.inr (24, 0))))], (fm_u r2 24 0 16 ((r2 24 0 16) - 1), J, G, fm_P pa pb))) rfl ?_
                have K := fmD_begin_c (d := d) hl (by omega) (fm_u r2 24 0 16 ((r2 24 0 16) - 1)) J G pa pb 24 (r2 37 0 (((r2 24 0 16) - 1).toNatClampNeg)) hp
                generalize er6 : fmD_begin_f (fm_u r2 24 0 16 ((r2 24 0 16) - 1)) 24 (r2 37 0 (((r2 24 0 16) - 1).toNatClampNeg)) = r6 at he
                have he := he.trans (fm_letE _ _)
                rw [er6] at K
                refine fm_cV0 O fmD_begin_o (i := 0) (as := [.inl 24, .inl (r2 37 0 (((r2 24 0 16) - 1).toNatClampNeg))]) (rest := []) (v := none) rfl fk_6_125 rfl (by decide) fn_D_begin (Nat.le_of_ble_eq_true rfl) (K) ?_
                refine fm_gr O 1 (C' := (176, [(3, .inl (r2 37 0 (((r2 24 0 16) - 1).toNatClampNeg))), (0, .inr (.inr (.inr (.inr (24, 0))))), (1, .inl op), (2, .inl aa)], [], (r6, J, G, fm_P pa pb))) rfl ?_
                exact fm_gRe O rfl trivial (by first | (rw [he]; done) | (rw [he]; rfl) | rfl) (by first | (rw [he]; done) | (rw [he]; rfl) | rfl)
          · have h5 : ¬ (r2 24 0 17) ≤ 0 := h
            have he := he.trans (if_neg h5)
            exact fm_gRe O rfl trivial (by first | (rw [he]; done) | (rw [he]; rfl) | rfl) (by first | (rw [he]; done) | (rw [he]; rfl) | rfl)
      · have h3 : ¬ (I 38 0 (((I 24 0 16) - 1).toNatClampNeg)) = 23 := h
        have he := he.trans (if_neg h3)
        refine fm_gr O 2 (C' := (76, [(0, .inr (.inr (.inr (.inr (24, 0))))), (1, .inl op), (2, .inl aa)], [.inl 5, .inr (.inr (.inr (.inr (24, 0))))], (I, J, G, fm_P pa pb))) rfl ?_
        have K := fmD_wrong_c (d := d) hl (by omega) I J G pa pb 5
        generalize er7 : fmD_wrong_f I 5 = r7 at he
        have he := he.trans (fm_letE _ _)
        rw [er7] at K
        refine fm_cV0 O fmD_wrong_o (i := 0) (as := [.inl 5]) (rest := []) (v := none) rfl fk_6_115 rfl (by decide) fn_D_wrong (Nat.le_of_ble_eq_true rfl) (K) ?_
        refine fm_gr O 1 (C' := (176, [(0, .inr (.inr (.inr (.inr (24, 0))))), (1, .inl op), (2, .inl aa)], [], (r7, J, G, fm_P pa pb))) rfl ?_
        exact fm_gRe O rfl trivial (by first | (rw [he]; done) | (rw [he]; rfl) | rfl) (by first | (rw [he]; done) | (rw [he]; rfl) | rfl)
    · have h2 : ¬ op = 24 := h
      have he := he.trans (if_neg h2)
      have hp := hp.2 h2
      refine fm_gr O 3 (C' := (71, [(0, .inr (.inr (.inr (.inr (24, 0))))), (1, .inl op), (2, .inl aa)], [.inl 1, .inl (I 24 0 16)], (I, J, G, fm_P pa pb))) rfl ?_
      refine fm_gb O rfl (fun h => ?_) (fun h => ?_)
      · have h3 : (I 24 0 16) = 1 := h
        have he := he.trans (if_pos h3)
        refine fm_gr O 2 (C' := (76, [(0, .inr (.inr (.inr (.inr (24, 0))))), (1, .inl op), (2, .inl aa)], [.inl 5, .inr (.inr (.inr (.inr (24, 0))))], (I, J, G, fm_P pa pb))) rfl ?_
        have K := fmD_wrong_c (d := d) hl (by omega) I J G pa pb 5
        generalize er8 : fmD_wrong_f I 5 = r8 at he
        have he := he.trans (fm_letE _ _)
        rw [er8] at K
        refine fm_cV0 O fmD_wrong_o (i := 0) (as := [.inl 5]) (rest := []) (v := none) rfl fk_6_115 rfl (by decide) fn_D_wrong (Nat.le_of_ble_eq_true rfl) (K) ?_
        refine fm_gr O 1 (C' := (176, [(0, .inr (.inr (.inr (.inr (24, 0))))), (1, .inl op), (2, .inl aa)], [], (r8, J, G, fm_P pa pb))) rfl ?_
        exact fm_gRe O rfl trivial (by first | (rw [he]; done) | (rw [he]; rfl) | rfl) (by first | (rw [he]; done) | (rw [he]; rfl) | rfl)
      · have h3 : ¬ (I 24 0 16) = 1 := h
        have he := he.trans (if_neg h3)
        have hp := hp.2 h3
        refine fm_gr O 1 (C' := (83, [(0, .inr (.inr (.inr (.inr (24, 0))))), (1, .inl op), (2, .inl aa)], [.inr (.inr (.inr (.inr (24, 0))))], (I, J, G, fm_P pa pb))) rfl ?_
        have hc := hp.1
        have hp := hp.2
        have K := fmD_finish_c (d := d) hl (by omega) I J G pa pb hc
        generalize er9 : fmD_finish_f I = r9 at he hp
        have he := he.trans (fm_letE _ _)
        have hp := fm_letP hp
        rw [er9] at K
        refine fm_cV0 O fmD_finish_o (i := 0) (as := []) (rest := []) (v := none) rfl fk_6_129 rfl (by decide) fn_D_finish (Nat.le_of_ble_eq_true rfl) (K) ?_
        refine fm_gr O 2 (C' := (90, [(0, .inr (.inr (.inr (.inr (24, 0))))), (1, .inl op), (2, .inl aa)], [.inl (r9 24 0 17)], (r9, J, G, fm_P pa pb))) rfl ?_
        refine fm_gb O rfl (fun h => ?_) (fun h => ?_)
        · have h4 : (r9 24 0 17) ≤ 0 := h
          have he := he.trans (if_pos h4)
          have hp := hp.1 h4
          refine fm_gr O 6 (C' := (104, [(0, .inr (.inr (.inr (.inr (24, 0))))), (1, .inl op), (2, .inl aa)], [.inl ((r9 24 0 16) - 1), .inr (.inr (.inr (.inr (37, 0))))], (r9, J, G, fm_P pa pb))) rfl ?_
          refine fm_gg O rfl hp.1 ?_
          have hp := hp.2
          refine fm_gr O 3 (C' := (109, [(3, .inl (r9 37 0 (((r9 24 0 16) - 1).toNatClampNeg))), (0, .inr (.inr (.inr (.inr (24, 0))))), (1, .inl op), (2, .inl aa)], [.inl 25, .inl op], (r9, J, G, fm_P pa pb))) rfl ?_
          refine fm_gb O rfl (fun h => ?_) (fun h => ?_)
          · have h5 : op = 25 := h
            have he := he.trans (if_pos h5)
            have hp := hp.1 h5
            refine fm_gr O 6 (C' := (122, [(3, .inl (r9 37 0 (((r9 24 0 16) - 1).toNatClampNeg))), (0, .inr (.inr (.inr (.inr (24, 0))))), (1, .inl op), (2, .inl aa)], [.inl ((r9 24 0 16) - 1), .inr (.inr (.inr (.inr (38, 0))))], (r9, J, G, fm_P pa pb))) rfl ?_
            refine fm_gg O rfl hp.1 ?_
            have hp := hp.2
            refine fm_gr O 1 (C' := (125, [(3, .inl (r9 37 0 (((r9 24 0 16) - 1).toNatClampNeg))), (0, .inr (.inr (.inr (.inr (24, 0))))), (1, .inl op), (2, .inl aa)], [.inl 23, .inl (r9 38 0 (((r9 24 0 16) - 1).toNatClampNeg))], (r9, J, G, fm_P pa pb))) rfl ?_
            refine fm_gb O rfl (fun h => ?_) (fun h => ?_)
            · have h6 : (r9 38 0 (((r9 24 0 16) - 1).toNatClampNeg)) = 23 := h
              have he := he.trans (if_pos h6)
              refine fm_gr O 2 (C' := (130, [(3, .inl (r9 37 0 (((r9 24 0 16) - 1).toNatClampNeg))), (0, .inr (.inr (.inr (.inr (24, 0))))), (1, .inl op), (2, .inl aa)], [.inl 4, .inl (r9 37 0 (((r9 24 0 16) - 1).toNatClampNeg))], (r9, J, G, fm_P pa pb))) rfl ?_
              refine fm_gb O rfl (fun h => ?_) (fun h => ?_)
              · have h7 : (r9 37 0 (((r9 24 0 16) - 1).toNatClampNeg)) = 4 := h
                have he := he.trans (if_pos h7)
                refine fm_gr O 8 (C' := (153, [(3, .inl (r9 37 0 (((r9 24 0 16) - 1).toNatClampNeg))), (0, .inr (.inr (.inr (.inr (24, 0))))), (1, .inl op), (2, .inl aa)], [.inl 24, .inl op], (fm_u r9 24 0 16 ((r9 24 0 16) - 1), J, G, fm_P pa pb))) rfl ?_
                refine fm_gb O rfl (fun h => ?_) (fun h => ?_)
                · exact absurd h h2
                · refine fm_gr O 2 (C' := (168, [(3, .inl (r9 37 0 (((r9 24 0 16) - 1).toNatClampNeg))), (0, .inr (.inr (.inr (.inr (24, 0))))), (1, .inl op), (2, .inl aa)], [.inl 4, .inl (r9 37 0 (((r9 24 0 16) - 1).toNatClampNeg))], (fm_u r9 24 0 16 ((r9 24 0 16) - 1), J, G, fm_P pa pb))) rfl ?_
                  refine fm_gb O rfl (fun h => ?_) (fun h => ?_)
                  rotate_left
                  · exact absurd h7 h
                  · exact fm_gRe O rfl trivial (by first | (rw [he]; done) | (rw [he]; rfl) | rfl) (by first | (rw [he]; done) | (rw [he]; rfl) | rfl)
              · have h7 : ¬ (r9 37 0 (((r9 24 0 16) - 1).toNatClampNeg)) = 4 := h
                have he := he.trans (if_neg h7)
                refine fm_gr O 2 (C' := (136, [(3, .inl (r9 37 0 (((r9 24 0 16) - 1).toNatClampNeg))), (0, .inr (.inr (.inr (.inr (24, 0))))), (1, .inl op), (2, .inl aa)], [.inl 6, .inr (.inr (.inr (.inr (24, 0))))], (r9, J, G, fm_P pa pb))) rfl ?_
                have K := fmD_wrong_c (d := d) hl (by omega) r9 J G pa pb 6
                generalize er10 : fmD_wrong_f r9 6 = r10 at he
                have he := he.trans (fm_letE _ _)
                rw [er10] at K
                refine fm_cV0 O fmD_wrong_o (i := 0) (as := [.inl 6]) (rest := []) (v := none) rfl fk_6_115 rfl (by decide) fn_D_wrong (Nat.le_of_ble_eq_true rfl) (K) ?_
                exact fm_gRe O rfl trivial (by first | (rw [he]; done) | (rw [he]; rfl) | rfl) (by first | (rw [he]; done) | (rw [he]; rfl) | rfl)
            · have h6 : ¬ (r9 38 0 (((r9 24 0 16) - 1).toNatClampNeg)) = 23 := h
              have he := he.trans (if_neg h6)
              have hp := hp.2 h6
              refine fm_gr O 8 (C' := (153, [(3, .inl (r9 37 0 (((r9 24 0 16) - 1).toNatClampNeg))), (0, .inr (.inr (.inr (.inr (24, 0))))), (1, .inl op), (2, .inl aa)], [.inl 24, .inl op], (fm_u r9 24 0 16 ((r9 24 0 16) - 1), J, G, fm_P pa pb))) rfl ?_
              refine fm_gb O rfl (fun h => ?_) (fun h => ?_)
              · exact absurd h h2
              · refine fm_gr O 2 (C' := (168, [(3, .inl (r9 37 0 (((r9 24 0 16) - 1).toNatClampNeg))), (0, .inr (.inr (.inr (.inr (24, 0))))), (1, .inl op), (2, .inl aa)], [.inl 4, .inl (r9 37 0 (((r9 24 0 16) - 1).toNatClampNeg))], (fm_u r9 24 0 16 ((r9 24 0 16) - 1), J, G, fm_P pa pb))) rfl ?_
                refine fm_gb O rfl (fun h => ?_) (fun h => ?_)
                · have h7 : (r9 37 0 (((r9 24 0 16) - 1).toNatClampNeg)) = 4 := h
                  have he := he.trans (if_pos h7)
                  exact fm_gRe O rfl trivial (by first | (rw [he]; done) | (rw [he]; rfl) | rfl) (by first | (rw [he]; done) | (rw [he]; rfl) | rfl)
                · have h7 : ¬ (r9 37 0 (((r9 24 0 16) - 1).toNatClampNeg)) = 4 := h
                  have he := he.trans (if_neg h7)
                  have hp := hp.2 h7
                  refine fm_gr O 2 (C' := (173, [(3, .inl (r9 37 0 (((r9 24 0 16) - 1).toNatClampNeg))), (0, .inr (.inr (.inr (.inr (24, 0))))), (1, .inl op), (2, .inl aa)], [.inl (r9 37 0 (((r9 24 0 16) - 1).toNatClampNeg)), .inr (.inr (.inr (.inr (24, 0))))], (fm_u r9 24 0 16 ((r9 24 0 16) - 1), J, G, fm_P pa pb))) rfl ?_
                  have K := fmD_put_c (d := d) hl (by omega) (fm_u r9 24 0 16 ((r9 24 0 16) - 1)) J G pa pb (r9 37 0 (((r9 24 0 16) - 1).toNatClampNeg)) hp
                  generalize er11 : fmD_put_f (fm_u r9 24 0 16 ((r9 24 0 16) - 1)) (r9 37 0 (((r9 24 0 16) - 1).toNatClampNeg)) = r11 at he
                  have he := he.trans (fm_letE _ _)
                  rw [er11] at K
                  refine fm_cV0 O fmD_put_o (i := 0) (as := [.inl (r9 37 0 (((r9 24 0 16) - 1).toNatClampNeg))]) (rest := []) (v := none) rfl fk_6_119 rfl (by decide) fn_D_put (Nat.le_of_ble_eq_true rfl) (K) ?_
                  exact fm_gRe O rfl trivial (by first | (rw [he]; done) | (rw [he]; rfl) | rfl) (by first | (rw [he]; done) | (rw [he]; rfl) | rfl)
          · have h5 : ¬ op = 25 := h
            have he := he.trans (if_neg h5)
            have hp := hp.2 h5
            refine fm_gr O 8 (C' := (153, [(3, .inl (r9 37 0 (((r9 24 0 16) - 1).toNatClampNeg))), (0, .inr (.inr (.inr (.inr (24, 0))))), (1, .inl op), (2, .inl aa)], [.inl 24, .inl op], (fm_u r9 24 0 16 ((r9 24 0 16) - 1), J, G, fm_P pa pb))) rfl ?_
            refine fm_gb O rfl (fun h => ?_) (fun h => ?_)
            · exact absurd h h2
            · refine fm_gr O 2 (C' := (168, [(3, .inl (r9 37 0 (((r9 24 0 16) - 1).toNatClampNeg))), (0, .inr (.inr (.inr (.inr (24, 0))))), (1, .inl op), (2, .inl aa)], [.inl 4, .inl (r9 37 0 (((r9 24 0 16) - 1).toNatClampNeg))], (fm_u r9 24 0 16 ((r9 24 0 16) - 1), J, G, fm_P pa pb))) rfl ?_
              refine fm_gb O rfl (fun h => ?_) (fun h => ?_)
              · have h6 : (r9 37 0 (((r9 24 0 16) - 1).toNatClampNeg)) = 4 := h
                have he := he.trans (if_pos h6)
                exact fm_gRe O rfl trivial (by first | (rw [he]; done) | (rw [he]; rfl) | rfl) (by first | (rw [he]; done) | (rw [he]; rfl) | rfl)
              · have h6 : ¬ (r9 37 0 (((r9 24 0 16) - 1).toNatClampNeg)) = 4 := h
                have he := he.trans (if_neg h6)
                have hp := hp.2 h6
                refine fm_gr O 2 (C' := (173, [(3, .inl (r9 37 0 (((r9 24 0 16) - 1).toNatClampNeg))), (0, .inr (.inr (.inr (.inr (24, 0))))), (1, .inl op), (2, .inl aa)], [.inl (r9 37 0 (((r9 24 0 16) - 1).toNatClampNeg)), .inr (.inr (.inr (.inr (24, 0))))], (fm_u r9 24 0 16 ((r9 24 0 16) - 1), J, G, fm_P pa pb))) rfl ?_
                have K := fmD_put_c (d := d) hl (by omega) (fm_u r9 24 0 16 ((r9 24 0 16) - 1)) J G pa pb (r9 37 0 (((r9 24 0 16) - 1).toNatClampNeg)) hp
                generalize er12 : fmD_put_f (fm_u r9 24 0 16 ((r9 24 0 16) - 1)) (r9 37 0 (((r9 24 0 16) - 1).toNatClampNeg)) = r12 at he
                have he := he.trans (fm_letE _ _)
                rw [er12] at K
                refine fm_cV0 O fmD_put_o (i := 0) (as := [.inl (r9 37 0 (((r9 24 0 16) - 1).toNatClampNeg))]) (rest := []) (v := none) rfl fk_6_119 rfl (by decide) fn_D_put (Nat.le_of_ble_eq_true rfl) (K) ?_
                exact fm_gRe O rfl trivial (by first | (rw [he]; done) | (rw [he]; rfl) | rfl) (by first | (rw [he]; done) | (rw [he]; rfl) | rfl)
        · have h4 : ¬ (r9 24 0 17) ≤ 0 := h
          have he := he.trans (if_neg h4)
          exact fm_gRe O rfl trivial (by first | (rw [he]; done) | (rw [he]; rfl) | rfl) (by first | (rw [he]; done) | (rw [he]; rfl) | rfl)
  · have h1 : ¬ 24 ≤ op := h
    have he := he.trans (if_neg h1)
    have hp := hp.2 h1
    refine fm_gr O 3 (C' := (9, [(0, .inr (.inr (.inr (.inr (24, 0))))), (1, .inl op), (2, .inl aa)], [.inl 4, .inl 0, .inl aa], (I, J, G, fm_P pa pb))) rfl ?_
    have K := fmD_in_c (d := d) hl (by omega) I J G pa pb aa 0 4
    generalize er13 : fmD_in_f aa 0 4 = r13 at he hp
    have he := he.trans (fm_letE _ _)
    have hp := fm_letP hp
    rw [er13] at K
    refine fm_cS0 O fmD_in_o (as := [.inl aa, .inl 0, .inl 4]) (rest := []) (v := some (.inl r13)) rfl fk_6_86 fn_D_in (Nat.le_of_ble_eq_true rfl) (K) ?_
    refine fm_gb O rfl (fun h => ?_) (fun h => ?_)
    · have h2 : r13 = 0 := h
      have he := he.trans (if_pos h2)
      refine fm_gr O 2 (C' := (17, [(0, .inr (.inr (.inr (.inr (24, 0))))), (1, .inl op), (2, .inl aa)], [.inl 1, .inr (.inr (.inr (.inr (24, 0))))], (I, J, G, fm_P pa pb))) rfl ?_
      have K := fmD_wrong_c (d := d) hl (by omega) I J G pa pb 1
      generalize er14 : fmD_wrong_f I 1 = r14 at he
      have he := he.trans (fm_letE _ _)
      rw [er14] at K
      refine fm_cV0 O fmD_wrong_o (i := 0) (as := [.inl 1]) (rest := []) (v := none) rfl fk_6_115 rfl (by decide) fn_D_wrong (Nat.le_of_ble_eq_true rfl) (K) ?_
      refine fm_gr O 1 (C' := (176, [(0, .inr (.inr (.inr (.inr (24, 0))))), (1, .inl op), (2, .inl aa)], [], (r14, J, G, fm_P pa pb))) rfl ?_
      exact fm_gRe O rfl trivial (by first | (rw [he]; done) | (rw [he]; rfl) | rfl) (by first | (rw [he]; done) | (rw [he]; rfl) | rfl)
    · have h2 : ¬ r13 = 0 := h
      have he := he.trans (if_neg h2)
      have hp := hp.2 h2
      refine fm_gr O 2 (C' := (26, [(0, .inr (.inr (.inr (.inr (24, 0))))), (1, .inl op), (2, .inl aa)], [.inl 23, .inl op], (I, J, G, fm_P pa pb))) rfl ?_
      refine fm_gb O rfl (fun h => ?_) (fun h => ?_)
      · have h3 : op = 23 := h
        have he := he.trans (if_pos h3)
        have hp := hp.1 h3
        refine fm_gr O 2 (C' := (31, [(0, .inr (.inr (.inr (.inr (24, 0))))), (1, .inl op), (2, .inl aa)], [.inl 0, .inr (.inr (.inr (.inr (24, 0))))], (I, J, G, fm_P pa pb))) rfl ?_
        have hc := hp.1
        have hp := hp.2
        have K := fmD_take_c (d := d) hl (by omega) I J G pa pb 0 hc
        generalize er15 : fmD_take_f I 0 = r15 at he hp
        have he := he.trans (fm_letE _ _)
        have hp := fm_letP hp
        rw [er15] at K
        refine fm_cV0 O fmD_take_o (i := 0) (as := [.inl 0]) (rest := []) (v := some (.inl r15.1)) rfl fk_6_111 rfl (by decide) fn_D_take (Nat.le_of_ble_eq_true rfl) (K) ?_
        refine fm_gr O 4 (C' := (38, [(3, .inl r15.1), (0, .inr (.inr (.inr (.inr (24, 0))))), (1, .inl op), (2, .inl aa)], [.inl aa, .inl op, .inr (.inr (.inr (.inr (24, 0))))], (r15.2, J, G, fm_P pa pb))) rfl ?_
        have K := fmD_begin_c (d := d) hl (by omega) r15.2 J G pa pb op aa hp
        generalize er16 : fmD_begin_f r15.2 op aa = r16 at he
        have he := he.trans (fm_letE _ _)
        rw [er16] at K
        refine fm_cV0 O fmD_begin_o (i := 0) (as := [.inl op, .inl aa]) (rest := []) (v := none) rfl fk_6_125 rfl (by decide) fn_D_begin (Nat.le_of_ble_eq_true rfl) (K) ?_
        refine fm_gr O 1 (C' := (176, [(3, .inl r15.1), (0, .inr (.inr (.inr (.inr (24, 0))))), (1, .inl op), (2, .inl aa)], [], (r16, J, G, fm_P pa pb))) rfl ?_
        exact fm_gRe O rfl trivial (by first | (rw [he]; done) | (rw [he]; rfl) | rfl) (by first | (rw [he]; done) | (rw [he]; rfl) | rfl)
      · have h3 : ¬ op = 23 := h
        have he := he.trans (if_neg h3)
        have hp := hp.2 h3
        refine fm_gr O 3 (C' := (38, [(0, .inr (.inr (.inr (.inr (24, 0))))), (1, .inl op), (2, .inl aa)], [.inl aa, .inl op, .inr (.inr (.inr (.inr (24, 0))))], (I, J, G, fm_P pa pb))) rfl ?_
        have K := fmD_begin_c (d := d) hl (by omega) I J G pa pb op aa hp
        generalize er17 : fmD_begin_f I op aa = r17 at he
        have he := he.trans (fm_letE _ _)
        rw [er17] at K
        refine fm_cV0 O fmD_begin_o (i := 0) (as := [.inl op, .inl aa]) (rest := []) (v := none) rfl fk_6_125 rfl (by decide) fn_D_begin (Nat.le_of_ble_eq_true rfl) (K) ?_
        refine fm_gr O 1 (C' := (176, [(0, .inr (.inr (.inr (.inr (24, 0))))), (1, .inl op), (2, .inl aa)], [], (r17, J, G, fm_P pa pb))) rfl ?_
        exact fm_gRe O rfl trivial (by first | (rw [he]; done) | (rw [he]; rfl) | rfl) (by first | (rw [he]; done) | (rw [he]; rfl) | rfl)
def fmD_checkOne_f (I : fm_MI) (J : fm_MJ) (G : fm_MG) (pa : Nat × Nat) (pb : Nat × Nat) (f : Int32) (op : Int32) (aa : Int32) : fm_MI :=
  if 4 ≤ op then (if 7 ≤ op then (if 9 ≤ op then (if op = 9 then (fm_let (fmD_take_f I 5) (fun (r1 : Int32 × fm_MI) => r1.2)) else (if op = 10 then (fm_let (fmD_choose_f I) (fun (r2 : fm_MI) => r2)) else (if 20 ≤ op then (if op = 20 then (fm_let (fmD_in_f aa 0 15) (fun (r3 : Int32) => if r3 = 0 then (fm_let (fmD_wrong_f I 1) (fun (r4 : fm_MI) => r4)) else (fm_let (fmD_take_f I (aa / 4)) (fun (r5 : Int32 × fm_MI) => fm_let (fmD_put_f r5.2 (aa - aa / 4 * 4)) (fun (r6 : fm_MI) => r6))))) else (if 26 ≤ op then (if 28 ≤ op then (if op = 28 then (if (I 31 0 f.toNatClampNeg) = 4 then (fm_let (fmD_die_f I) (fun (r7 : fm_MI) => r7)) else (fm_let (fmD_take_f I (I 31 0 f.toNatClampNeg)) (fun (r8 : Int32 × fm_MI) => fm_let (fmD_die_f r8.2) (fun (r9 : fm_MI) => r9)))) else (if op = 29 then (fm_let (fmD_checkCall_f I J G pa pb aa) (fun (r10 : fm_MI) => r10)) else (fm_let (fmD_die_f I) (fun (r11 : fm_MI) => r11)))) else (if op = 26 then (fm_let (fmD_jump_f I aa 1) (fun (r12 : fm_MI) => r12)) else (fm_let (fmD_jump_f I aa 0) (fun (r13 : fm_MI) => r13)))) else (fm_let (fmD_checkFrame_f I op aa) (fun (r14 : fm_MI) => r14)))) else (fm_let (fmD_in_f op 15 17) (fun (r15 : Int32) => if r15 = 0 then (fm_let (fmD_in_f aa 0 3) (fun (r16 : Int32) => if r16 = 0 then (fm_let (fmD_wrong_f I 1) (fun (r17 : fm_MI) => r17)) else (if op ≤ 17 then (fm_let (fmD_two_f I aa aa) (fun (r18 : fm_MI) => r18)) else (fm_let (fmD_two_f I aa 0) (fun (r19 : fm_MI) => r19))))) else (fm_let (fmD_in_f aa 0 1) (fun (r20 : Int32) => if r20 = 0 then (fm_let (fmD_wrong_f I 1) (fun (r21 : fm_MI) => r21)) else (if op ≤ 17 then (fm_let (fmD_two_f I aa aa) (fun (r22 : fm_MI) => r22)) else (fm_let (fmD_two_f I aa 0) (fun (r23 : fm_MI) => r23)))))))))) else (fm_let (fmD_checkGlobal_f I op aa) (fun (r24 : fm_MI) => r24))) else (fm_let (fmD_checkLocal_f I f op aa) (fun (r25 : fm_MI) => r25))) else (fm_let (fmD_put_f I op) (fun (r26 : fm_MI) => r26))
theorem fmD_checkOne_e (I : fm_MI) (J : fm_MJ) (G : fm_MG) (pa : Nat × Nat) (pb : Nat × Nat) (f : Int32) (op : Int32) (aa : Int32) : fmD_checkOne_f I J G pa pb f op aa = if 4 ≤ op then (if 7 ≤ op then (if 9 ≤ op then (if op = 9 then (fm_let (fmD_take_f I 5) (fun (r1 : Int32 × fm_MI) => r1.2)) else (if op = 10 then (fm_let (fmD_choose_f I) (fun (r2 : fm_MI) => r2)) else (if 20 ≤ op then (if op = 20 then (fm_let (fmD_in_f aa 0 15) (fun (r3 : Int32) => if r3 = 0 then (fm_let (fmD_wrong_f I 1) (fun (r4 : fm_MI) => r4)) else (fm_let (fmD_take_f I (aa / 4)) (fun (r5 : Int32 × fm_MI) => fm_let (fmD_put_f r5.2 (aa - aa / 4 * 4)) (fun (r6 : fm_MI) => r6))))) else (if 26 ≤ op then (if 28 ≤ op then (if op = 28 then (if (I 31 0 f.toNatClampNeg) = 4 then (fm_let (fmD_die_f I) (fun (r7 : fm_MI) => r7)) else (fm_let (fmD_take_f I (I 31 0 f.toNatClampNeg)) (fun (r8 : Int32 × fm_MI) => fm_let (fmD_die_f r8.2) (fun (r9 : fm_MI) => r9)))) else (if op = 29 then (fm_let (fmD_checkCall_f I J G pa pb aa) (fun (r10 : fm_MI) => r10)) else (fm_let (fmD_die_f I) (fun (r11 : fm_MI) => r11)))) else (if op = 26 then (fm_let (fmD_jump_f I aa 1) (fun (r12 : fm_MI) => r12)) else (fm_let (fmD_jump_f I aa 0) (fun (r13 : fm_MI) => r13)))) else (fm_let (fmD_checkFrame_f I op aa) (fun (r14 : fm_MI) => r14)))) else (fm_let (fmD_in_f op 15 17) (fun (r15 : Int32) => if r15 = 0 then (fm_let (fmD_in_f aa 0 3) (fun (r16 : Int32) => if r16 = 0 then (fm_let (fmD_wrong_f I 1) (fun (r17 : fm_MI) => r17)) else (if op ≤ 17 then (fm_let (fmD_two_f I aa aa) (fun (r18 : fm_MI) => r18)) else (fm_let (fmD_two_f I aa 0) (fun (r19 : fm_MI) => r19))))) else (fm_let (fmD_in_f aa 0 1) (fun (r20 : Int32) => if r20 = 0 then (fm_let (fmD_wrong_f I 1) (fun (r21 : fm_MI) => r21)) else (if op ≤ 17 then (fm_let (fmD_two_f I aa aa) (fun (r22 : fm_MI) => r22)) else (fm_let (fmD_two_f I aa 0) (fun (r23 : fm_MI) => r23)))))))))) else (fm_let (fmD_checkGlobal_f I op aa) (fun (r24 : fm_MI) => r24))) else (fm_let (fmD_checkLocal_f I f op aa) (fun (r25 : fm_MI) => r25))) else (fm_let (fmD_put_f I op) (fun (r26 : fm_MI) => r26)) := rfl
def fmD_checkOne_p (I : fm_MI) (J : fm_MJ) (G : fm_MG) (pa : Nat × Nat) (pb : Nat × Nat) (f : Int32) (op : Int32) (aa : Int32) : Prop :=
  (4 ≤ op → (7 ≤ op → (9 ≤ op → (op = 9 → fmD_take_p I) ∧ (¬ op = 9 → (op = 10 → fmD_choose_p I) ∧ (¬ op = 10 → (20 ≤ op → (op = 20 → fm_let (fmD_in_f aa 0 15) (fun (r3 : Int32) => (r3 = 0 → True) ∧ (¬ r3 = 0 → fmD_take_p I ∧ (fm_let (fmD_take_f I (aa / 4)) (fun (r5 : Int32 × fm_MI) => fmD_put_p r5.2))))) ∧ (¬ op = 20 → (26 ≤ op → (28 ≤ op → (op = 28 → (vp_in f 4) ∧ (((I 31 0 f.toNatClampNeg) = 4 → fmD_die_p I) ∧ (¬ (I 31 0 f.toNatClampNeg) = 4 → (vp_in f 4) ∧ (fmD_take_p I ∧ (fm_let (fmD_take_f I (I 31 0 f.toNatClampNeg)) (fun (r8 : Int32 × fm_MI) => fmD_die_p r8.2)))))) ∧ (¬ op = 28 → (op = 29 → fmD_checkCall_p I J G pa pb aa) ∧ (¬ op = 29 → fmD_die_p I))) ∧ (¬ 28 ≤ op → (op = 26 → fmD_jump_p I aa 1) ∧ (¬ op = 26 → fmD_jump_p I aa 0))) ∧ (¬ 26 ≤ op → fmD_checkFrame_p I op aa))) ∧ (¬ 20 ≤ op → fm_let (fmD_in_f op 15 17) (fun (r15 : Int32) => (r15 = 0 → fm_let (fmD_in_f aa 0 3) (fun (r16 : Int32) => (r16 = 0 → True) ∧ (¬ r16 = 0 → (op ≤ 17 → fmD_two_p I aa) ∧ (¬ op ≤ 17 → fmD_two_p I aa)))) ∧ (¬ r15 = 0 → fm_let (fmD_in_f aa 0 1) (fun (r20 : Int32) => (r20 = 0 → True) ∧ (¬ r20 = 0 → (op ≤ 17 → fmD_two_p I aa) ∧ (¬ op ≤ 17 → fmD_two_p I aa))))))))) ∧ (¬ 9 ≤ op → fmD_checkGlobal_p I op aa)) ∧ (¬ 7 ≤ op → fmD_checkLocal_p I f op aa)) ∧ (¬ 4 ≤ op → fmD_put_p I)
set_option maxRecDepth 100000 in
set_option maxHeartbeats 4000000 in
theorem fmD_checkOne_c {E : fm_Ev} (hl : E.1.stackTraces = false) {d : Nat} (hd : 3 ≤ d) (I : fm_MI) (J : fm_MJ) (G : fm_MG) (pa : Nat × Nat) (pb : Nat × Nat) (f : Int32) (op : Int32) (aa : Int32) (hp : fmD_checkOne_p I J G pa pb f op aa) : fm_Ct E d fmD_checkOne 0 [.inr (.inr (.inr (.inr (24, 0)))), .inl f, .inl op, .inl aa] (I, J, G, fm_P pa pb) none (fmD_checkOne_f I J G pa pb f op aa, J, G, fm_P pa pb) := by
  obtain ⟨d, rfl⟩ : ∃ d', d = d' + 1 := ⟨d - 1, by omega⟩
  refine fm_ct fmD_checkOne_o hl (Nat.le_of_ble_eq_true rfl) ?_
  have O := fmD_checkOne_o.1
  unfold fmD_checkOne_p at hp
  have he := fmD_checkOne_e I J G pa pb f op aa
  refine fm_gr O 2 (C' := (2, [(0, .inr (.inr (.inr (.inr (24, 0))))), (1, .inl f), (2, .inl op), (3, .inl aa)], [.inl 4, .inl op], (I, J, G, fm_P pa pb))) rfl ?_
  refine fm_gb O rfl (fun h => ?_) (fun h => ?_)
  · have h1 : 4 ≤ op := h
    have he := he.trans (if_pos h1)
    have hp := hp.1 h1
    refine fm_gr O 2 (C' := (16, [(0, .inr (.inr (.inr (.inr (24, 0))))), (1, .inl f), (2, .inl op), (3, .inl aa)], [.inl 7, .inl op], (I, J, G, fm_P pa pb))) rfl ?_
    refine fm_gb O rfl (fun h => ?_) (fun h => ?_)
    · have h2 : 7 ≤ op := h
      have he := he.trans (if_pos h2)
      have hp := hp.1 h2
      refine fm_gr O 2 (C' := (32, [(0, .inr (.inr (.inr (.inr (24, 0))))), (1, .inl f), (2, .inl op), (3, .inl aa)], [.inl 9, .inl op], (I, J, G, fm_P pa pb))) rfl ?_
      refine fm_gb O rfl (fun h => ?_) (fun h => ?_)
      · have h3 : 9 ≤ op := h
        have he := he.trans (if_pos h3)
        have hp := hp.1 h3
        refine fm_gr O 2 (C' := (47, [(0, .inr (.inr (.inr (.inr (24, 0))))), (1, .inl f), (2, .inl op), (3, .inl aa)], [.inl 9, .inl op], (I, J, G, fm_P pa pb))) rfl ?_
        refine fm_gb O rfl (fun h => ?_) (fun h => ?_)
        · have h4 : op = 9 := h
          have he := he.trans (if_pos h4)
          have hp := hp.1 h4
          refine fm_gr O 2 (C' := (52, [(0, .inr (.inr (.inr (.inr (24, 0))))), (1, .inl f), (2, .inl op), (3, .inl aa)], [.inl 5, .inr (.inr (.inr (.inr (24, 0))))], (I, J, G, fm_P pa pb))) rfl ?_
          have K := fmD_take_c (d := d) hl (by omega) I J G pa pb 5 hp
          generalize er1 : fmD_take_f I 5 = r1 at he
          have he := he.trans (fm_letE _ _)
          rw [er1] at K
          refine fm_cV0 O fmD_take_o (i := 0) (as := [.inl 5]) (rest := []) (v := some (.inl r1.1)) rfl fk_6_111 rfl (by decide) fn_D_take (Nat.le_of_ble_eq_true rfl) (K) ?_
          refine fm_gr O 2 (C' := (266, [(4, .inl r1.1), (0, .inr (.inr (.inr (.inr (24, 0))))), (1, .inl f), (2, .inl op), (3, .inl aa)], [], (r1.2, J, G, fm_P pa pb))) rfl ?_
          exact fm_gRe O rfl trivial (by first | (rw [he]; done) | (rw [he]; rfl) | rfl) (by first | (rw [he]; done) | (rw [he]; rfl) | rfl)
        · have h4 : ¬ op = 9 := h
          have he := he.trans (if_neg h4)
          have hp := hp.2 h4
          refine fm_gr O 2 (C' := (63, [(0, .inr (.inr (.inr (.inr (24, 0))))), (1, .inl f), (2, .inl op), (3, .inl aa)], [.inl 10, .inl op], (I, J, G, fm_P pa pb))) rfl ?_
          refine fm_gb O rfl (fun h => ?_) (fun h => ?_)
          · have h5 : op = 10 := h
            have he := he.trans (if_pos h5)
            have hp := hp.1 h5
            refine fm_gr O 1 (C' := (67, [(0, .inr (.inr (.inr (.inr (24, 0))))), (1, .inl f), (2, .inl op), (3, .inl aa)], [.inr (.inr (.inr (.inr (24, 0))))], (I, J, G, fm_P pa pb))) rfl ?_
            have K := fmD_choose_c (d := d) hl (by omega) I J G pa pb hp
            generalize er2 : fmD_choose_f I = r2 at he
            have he := he.trans (fm_letE _ _)
            rw [er2] at K
            refine fm_cV0 O fmD_choose_o (i := 0) (as := []) (rest := []) (v := none) rfl fk_6_139 rfl (by decide) fn_D_choose (Nat.le_of_ble_eq_true rfl) (K) ?_
            refine fm_gr O 1 (C' := (266, [(0, .inr (.inr (.inr (.inr (24, 0))))), (1, .inl f), (2, .inl op), (3, .inl aa)], [], (r2, J, G, fm_P pa pb))) rfl ?_
            exact fm_gRe O rfl trivial (by first | (rw [he]; done) | (rw [he]; rfl) | rfl) (by first | (rw [he]; done) | (rw [he]; rfl) | rfl)
          · have h5 : ¬ op = 10 := h
            have he := he.trans (if_neg h5)
            have hp := hp.2 h5
            refine fm_gr O 2 (C' := (76, [(0, .inr (.inr (.inr (.inr (24, 0))))), (1, .inl f), (2, .inl op), (3, .inl aa)], [.inl 20, .inl op], (I, J, G, fm_P pa pb))) rfl ?_
            refine fm_gb O rfl (fun h => ?_) (fun h => ?_)
            · have h6 : 20 ≤ op := h
              have he := he.trans (if_pos h6)
              have hp := hp.1 h6
              refine fm_gr O 2 (C' := (133, [(0, .inr (.inr (.inr (.inr (24, 0))))), (1, .inl f), (2, .inl op), (3, .inl aa)], [.inl 20, .inl op], (I, J, G, fm_P pa pb))) rfl ?_
              refine fm_gb O rfl (fun h => ?_) (fun h => ?_)
              · have h7 : op = 20 := h
                have he := he.trans (if_pos h7)
                have hp := hp.1 h7
                refine fm_gr O 3 (C' := (140, [(0, .inr (.inr (.inr (.inr (24, 0))))), (1, .inl f), (2, .inl op), (3, .inl aa)], [.inl 15, .inl 0, .inl aa], (I, J, G, fm_P pa pb))) rfl ?_
                have K := fmD_in_c (d := d) hl (by omega) I J G pa pb aa 0 15
                generalize er3 : fmD_in_f aa 0 15 = r3 at he hp
                have he := he.trans (fm_letE _ _)
                have hp := fm_letP hp
                rw [er3] at K
                refine fm_cS0 O fmD_in_o (as := [.inl aa, .inl 0, .inl 15]) (rest := []) (v := some (.inl r3)) rfl fk_6_86 fn_D_in (Nat.le_of_ble_eq_true rfl) (K) ?_
                refine fm_gb O rfl (fun h => ?_) (fun h => ?_)
                · have h8 : r3 = 0 := h
                  have he := he.trans (if_pos h8)
                  refine fm_gr O 2 (C' := (148, [(0, .inr (.inr (.inr (.inr (24, 0))))), (1, .inl f), (2, .inl op), (3, .inl aa)], [.inl 1, .inr (.inr (.inr (.inr (24, 0))))], (I, J, G, fm_P pa pb))) rfl ?_
                  have K := fmD_wrong_c (d := d) hl (by omega) I J G pa pb 1
                  generalize er4 : fmD_wrong_f I 1 = r4 at he
                  have he := he.trans (fm_letE _ _)
                  rw [er4] at K
                  refine fm_cV0 O fmD_wrong_o (i := 0) (as := [.inl 1]) (rest := []) (v := none) rfl fk_6_115 rfl (by decide) fn_D_wrong (Nat.le_of_ble_eq_true rfl) (K) ?_
                  refine fm_gr O 1 (C' := (266, [(0, .inr (.inr (.inr (.inr (24, 0))))), (1, .inl f), (2, .inl op), (3, .inl aa)], [], (r4, J, G, fm_P pa pb))) rfl ?_
                  exact fm_gRe O rfl trivial (by first | (rw [he]; done) | (rw [he]; rfl) | rfl) (by first | (rw [he]; done) | (rw [he]; rfl) | rfl)
                · have h8 : ¬ r3 = 0 := h
                  have he := he.trans (if_neg h8)
                  have hp := hp.2 h8
                  refine fm_gr O 3 (C' := (157, [(0, .inr (.inr (.inr (.inr (24, 0))))), (1, .inl f), (2, .inl op), (3, .inl aa)], [.inl 4, .inl aa, .inr (.inr (.inr (.inr (24, 0))))], (I, J, G, fm_P pa pb))) rfl ?_
                  refine fm_gg O rfl (show ¬ (4 : Int32) = 0 by decide) ?_
                  have hc := hp.1
                  have hp := hp.2
                  have K := fmD_take_c (d := d) hl (by omega) I J G pa pb (aa / 4) hc
                  generalize er5 : fmD_take_f I (aa / 4) = r5 at he hp
                  have he := he.trans (fm_letE _ _)
                  have hp := fm_letP hp
                  rw [er5] at K
                  refine fm_cV0 O fmD_take_o (i := 0) (as := [.inl (aa / 4)]) (rest := []) (v := some (.inl r5.1)) rfl fk_6_111 rfl (by decide) fn_D_take (Nat.le_of_ble_eq_true rfl) (K) ?_
                  refine fm_gr O 4 (C' := (166, [(4, .inl r5.1), (0, .inr (.inr (.inr (.inr (24, 0))))), (1, .inl f), (2, .inl op), (3, .inl aa)], [.inl 4, .inl aa, .inr (.inr (.inr (.inr (24, 0))))], (r5.2, J, G, fm_P pa pb))) rfl ?_
                  refine fm_gg O rfl (show ¬ (4 : Int32) = 0 by decide) ?_
                  have K := fmD_put_c (d := d) hl (by omega) r5.2 J G pa pb (aa - aa / 4 * 4) hp
                  generalize er6 : fmD_put_f r5.2 (aa - aa / 4 * 4) = r6 at he
                  have he := he.trans (fm_letE _ _)
                  rw [er6] at K
                  refine fm_cV0 O fmD_put_o (i := 0) (as := [.inl (aa - aa / 4 * 4)]) (rest := []) (v := none) rfl fk_6_119 rfl (by decide) fn_D_put (Nat.le_of_ble_eq_true rfl) (K) ?_
                  refine fm_gr O 1 (C' := (266, [(4, .inl r5.1), (0, .inr (.inr (.inr (.inr (24, 0))))), (1, .inl f), (2, .inl op), (3, .inl aa)], [], (r6, J, G, fm_P pa pb))) rfl ?_
                  exact fm_gRe O rfl trivial (by first | (rw [he]; done) | (rw [he]; rfl) | rfl) (by first | (rw [he]; done) | (rw [he]; rfl) | rfl)
              · have h7 : ¬ op = 20 := h
                have he := he.trans (if_neg h7)
                have hp := hp.2 h7
                refine fm_gr O 2 (C' := (176, [(0, .inr (.inr (.inr (.inr (24, 0))))), (1, .inl f), (2, .inl op), (3, .inl aa)], [.inl 26, .inl op], (I, J, G, fm_P pa pb))) rfl ?_
                refine fm_gb O rfl (fun h => ?_) (fun h => ?_)
                · have h8 : 26 ≤ op := h
                  have he := he.trans (if_pos h8)
                  have hp := hp.1 h8
                  refine fm_gr O 2 (C' := (191, [(0, .inr (.inr (.inr (.inr (24, 0))))), (1, .inl f), (2, .inl op), (3, .inl aa)], [.inl 28, .inl op], (I, J, G, fm_P pa pb))) rfl ?_
                  refine fm_gb O rfl (fun h => ?_) (fun h => ?_)
                  · have h9 : 28 ≤ op := h
                    have he := he.trans (if_pos h9)
                    have hp := hp.1 h9
                    refine fm_gr O 2 (C' := (216, [(0, .inr (.inr (.inr (.inr (24, 0))))), (1, .inl f), (2, .inl op), (3, .inl aa)], [.inl 28, .inl op], (I, J, G, fm_P pa pb))) rfl ?_
                    refine fm_gb O rfl (fun h => ?_) (fun h => ?_)
                    · have h10 : op = 28 := h
                      have he := he.trans (if_pos h10)
                      have hp := hp.1 h10
                      refine fm_gr O 3 (C' := (224, [(0, .inr (.inr (.inr (.inr (24, 0))))), (1, .inl f), (2, .inl op), (3, .inl aa)], [.inl f, .inr (.inr (.inr (.inr (31, 0))))], (I, J, G, fm_P pa pb))) rfl ?_
                      refine fm_gg O rfl hp.1 ?_
                      have hp := hp.2
                      refine fm_gr O 1 (C' := (226, [(0, .inr (.inr (.inr (.inr (24, 0))))), (1, .inl f), (2, .inl op), (3, .inl aa)], [.inl 4, .inl (I 31 0 f.toNatClampNeg)], (I, J, G, fm_P pa pb))) rfl ?_
                      refine fm_gb O rfl (fun h => ?_) (fun h => ?_)
                      · have h11 : (I 31 0 f.toNatClampNeg) = 4 := h
                        have he := he.trans (if_pos h11)
                        have hp := hp.1 h11
                        refine fm_gr O 1 (C' := (242, [(0, .inr (.inr (.inr (.inr (24, 0))))), (1, .inl f), (2, .inl op), (3, .inl aa)], [.inr (.inr (.inr (.inr (24, 0))))], (I, J, G, fm_P pa pb))) rfl ?_
                        have K := fmD_die_c (d := d) hl (by omega) I J G pa pb hp
                        generalize er7 : fmD_die_f I = r7 at he
                        have he := he.trans (fm_letE _ _)
                        rw [er7] at K
                        refine fm_cV0 O fmD_die_o (i := 0) (as := []) (rest := []) (v := none) rfl fk_6_122 rfl (by decide) fn_D_die (Nat.le_of_ble_eq_true rfl) (K) ?_
                        refine fm_gr O 1 (C' := (266, [(0, .inr (.inr (.inr (.inr (24, 0))))), (1, .inl f), (2, .inl op), (3, .inl aa)], [], (r7, J, G, fm_P pa pb))) rfl ?_
                        exact fm_gRe O rfl trivial (by first | (rw [he]; done) | (rw [he]; rfl) | rfl) (by first | (rw [he]; done) | (rw [he]; rfl) | rfl)
                      · have h11 : ¬ (I 31 0 f.toNatClampNeg) = 4 := h
                        have he := he.trans (if_neg h11)
                        have hp := hp.2 h11
                        refine fm_gr O 4 (C' := (235, [(0, .inr (.inr (.inr (.inr (24, 0))))), (1, .inl f), (2, .inl op), (3, .inl aa)], [.inl f, .inr (.inr (.inr (.inr (31, 0)))), .inr (.inr (.inr (.inr (24, 0))))], (I, J, G, fm_P pa pb))) rfl ?_
                        refine fm_gg O rfl hp.1 ?_
                        have hp := hp.2
                        have hc := hp.1
                        have hp := hp.2
                        have K := fmD_take_c (d := d) hl (by omega) I J G pa pb (I 31 0 f.toNatClampNeg) hc
                        generalize er8 : fmD_take_f I (I 31 0 f.toNatClampNeg) = r8 at he hp
                        have he := he.trans (fm_letE _ _)
                        have hp := fm_letP hp
                        rw [er8] at K
                        refine fm_cV0 O fmD_take_o (i := 0) (as := [.inl (I 31 0 f.toNatClampNeg)]) (rest := []) (v := some (.inl r8.1)) rfl fk_6_111 rfl (by decide) fn_D_take (Nat.le_of_ble_eq_true rfl) (K) ?_
                        refine fm_gr O 2 (C' := (242, [(4, .inl r8.1), (0, .inr (.inr (.inr (.inr (24, 0))))), (1, .inl f), (2, .inl op), (3, .inl aa)], [.inr (.inr (.inr (.inr (24, 0))))], (r8.2, J, G, fm_P pa pb))) rfl ?_
                        have K := fmD_die_c (d := d) hl (by omega) r8.2 J G pa pb hp
                        generalize er9 : fmD_die_f r8.2 = r9 at he
                        have he := he.trans (fm_letE _ _)
                        rw [er9] at K
                        refine fm_cV0 O fmD_die_o (i := 0) (as := []) (rest := []) (v := none) rfl fk_6_122 rfl (by decide) fn_D_die (Nat.le_of_ble_eq_true rfl) (K) ?_
                        refine fm_gr O 1 (C' := (266, [(4, .inl r8.1), (0, .inr (.inr (.inr (.inr (24, 0))))), (1, .inl f), (2, .inl op), (3, .inl aa)], [], (r9, J, G, fm_P pa pb))) rfl ?_
                        exact fm_gRe O rfl trivial (by first | (rw [he]; done) | (rw [he]; rfl) | rfl) (by first | (rw [he]; done) | (rw [he]; rfl) | rfl)
                    · have h10 : ¬ op = 28 := h
                      have he := he.trans (if_neg h10)
                      have hp := hp.2 h10
                      refine fm_gr O 2 (C' := (251, [(0, .inr (.inr (.inr (.inr (24, 0))))), (1, .inl f), (2, .inl op), (3, .inl aa)], [.inl 29, .inl op], (I, J, G, fm_P pa pb))) rfl ?_
                      refine fm_gb O rfl (fun h => ?_) (fun h => ?_)
                      · have h11 : op = 29 := h
                        have he := he.trans (if_pos h11)
                        have hp := hp.1 h11
                        refine fm_gr O 2 (C' := (256, [(0, .inr (.inr (.inr (.inr (24, 0))))), (1, .inl f), (2, .inl op), (3, .inl aa)], [.inl aa, .inr (.inr (.inr (.inr (24, 0))))], (I, J, G, fm_P pa pb))) rfl ?_
                        have K := fmD_checkCall_c (d := d) hl (by omega) I J G pa pb aa hp
                        generalize er10 : fmD_checkCall_f I J G pa pb aa = r10 at he
                        have he := he.trans (fm_letE _ _)
                        rw [er10] at K
                        refine fm_cV0 O fmD_checkCall_o (i := 0) (as := [.inl aa]) (rest := []) (v := none) rfl fk_6_152 rfl (by decide) fn_D_checkCall (Nat.le_of_ble_eq_true rfl) (K) ?_
                        refine fm_gr O 1 (C' := (266, [(0, .inr (.inr (.inr (.inr (24, 0))))), (1, .inl f), (2, .inl op), (3, .inl aa)], [], (r10, J, G, fm_P pa pb))) rfl ?_
                        exact fm_gRe O rfl trivial (by first | (rw [he]; done) | (rw [he]; rfl) | rfl) (by first | (rw [he]; done) | (rw [he]; rfl) | rfl)
                      · have h11 : ¬ op = 29 := h
                        have he := he.trans (if_neg h11)
                        have hp := hp.2 h11
                        refine fm_gr O 1 (C' := (263, [(0, .inr (.inr (.inr (.inr (24, 0))))), (1, .inl f), (2, .inl op), (3, .inl aa)], [.inr (.inr (.inr (.inr (24, 0))))], (I, J, G, fm_P pa pb))) rfl ?_
                        have K := fmD_die_c (d := d) hl (by omega) I J G pa pb hp
                        generalize er11 : fmD_die_f I = r11 at he
                        have he := he.trans (fm_letE _ _)
                        rw [er11] at K
                        refine fm_cV0 O fmD_die_o (i := 0) (as := []) (rest := []) (v := none) rfl fk_6_122 rfl (by decide) fn_D_die (Nat.le_of_ble_eq_true rfl) (K) ?_
                        exact fm_gRe O rfl trivial (by first | (rw [he]; done) | (rw [he]; rfl) | rfl) (by first | (rw [he]; done) | (rw [he]; rfl) | rfl)
                  · have h9 : ¬ 28 ≤ op := h
                    have he := he.trans (if_neg h9)
                    have hp := hp.2 h9
                    refine fm_gr O 4 (C' := (199, [(0, .inr (.inr (.inr (.inr (24, 0))))), (1, .inl f), (2, .inl op), (3, .inl aa)], [.inl 26, .inl op, .inl aa, .inr (.inr (.inr (.inr (24, 0))))], (I, J, G, fm_P pa pb))) rfl ?_
                    refine fm_gb O rfl (fun h => ?_) (fun h => ?_)
                    · have h10 : op = 26 := h
                      have he := he.trans (if_pos h10)
                      have hp := hp.1 h10
                      refine fm_gr O 2 (C' := (207, [(0, .inr (.inr (.inr (.inr (24, 0))))), (1, .inl f), (2, .inl op), (3, .inl aa)], [.inl 1, .inl aa, .inr (.inr (.inr (.inr (24, 0))))], (I, J, G, fm_P pa pb))) rfl ?_
                      have K := fmD_jump_c (d := d) hl (by omega) I J G pa pb aa 1 hp
                      generalize er12 : fmD_jump_f I aa 1 = r12 at he
                      have he := he.trans (fm_letE _ _)
                      rw [er12] at K
                      refine fm_cV0 O fmD_jump_o (i := 0) (as := [.inl aa, .inl 1]) (rest := []) (v := none) rfl fk_6_148 rfl (by decide) fn_D_jump (Nat.le_of_ble_eq_true rfl) (K) ?_
                      refine fm_gr O 1 (C' := (266, [(0, .inr (.inr (.inr (.inr (24, 0))))), (1, .inl f), (2, .inl op), (3, .inl aa)], [], (r12, J, G, fm_P pa pb))) rfl ?_
                      exact fm_gRe O rfl trivial (by first | (rw [he]; done) | (rw [he]; rfl) | rfl) (by first | (rw [he]; done) | (rw [he]; rfl) | rfl)
                    · have h10 : ¬ op = 26 := h
                      have he := he.trans (if_neg h10)
                      have hp := hp.2 h10
                      refine fm_gr O 1 (C' := (207, [(0, .inr (.inr (.inr (.inr (24, 0))))), (1, .inl f), (2, .inl op), (3, .inl aa)], [.inl 0, .inl aa, .inr (.inr (.inr (.inr (24, 0))))], (I, J, G, fm_P pa pb))) rfl ?_
                      have K := fmD_jump_c (d := d) hl (by omega) I J G pa pb aa 0 hp
                      generalize er13 : fmD_jump_f I aa 0 = r13 at he
                      have he := he.trans (fm_letE _ _)
                      rw [er13] at K
                      refine fm_cV0 O fmD_jump_o (i := 0) (as := [.inl aa, .inl 0]) (rest := []) (v := none) rfl fk_6_148 rfl (by decide) fn_D_jump (Nat.le_of_ble_eq_true rfl) (K) ?_
                      refine fm_gr O 1 (C' := (266, [(0, .inr (.inr (.inr (.inr (24, 0))))), (1, .inl f), (2, .inl op), (3, .inl aa)], [], (r13, J, G, fm_P pa pb))) rfl ?_
                      exact fm_gRe O rfl trivial (by first | (rw [he]; done) | (rw [he]; rfl) | rfl) (by first | (rw [he]; done) | (rw [he]; rfl) | rfl)
                · have h8 : ¬ 26 ≤ op := h
                  have he := he.trans (if_neg h8)
                  have hp := hp.2 h8
                  refine fm_gr O 3 (C' := (182, [(0, .inr (.inr (.inr (.inr (24, 0))))), (1, .inl f), (2, .inl op), (3, .inl aa)], [.inl aa, .inl op, .inr (.inr (.inr (.inr (24, 0))))], (I, J, G, fm_P pa pb))) rfl ?_
                  have K := fmD_checkFrame_c (d := d) hl (by omega) I J G pa pb op aa hp
                  generalize er14 : fmD_checkFrame_f I op aa = r14 at he
                  have he := he.trans (fm_letE _ _)
                  rw [er14] at K
                  refine fm_cV0 O fmD_checkFrame_o (i := 0) (as := [.inl op, .inl aa]) (rest := []) (v := none) rfl fk_6_145 rfl (by decide) fn_D_checkFrame (Nat.le_of_ble_eq_true rfl) (K) ?_
                  refine fm_gr O 1 (C' := (266, [(0, .inr (.inr (.inr (.inr (24, 0))))), (1, .inl f), (2, .inl op), (3, .inl aa)], [], (r14, J, G, fm_P pa pb))) rfl ?_
                  exact fm_gRe O rfl trivial (by first | (rw [he]; done) | (rw [he]; rfl) | rfl) (by first | (rw [he]; done) | (rw [he]; rfl) | rfl)
            · have h6 : ¬ 20 ≤ op := h
              have he := he.trans (if_neg h6)
              have hp := hp.2 h6
              refine fm_gr O 5 (C' := (86, [(0, .inr (.inr (.inr (.inr (24, 0))))), (1, .inl f), (2, .inl op), (3, .inl aa)], [.inl 17, .inl 15, .inl op, .inl 0, .inl aa], (I, J, G, fm_P pa pb))) rfl ?_
              have K := fmD_in_c (d := d) hl (by omega) I J G pa pb op 15 17
              generalize er15 : fmD_in_f op 15 17 = r15 at he hp
              have he := he.trans (fm_letE _ _)
              have hp := fm_letP hp
              rw [er15] at K
              refine fm_cS0 O fmD_in_o (as := [.inl op, .inl 15, .inl 17]) (rest := [.inl 0, .inl aa]) (v := some (.inl r15)) rfl fk_6_86 fn_D_in (Nat.le_of_ble_eq_true rfl) (K) ?_
              refine fm_gb O rfl (fun h => ?_) (fun h => ?_)
              · have h7 : r15 = 0 := h
                have he := he.trans (if_pos h7)
                have hp := hp.1 h7
                refine fm_gr O 1 (C' := (97, [(0, .inr (.inr (.inr (.inr (24, 0))))), (1, .inl f), (2, .inl op), (3, .inl aa)], [.inl 3, .inl 0, .inl aa], (I, J, G, fm_P pa pb))) rfl ?_
                have K := fmD_in_c (d := d) hl (by omega) I J G pa pb aa 0 3
                generalize er16 : fmD_in_f aa 0 3 = r16 at he hp
                have he := he.trans (fm_letE _ _)
                have hp := fm_letP hp
                rw [er16] at K
                refine fm_cS0 O fmD_in_o (as := [.inl aa, .inl 0, .inl 3]) (rest := []) (v := some (.inl r16)) rfl fk_6_86 fn_D_in (Nat.le_of_ble_eq_true rfl) (K) ?_
                refine fm_gb O rfl (fun h => ?_) (fun h => ?_)
                · have h8 : r16 = 0 := h
                  have he := he.trans (if_pos h8)
                  refine fm_gr O 2 (C' := (105, [(0, .inr (.inr (.inr (.inr (24, 0))))), (1, .inl f), (2, .inl op), (3, .inl aa)], [.inl 1, .inr (.inr (.inr (.inr (24, 0))))], (I, J, G, fm_P pa pb))) rfl ?_
                  have K := fmD_wrong_c (d := d) hl (by omega) I J G pa pb 1
                  generalize er17 : fmD_wrong_f I 1 = r17 at he
                  have he := he.trans (fm_letE _ _)
                  rw [er17] at K
                  refine fm_cV0 O fmD_wrong_o (i := 0) (as := [.inl 1]) (rest := []) (v := none) rfl fk_6_115 rfl (by decide) fn_D_wrong (Nat.le_of_ble_eq_true rfl) (K) ?_
                  refine fm_gr O 1 (C' := (266, [(0, .inr (.inr (.inr (.inr (24, 0))))), (1, .inl f), (2, .inl op), (3, .inl aa)], [], (r17, J, G, fm_P pa pb))) rfl ?_
                  exact fm_gRe O rfl trivial (by first | (rw [he]; done) | (rw [he]; rfl) | rfl) (by first | (rw [he]; done) | (rw [he]; rfl) | rfl)
                · have h8 : ¬ r16 = 0 := h
                  have he := he.trans (if_neg h8)
                  have hp := hp.2 h8
                  refine fm_gr O 4 (C' := (116, [(0, .inr (.inr (.inr (.inr (24, 0))))), (1, .inl f), (2, .inl op), (3, .inl aa)], [.inl 17, .inl op, .inl aa, .inr (.inr (.inr (.inr (24, 0))))], (I, J, G, fm_P pa pb))) rfl ?_
                  refine fm_gb O rfl (fun h => ?_) (fun h => ?_)
                  · have h9 : op ≤ 17 := h
                    have he := he.trans (if_pos h9)
                    have hp := hp.1 h9
                    refine fm_gr O 1 (C' := (124, [(0, .inr (.inr (.inr (.inr (24, 0))))), (1, .inl f), (2, .inl op), (3, .inl aa)], [.inl aa, .inl aa, .inr (.inr (.inr (.inr (24, 0))))], (I, J, G, fm_P pa pb))) rfl ?_
                    have K := fmD_two_c (d := d) hl (by omega) I J G pa pb aa aa hp
                    generalize er18 : fmD_two_f I aa aa = r18 at he
                    have he := he.trans (fm_letE _ _)
                    rw [er18] at K
                    refine fm_cV0 O fmD_two_o (i := 0) (as := [.inl aa, .inl aa]) (rest := []) (v := none) rfl fk_6_142 rfl (by decide) fn_D_two (Nat.le_of_ble_eq_true rfl) (K) ?_
                    refine fm_gr O 1 (C' := (266, [(0, .inr (.inr (.inr (.inr (24, 0))))), (1, .inl f), (2, .inl op), (3, .inl aa)], [], (r18, J, G, fm_P pa pb))) rfl ?_
                    exact fm_gRe O rfl trivial (by first | (rw [he]; done) | (rw [he]; rfl) | rfl) (by first | (rw [he]; done) | (rw [he]; rfl) | rfl)
                  · have h9 : ¬ op ≤ 17 := h
                    have he := he.trans (if_neg h9)
                    have hp := hp.2 h9
                    refine fm_gr O 2 (C' := (124, [(0, .inr (.inr (.inr (.inr (24, 0))))), (1, .inl f), (2, .inl op), (3, .inl aa)], [.inl 0, .inl aa, .inr (.inr (.inr (.inr (24, 0))))], (I, J, G, fm_P pa pb))) rfl ?_
                    have K := fmD_two_c (d := d) hl (by omega) I J G pa pb aa 0 hp
                    generalize er19 : fmD_two_f I aa 0 = r19 at he
                    have he := he.trans (fm_letE _ _)
                    rw [er19] at K
                    refine fm_cV0 O fmD_two_o (i := 0) (as := [.inl aa, .inl 0]) (rest := []) (v := none) rfl fk_6_142 rfl (by decide) fn_D_two (Nat.le_of_ble_eq_true rfl) (K) ?_
                    refine fm_gr O 1 (C' := (266, [(0, .inr (.inr (.inr (.inr (24, 0))))), (1, .inl f), (2, .inl op), (3, .inl aa)], [], (r19, J, G, fm_P pa pb))) rfl ?_
                    exact fm_gRe O rfl trivial (by first | (rw [he]; done) | (rw [he]; rfl) | rfl) (by first | (rw [he]; done) | (rw [he]; rfl) | rfl)
              · have h7 : ¬ r15 = 0 := h
                have he := he.trans (if_neg h7)
                have hp := hp.2 h7
                refine fm_gr O 2 (C' := (97, [(0, .inr (.inr (.inr (.inr (24, 0))))), (1, .inl f), (2, .inl op), (3, .inl aa)], [.inl 1, .inl 0, .inl aa], (I, J, G, fm_P pa pb))) rfl ?_
                have K := fmD_in_c (d := d) hl (by omega) I J G pa pb aa 0 1
                generalize er20 : fmD_in_f aa 0 1 = r20 at he hp
                have he := he.trans (fm_letE _ _)
                have hp := fm_letP hp
                rw [er20] at K
                refine fm_cS0 O fmD_in_o (as := [.inl aa, .inl 0, .inl 1]) (rest := []) (v := some (.inl r20)) rfl fk_6_86 fn_D_in (Nat.le_of_ble_eq_true rfl) (K) ?_
                refine fm_gb O rfl (fun h => ?_) (fun h => ?_)
                · have h8 : r20 = 0 := h
                  have he := he.trans (if_pos h8)
                  refine fm_gr O 2 (C' := (105, [(0, .inr (.inr (.inr (.inr (24, 0))))), (1, .inl f), (2, .inl op), (3, .inl aa)], [.inl 1, .inr (.inr (.inr (.inr (24, 0))))], (I, J, G, fm_P pa pb))) rfl ?_
                  have K := fmD_wrong_c (d := d) hl (by omega) I J G pa pb 1
                  generalize er21 : fmD_wrong_f I 1 = r21 at he
                  have he := he.trans (fm_letE _ _)
                  rw [er21] at K
                  refine fm_cV0 O fmD_wrong_o (i := 0) (as := [.inl 1]) (rest := []) (v := none) rfl fk_6_115 rfl (by decide) fn_D_wrong (Nat.le_of_ble_eq_true rfl) (K) ?_
                  refine fm_gr O 1 (C' := (266, [(0, .inr (.inr (.inr (.inr (24, 0))))), (1, .inl f), (2, .inl op), (3, .inl aa)], [], (r21, J, G, fm_P pa pb))) rfl ?_
                  exact fm_gRe O rfl trivial (by first | (rw [he]; done) | (rw [he]; rfl) | rfl) (by first | (rw [he]; done) | (rw [he]; rfl) | rfl)
                · have h8 : ¬ r20 = 0 := h
                  have he := he.trans (if_neg h8)
                  have hp := hp.2 h8
                  refine fm_gr O 4 (C' := (116, [(0, .inr (.inr (.inr (.inr (24, 0))))), (1, .inl f), (2, .inl op), (3, .inl aa)], [.inl 17, .inl op, .inl aa, .inr (.inr (.inr (.inr (24, 0))))], (I, J, G, fm_P pa pb))) rfl ?_
                  refine fm_gb O rfl (fun h => ?_) (fun h => ?_)
                  · have h9 : op ≤ 17 := h
                    have he := he.trans (if_pos h9)
                    have hp := hp.1 h9
                    refine fm_gr O 1 (C' := (124, [(0, .inr (.inr (.inr (.inr (24, 0))))), (1, .inl f), (2, .inl op), (3, .inl aa)], [.inl aa, .inl aa, .inr (.inr (.inr (.inr (24, 0))))], (I, J, G, fm_P pa pb))) rfl ?_
                    have K := fmD_two_c (d := d) hl (by omega) I J G pa pb aa aa hp
                    generalize er22 : fmD_two_f I aa aa = r22 at he
                    have he := he.trans (fm_letE _ _)
                    rw [er22] at K
                    refine fm_cV0 O fmD_two_o (i := 0) (as := [.inl aa, .inl aa]) (rest := []) (v := none) rfl fk_6_142 rfl (by decide) fn_D_two (Nat.le_of_ble_eq_true rfl) (K) ?_
                    refine fm_gr O 1 (C' := (266, [(0, .inr (.inr (.inr (.inr (24, 0))))), (1, .inl f), (2, .inl op), (3, .inl aa)], [], (r22, J, G, fm_P pa pb))) rfl ?_
                    exact fm_gRe O rfl trivial (by first | (rw [he]; done) | (rw [he]; rfl) | rfl) (by first | (rw [he]; done) | (rw [he]; rfl) | rfl)
                  · have h9 : ¬ op ≤ 17 := h
                    have he := he.trans (if_neg h9)
                    have hp := hp.2 h9
                    refine fm_gr O 2 (C' := (124, [(0, .inr (.inr (.inr (.inr (24, 0))))), (1, .inl f), (2, .inl op), (3, .inl aa)], [.inl 0, .inl aa, .inr (.inr (.inr (.inr (24, 0))))], (I, J, G, fm_P pa pb))) rfl ?_
                    have K := fmD_two_c (d := d) hl (by omega) I J G pa pb aa 0 hp
                    generalize er23 : fmD_two_f I aa 0 = r23 at he
                    have he := he.trans (fm_letE _ _)
                    rw [er23] at K
                    refine fm_cV0 O fmD_two_o (i := 0) (as := [.inl aa, .inl 0]) (rest := []) (v := none) rfl fk_6_142 rfl (by decide) fn_D_two (Nat.le_of_ble_eq_true rfl) (K) ?_
                    refine fm_gr O 1 (C' := (266, [(0, .inr (.inr (.inr (.inr (24, 0))))), (1, .inl f), (2, .inl op), (3, .inl aa)], [], (r23, J, G, fm_P pa pb))) rfl ?_
                    exact fm_gRe O rfl trivial (by first | (rw [he]; done) | (rw [he]; rfl) | rfl) (by first | (rw [he]; done) | (rw [he]; rfl) | rfl)
      · have h3 : ¬ 9 ≤ op := h
        have he := he.trans (if_neg h3)
        have hp := hp.2 h3
        refine fm_gr O 3 (C' := (38, [(0, .inr (.inr (.inr (.inr (24, 0))))), (1, .inl f), (2, .inl op), (3, .inl aa)], [.inl aa, .inl op, .inr (.inr (.inr (.inr (24, 0))))], (I, J, G, fm_P pa pb))) rfl ?_
        have K := fmD_checkGlobal_c (d := d) hl (by omega) I J G pa pb op aa hp
        generalize er24 : fmD_checkGlobal_f I op aa = r24 at he
        have he := he.trans (fm_letE _ _)
        rw [er24] at K
        refine fm_cV0 O fmD_checkGlobal_o (i := 0) (as := [.inl op, .inl aa]) (rest := []) (v := none) rfl fk_6_136 rfl (by decide) fn_D_checkGlobal (Nat.le_of_ble_eq_true rfl) (K) ?_
        refine fm_gr O 1 (C' := (266, [(0, .inr (.inr (.inr (.inr (24, 0))))), (1, .inl f), (2, .inl op), (3, .inl aa)], [], (r24, J, G, fm_P pa pb))) rfl ?_
        exact fm_gRe O rfl trivial (by first | (rw [he]; done) | (rw [he]; rfl) | rfl) (by first | (rw [he]; done) | (rw [he]; rfl) | rfl)
    · have h2 : ¬ 7 ≤ op := h
      have he := he.trans (if_neg h2)
      have hp := hp.2 h2
      refine fm_gr O 4 (C' := (23, [(0, .inr (.inr (.inr (.inr (24, 0))))), (1, .inl f), (2, .inl op), (3, .inl aa)], [.inl aa, .inl op, .inl f, .inr (.inr (.inr (.inr (24, 0))))], (I, J, G, fm_P pa pb))) rfl ?_
      have K := fmD_checkLocal_c (d := d) hl (by omega) I J G pa pb f op aa hp
      generalize er25 : fmD_checkLocal_f I f op aa = r25 at he
      have he := he.trans (fm_letE _ _)
      rw [er25] at K
      refine fm_cV0 O fmD_checkLocal_o (i := 0) (as := [.inl f, .inl op, .inl aa]) (rest := []) (v := none) rfl fk_6_132 rfl (by decide) fn_D_checkLocal (Nat.le_of_ble_eq_true rfl) (K) ?_
      refine fm_gr O 1 (C' := (266, [(0, .inr (.inr (.inr (.inr (24, 0))))), (1, .inl f), (2, .inl op), (3, .inl aa)], [], (r25, J, G, fm_P pa pb))) rfl ?_
      exact fm_gRe O rfl trivial (by first | (rw [he]; done) | (rw [he]; rfl) | rfl) (by first | (rw [he]; done) | (rw [he]; rfl) | rfl)
  · have h1 : ¬ 4 ≤ op := h
    have he := he.trans (if_neg h1)
    have hp := hp.2 h1
    refine fm_gr O 2 (C' := (7, [(0, .inr (.inr (.inr (.inr (24, 0))))), (1, .inl f), (2, .inl op), (3, .inl aa)], [.inl op, .inr (.inr (.inr (.inr (24, 0))))], (I, J, G, fm_P pa pb))) rfl ?_
    have K := fmD_put_c (d := d) hl (by omega) I J G pa pb op hp
    generalize er26 : fmD_put_f I op = r26 at he
    have he := he.trans (fm_letE _ _)
    rw [er26] at K
    refine fm_cV0 O fmD_put_o (i := 0) (as := [.inl op]) (rest := []) (v := none) rfl fk_6_119 rfl (by decide) fn_D_put (Nat.le_of_ble_eq_true rfl) (K) ?_
    refine fm_gr O 1 (C' := (266, [(0, .inr (.inr (.inr (.inr (24, 0))))), (1, .inl f), (2, .inl op), (3, .inl aa)], [], (r26, J, G, fm_P pa pb))) rfl ?_
    exact fm_gRe O rfl trivial (by first | (rw [he]; done) | (rw [he]; rfl) | rfl) (by first | (rw [he]; done) | (rw [he]; rfl) | rfl)
def fmD_checkFunction_L28_f : Nat → fm_MI → fm_MJ → fm_MG → (Nat × Nat) → (Nat × Nat) → Int32 → Int32 → Int32 × fm_MI
  | 0, I, J, G, pa, pb, y1, y2 => (0, I)
  | n + 1, I, J, G, pa, pb, y1, y2 => if (I 27 0 y1.toNatClampNeg) ≤ y2 then (if (I 24 0 16) ≤ 1 then (fm_let (fmD_finish_f I) (fun (r2 : fm_MI) => (r2 27 0 y1.toNatClampNeg, r2))) else ((I 27 0 y1.toNatClampNeg, fm_u I 24 0 17 5))) else (fm_let (fmD_checkOne_f I J G pa pb y1 (I 25 0 (((y1 * 40) + y2).toNatClampNeg)) (I 26 0 (((y1 * 40) + y2).toNatClampNeg))) (fun (r3 : fm_MI) => if (r3 24 0 17) ≤ 0 then (fmD_checkFunction_L28_f n r3 J G pa pb y1 (y2 + 1)) else ((y2, r3))))
theorem fmD_checkFunction_L28_e (n : Nat) (I : fm_MI) (J : fm_MJ) (G : fm_MG) (pa : Nat × Nat) (pb : Nat × Nat) (y1 : Int32) (y2 : Int32) : fmD_checkFunction_L28_f (n + 1) I J G pa pb y1 y2 = if (I 27 0 y1.toNatClampNeg) ≤ y2 then (if (I 24 0 16) ≤ 1 then (fm_let (fmD_finish_f I) (fun (r2 : fm_MI) => (r2 27 0 y1.toNatClampNeg, r2))) else ((I 27 0 y1.toNatClampNeg, fm_u I 24 0 17 5))) else (fm_let (fmD_checkOne_f I J G pa pb y1 (I 25 0 (((y1 * 40) + y2).toNatClampNeg)) (I 26 0 (((y1 * 40) + y2).toNatClampNeg))) (fun (r3 : fm_MI) => if (r3 24 0 17) ≤ 0 then (fmD_checkFunction_L28_f n r3 J G pa pb y1 (y2 + 1)) else ((y2, r3)))) := rfl
def fmD_checkFunction_L28_p : Nat → fm_MI → fm_MJ → fm_MG → (Nat × Nat) → (Nat × Nat) → Int32 → Int32 → Prop
  | 0, I, J, G, pa, pb, y1, y2 => False
  | n + 1, I, J, G, pa, pb, y1, y2 => (vp_in y1 4) ∧ (((I 27 0 y1.toNatClampNeg) ≤ y2 → ((I 24 0 16) ≤ 1 → fmD_finish_p I ∧ (fm_let (fmD_finish_f I) (fun (r2 : fm_MI) => vp_in y1 4))) ∧ (¬ (I 24 0 16) ≤ 1 → vp_in y1 4)) ∧ (¬ (I 27 0 y1.toNatClampNeg) ≤ y2 → (vp_in ((y1 * 40) + y2) 160) ∧ ((vp_in ((y1 * 40) + y2) 160) ∧ (fmD_checkOne_p I J G pa pb y1 (I 25 0 (((y1 * 40) + y2).toNatClampNeg)) (I 26 0 (((y1 * 40) + y2).toNatClampNeg)) ∧ (fm_let (fmD_checkOne_f I J G pa pb y1 (I 25 0 (((y1 * 40) + y2).toNatClampNeg)) (I 26 0 (((y1 * 40) + y2).toNatClampNeg))) (fun (r3 : fm_MI) => ((r3 24 0 17) ≤ 0 → fmD_checkFunction_L28_p n r3 J G pa pb y1 (y2 + 1)) ∧ (¬ (r3 24 0 17) ≤ 0 → True)))))))
theorem fmD_checkFunction_L28_q (n : Nat) (I : fm_MI) (J : fm_MJ) (G : fm_MG) (pa : Nat × Nat) (pb : Nat × Nat) (y1 : Int32) (y2 : Int32) : fmD_checkFunction_L28_p (n + 1) I J G pa pb y1 y2 = ((vp_in y1 4) ∧ (((I 27 0 y1.toNatClampNeg) ≤ y2 → ((I 24 0 16) ≤ 1 → fmD_finish_p I ∧ (fm_let (fmD_finish_f I) (fun (r2 : fm_MI) => vp_in y1 4))) ∧ (¬ (I 24 0 16) ≤ 1 → vp_in y1 4)) ∧ (¬ (I 27 0 y1.toNatClampNeg) ≤ y2 → (vp_in ((y1 * 40) + y2) 160) ∧ ((vp_in ((y1 * 40) + y2) 160) ∧ (fmD_checkOne_p I J G pa pb y1 (I 25 0 (((y1 * 40) + y2).toNatClampNeg)) (I 26 0 (((y1 * 40) + y2).toNatClampNeg)) ∧ (fm_let (fmD_checkOne_f I J G pa pb y1 (I 25 0 (((y1 * 40) + y2).toNatClampNeg)) (I 26 0 (((y1 * 40) + y2).toNatClampNeg))) (fun (r3 : fm_MI) => ((r3 24 0 17) ≤ 0 → fmD_checkFunction_L28_p n r3 J G pa pb y1 (y2 + 1)) ∧ (¬ (r3 24 0 17) ≤ 0 → True)))))))) := rfl
set_option maxRecDepth 100000 in
set_option maxHeartbeats 4000000 in
theorem fmD_checkFunction_L28_c {E : fm_Ev} (hl : E.1.stackTraces = false) {d : Nat} (hd : 4 ≤ d + 1) (n : Nat) : ∀ (I : fm_MI) (J : fm_MJ) (G : fm_MG) (pa : Nat × Nat) (pb : Nat × Nat) (y1 : Int32) (y2 : Int32), fmD_checkFunction_L28_p n I J G pa pb y1 y2 → fm_Go E (d + 1) fmD_checkFunction 0 (28, [(0, .inr (.inr (.inr (.inr (24, 0))))), (1, .inl y1), (2, .inl y2)], [], (I, J, G, fm_P pa pb)) (fm_Zr E (some (.inl ((fmD_checkFunction_L28_f n I J G pa pb y1 y2).1))) ((fmD_checkFunction_L28_f n I J G pa pb y1 y2).2, J, G, fm_P pa pb)) := by
  have O := fmD_checkFunction_o.1
  induction n with
  | zero => intro I J G pa pb y1 y2 hp; exact hp.elim
  | succ n ih =>
    intro I J G pa pb y1 y2 hp
    rw [fmD_checkFunction_L28_q] at hp
    have he := fmD_checkFunction_L28_e n I J G pa pb y1 y2
    refine fm_gr O 4 (C' := (34, [(0, .inr (.inr (.inr (.inr (24, 0))))), (1, .inl y1), (2, .inl y2)], [.inl y1, .inr (.inr (.inr (.inr (27, 0)))), .inl y2], (I, J, G, fm_P pa pb))) rfl ?_
    refine fm_gg O rfl hp.1 ?_
    have hp := hp.2
    refine fm_gb O rfl (fun h => ?_) (fun h => ?_)
    · have h1 : (I 27 0 y1.toNatClampNeg) ≤ y2 := h
      have he := he.trans (if_pos h1)
      have hp := hp.1 h1
      refine fm_gr O 3 (C' := (85, [(0, .inr (.inr (.inr (.inr (24, 0))))), (1, .inl y1), (2, .inl y2)], [.inl 1, .inl (I 24 0 16)], (I, J, G, fm_P pa pb))) rfl ?_
      refine fm_gb O rfl (fun h => ?_) (fun h => ?_)
      · have h2 : (I 24 0 16) ≤ 1 := h
        have he := he.trans (if_pos h2)
        have hp := hp.1 h2
        refine fm_gr O 1 (C' := (97, [(0, .inr (.inr (.inr (.inr (24, 0))))), (1, .inl y1), (2, .inl y2)], [.inr (.inr (.inr (.inr (24, 0))))], (I, J, G, fm_P pa pb))) rfl ?_
        have hc := hp.1
        have hp := hp.2
        have K := fmD_finish_c (d := d) hl (by omega) I J G pa pb hc
        generalize er2 : fmD_finish_f I = r2 at he hp
        have he := he.trans (fm_letE _ _)
        have hp := fm_letP hp
        rw [er2] at K
        refine fm_cV0 O fmD_finish_o (i := 0) (as := []) (rest := []) (v := none) rfl fk_6_129 rfl (by decide) fn_D_finish (Nat.le_of_ble_eq_true rfl) (K) ?_
        refine fm_gr O 3 (C' := (105, [(0, .inr (.inr (.inr (.inr (24, 0))))), (1, .inl y1), (2, .inl y2)], [.inl y1, .inr (.inr (.inr (.inr (27, 0))))], (r2, J, G, fm_P pa pb))) rfl ?_
        refine fm_gg O rfl hp ?_
        exact fm_gRe O rfl trivial (by first | (rw [he]; done) | (rw [he]; rfl) | rfl) (by first | (rw [he]; done) | (rw [he]; rfl) | rfl)
      · have h2 : ¬ (I 24 0 16) ≤ 1 := h
        have he := he.trans (if_neg h2)
        have hp := hp.2 h2
        refine fm_gr O 7 (C' := (105, [(0, .inr (.inr (.inr (.inr (24, 0))))), (1, .inl y1), (2, .inl y2)], [.inl y1, .inr (.inr (.inr (.inr (27, 0))))], (fm_u I 24 0 17 5, J, G, fm_P pa pb))) rfl ?_
        refine fm_gg O rfl hp ?_
        exact fm_gRe O rfl trivial (by first | (rw [he]; done) | (rw [he]; rfl) | rfl) (by first | (rw [he]; done) | (rw [he]; rfl) | rfl)
    · have h1 : ¬ (I 27 0 y1.toNatClampNeg) ≤ y2 := h
      have he := he.trans (if_neg h1)
      have hp := hp.2 h1
      refine fm_gr O 9 (C' := (50, [(0, .inr (.inr (.inr (.inr (24, 0))))), (1, .inl y1), (2, .inl y2)], [.inl ((y1 * 40) + y2), .inr (.inr (.inr (.inr (25, 0)))), .inl y1, .inr (.inr (.inr (.inr (24, 0))))], (I, J, G, fm_P pa pb))) rfl ?_
      refine fm_gg O rfl hp.1 ?_
      have hp := hp.2
      refine fm_gr O 7 (C' := (61, [(0, .inr (.inr (.inr (.inr (24, 0))))), (1, .inl y1), (2, .inl y2)], [.inl ((y1 * 40) + y2), .inr (.inr (.inr (.inr (26, 0)))), .inl (I 25 0 (((y1 * 40) + y2).toNatClampNeg)), .inl y1, .inr (.inr (.inr (.inr (24, 0))))], (I, J, G, fm_P pa pb))) rfl ?_
      refine fm_gg O rfl hp.1 ?_
      have hp := hp.2
      have hc := hp.1
      have hp := hp.2
      have K := fmD_checkOne_c (d := d) hl (by omega) I J G pa pb y1 (I 25 0 (((y1 * 40) + y2).toNatClampNeg)) (I 26 0 (((y1 * 40) + y2).toNatClampNeg)) hc
      generalize er3 : fmD_checkOne_f I J G pa pb y1 (I 25 0 (((y1 * 40) + y2).toNatClampNeg)) (I 26 0 (((y1 * 40) + y2).toNatClampNeg)) = r3 at he hp
      have he := he.trans (fm_letE _ _)
      have hp := fm_letP hp
      rw [er3] at K
      refine fm_cV0 O fmD_checkOne_o (i := 0) (as := [.inl y1, .inl (I 25 0 (((y1 * 40) + y2).toNatClampNeg)), .inl (I 26 0 (((y1 * 40) + y2).toNatClampNeg))]) (rest := []) (v := none) rfl fk_6_155 rfl (by decide) fn_D_checkOne (Nat.le_of_ble_eq_true rfl) (K) ?_
      refine fm_gr O 2 (C' := (69, [(0, .inr (.inr (.inr (.inr (24, 0))))), (1, .inl y1), (2, .inl y2)], [.inl (r3 24 0 17)], (r3, J, G, fm_P pa pb))) rfl ?_
      refine fm_gb O rfl (fun h => ?_) (fun h => ?_)
      · have h2 : (r3 24 0 17) ≤ 0 := h
        have he := he.trans (if_pos h2)
        have hp := hp.1 h2
        refine fm_gr O 2 (C' := (28, [(2, .inl (y2 + 1)), (0, .inr (.inr (.inr (.inr (24, 0))))), (1, .inl y1)], [], (r3, J, G, fm_P pa pb))) rfl ?_
        refine fm_gL O [1, 2, 0] rfl ?_
        rw [he]
        exact ih r3 J G pa pb y1 (y2 + 1) hp
      · have h2 : ¬ (r3 24 0 17) ≤ 0 := h
        have he := he.trans (if_neg h2)
        refine fm_gr O 1 (C' := (73, [(0, .inr (.inr (.inr (.inr (24, 0))))), (1, .inl y1), (2, .inl y2)], [.inl y2], (r3, J, G, fm_P pa pb))) rfl ?_
        exact fm_gRe O rfl trivial (by first | (rw [he]; done) | (rw [he]; rfl) | rfl) (by first | (rw [he]; done) | (rw [he]; rfl) | rfl)
def fmD_checkFunction_f (I : fm_MI) (J : fm_MJ) (G : fm_MG) (pa : Nat × Nat) (pb : Nat × Nat) (f : Int32) : Int32 × fm_MI :=
  fm_let (fmD_begin_f (fm_u (fm_u (fm_u I 24 0 15 0) 24 0 16 0) 24 0 17 0) 0 (I 31 0 f.toNatClampNeg)) (fun (r1 : fm_MI) => fmD_checkFunction_L28_f 41 r1 J G pa pb f 0)
theorem fmD_checkFunction_e (I : fm_MI) (J : fm_MJ) (G : fm_MG) (pa : Nat × Nat) (pb : Nat × Nat) (f : Int32) : fmD_checkFunction_f I J G pa pb f = fm_let (fmD_begin_f (fm_u (fm_u (fm_u I 24 0 15 0) 24 0 16 0) 24 0 17 0) 0 (I 31 0 f.toNatClampNeg)) (fun (r1 : fm_MI) => fmD_checkFunction_L28_f 41 r1 J G pa pb f 0) := rfl
def fmD_checkFunction_p (I : fm_MI) (J : fm_MJ) (G : fm_MG) (pa : Nat × Nat) (pb : Nat × Nat) (f : Int32) : Prop :=
  (vp_in f 4) ∧ (fmD_begin_p (fm_u (fm_u (fm_u I 24 0 15 0) 24 0 16 0) 24 0 17 0) ∧ (fm_let (fmD_begin_f (fm_u (fm_u (fm_u I 24 0 15 0) 24 0 16 0) 24 0 17 0) 0 (I 31 0 f.toNatClampNeg)) (fun (r1 : fm_MI) => fmD_checkFunction_L28_p 41 r1 J G pa pb f 0)))
set_option maxRecDepth 100000 in
set_option maxHeartbeats 4000000 in
theorem fmD_checkFunction_c {E : fm_Ev} (hl : E.1.stackTraces = false) {d : Nat} (hd : 4 ≤ d) (I : fm_MI) (J : fm_MJ) (G : fm_MG) (pa : Nat × Nat) (pb : Nat × Nat) (f : Int32) (hp : fmD_checkFunction_p I J G pa pb f) : fm_Ct E d fmD_checkFunction 0 [.inr (.inr (.inr (.inr (24, 0)))), .inl f] (I, J, G, fm_P pa pb) (some (.inl ((fmD_checkFunction_f I J G pa pb f).1))) ((fmD_checkFunction_f I J G pa pb f).2, J, G, fm_P pa pb) := by
  obtain ⟨d, rfl⟩ : ∃ d', d = d' + 1 := ⟨d - 1, by omega⟩
  refine fm_ct fmD_checkFunction_o hl (Nat.le_of_ble_eq_true rfl) ?_
  have O := fmD_checkFunction_o.1
  unfold fmD_checkFunction_p at hp
  have he := fmD_checkFunction_e I J G pa pb f
  refine fm_gr O 14 (C' := (22, [(0, .inr (.inr (.inr (.inr (24, 0))))), (1, .inl f)], [.inl f, .inr (.inr (.inr (.inr (31, 0)))), .inl 0, .inr (.inr (.inr (.inr (24, 0))))], (fm_u (fm_u (fm_u I 24 0 15 0) 24 0 16 0) 24 0 17 0, J, G, fm_P pa pb))) rfl ?_
  refine fm_gg O rfl hp.1 ?_
  have hp := hp.2
  have hc := hp.1
  have hp := hp.2
  have K := fmD_begin_c (d := d) hl (by omega) (fm_u (fm_u (fm_u I 24 0 15 0) 24 0 16 0) 24 0 17 0) J G pa pb 0 (I 31 0 f.toNatClampNeg) hc
  generalize er1 : fmD_begin_f (fm_u (fm_u (fm_u I 24 0 15 0) 24 0 16 0) 24 0 17 0) 0 (I 31 0 f.toNatClampNeg) = r1 at he hp
  have he := he.trans (fm_letE _ _)
  have hp := fm_letP hp
  rw [er1] at K
  refine fm_cV0 O fmD_begin_o (i := 0) (as := [.inl 0, .inl (I 31 0 f.toNatClampNeg)]) (rest := []) (v := none) rfl fk_6_125 rfl (by decide) fn_D_begin (Nat.le_of_ble_eq_true rfl) (K) ?_
  refine fm_gr O 2 (C' := (28, [(2, .inl 0), (0, .inr (.inr (.inr (.inr (24, 0))))), (1, .inl f)], [], (r1, J, G, fm_P pa pb))) rfl ?_
  refine fm_gL O [1, 2, 0] rfl ?_
  rw [he]
  exact fmD_checkFunction_L28_c hl hd 41 r1 J G pa pb f 0 hp
def fmD_check_L7_f : Nat → fm_MI → fm_MJ → fm_MG → (Nat × Nat) → (Nat × Nat) → Int32 → Int32 × fm_MI
  | 0, I, J, G, pa, pb, y1 => (0, I)
  | n + 1, I, J, G, pa, pb, y1 => if 4 ≤ y1 then ((0, fm_u I 24 0 19 1)) else (if (I 32 0 y1.toNatClampNeg) = 0 then (fmD_check_L7_f n I J G pa pb (y1 + 1)) else (fm_let (fmD_checkFunction_f I J G pa pb y1) (fun (r1 : Int32 × fm_MI) => if (r1.2 24 0 17) = 0 then (fmD_check_L7_f n r1.2 J G pa pb (y1 + 1)) else ((((y1 * 10000) + (r1.1 * 100)) + (r1.2 24 0 17), fm_u r1.2 24 0 19 0)))))
theorem fmD_check_L7_e (n : Nat) (I : fm_MI) (J : fm_MJ) (G : fm_MG) (pa : Nat × Nat) (pb : Nat × Nat) (y1 : Int32) : fmD_check_L7_f (n + 1) I J G pa pb y1 = if 4 ≤ y1 then ((0, fm_u I 24 0 19 1)) else (if (I 32 0 y1.toNatClampNeg) = 0 then (fmD_check_L7_f n I J G pa pb (y1 + 1)) else (fm_let (fmD_checkFunction_f I J G pa pb y1) (fun (r1 : Int32 × fm_MI) => if (r1.2 24 0 17) = 0 then (fmD_check_L7_f n r1.2 J G pa pb (y1 + 1)) else ((((y1 * 10000) + (r1.1 * 100)) + (r1.2 24 0 17), fm_u r1.2 24 0 19 0))))) := rfl
def fmD_check_L7_p : Nat → fm_MI → fm_MJ → fm_MG → (Nat × Nat) → (Nat × Nat) → Int32 → Prop
  | 0, I, J, G, pa, pb, y1 => False
  | n + 1, I, J, G, pa, pb, y1 => (4 ≤ y1 → True) ∧ (¬ 4 ≤ y1 → (vp_in y1 4) ∧ (((I 32 0 y1.toNatClampNeg) = 0 → fmD_check_L7_p n I J G pa pb (y1 + 1)) ∧ (¬ (I 32 0 y1.toNatClampNeg) = 0 → fmD_checkFunction_p I J G pa pb y1 ∧ (fm_let (fmD_checkFunction_f I J G pa pb y1) (fun (r1 : Int32 × fm_MI) => ((r1.2 24 0 17) = 0 → fmD_check_L7_p n r1.2 J G pa pb (y1 + 1)) ∧ (¬ (r1.2 24 0 17) = 0 → True))))))
theorem fmD_check_L7_q (n : Nat) (I : fm_MI) (J : fm_MJ) (G : fm_MG) (pa : Nat × Nat) (pb : Nat × Nat) (y1 : Int32) : fmD_check_L7_p (n + 1) I J G pa pb y1 = ((4 ≤ y1 → True) ∧ (¬ 4 ≤ y1 → (vp_in y1 4) ∧ (((I 32 0 y1.toNatClampNeg) = 0 → fmD_check_L7_p n I J G pa pb (y1 + 1)) ∧ (¬ (I 32 0 y1.toNatClampNeg) = 0 → fmD_checkFunction_p I J G pa pb y1 ∧ (fm_let (fmD_checkFunction_f I J G pa pb y1) (fun (r1 : Int32 × fm_MI) => ((r1.2 24 0 17) = 0 → fmD_check_L7_p n r1.2 J G pa pb (y1 + 1)) ∧ (¬ (r1.2 24 0 17) = 0 → True))))))) := rfl
set_option maxRecDepth 100000 in
set_option maxHeartbeats 4000000 in
theorem fmD_check_L7_c {E : fm_Ev} (hl : E.1.stackTraces = false) {d : Nat} (hd : 5 ≤ d + 1) (n : Nat) : ∀ (I : fm_MI) (J : fm_MJ) (G : fm_MG) (pa : Nat × Nat) (pb : Nat × Nat) (y1 : Int32), fmD_check_L7_p n I J G pa pb y1 → fm_Go E (d + 1) fmD_check 0 (7, [(0, .inr (.inr (.inr (.inr (24, 0))))), (1, .inl y1)], [], (I, J, G, fm_P pa pb)) (fm_Zr E (some (.inl ((fmD_check_L7_f n I J G pa pb y1).1))) ((fmD_check_L7_f n I J G pa pb y1).2, J, G, fm_P pa pb)) := by
  have O := fmD_check_o.1
  induction n with
  | zero => intro I J G pa pb y1 hp; exact hp.elim
  | succ n ih =>
    intro I J G pa pb y1 hp
    rw [fmD_check_L7_q] at hp
    have he := fmD_check_L7_e n I J G pa pb y1
    refine fm_gr O 2 (C' := (9, [(0, .inr (.inr (.inr (.inr (24, 0))))), (1, .inl y1)], [.inl 4, .inl y1], (I, J, G, fm_P pa pb))) rfl ?_
    refine fm_gb O rfl (fun h => ?_) (fun h => ?_)
    · have h1 : 4 ≤ y1 := h
      have he := he.trans (if_pos h1)
      refine fm_gr O 2 (C' := (69, [(0, .inr (.inr (.inr (.inr (24, 0))))), (1, .inl y1)], [.inl 1, .inr (.inr (.inr (.inr (24, 0))))], (I, J, G, fm_P pa pb))) rfl ?_
      refine fm_gg O rfl (Or.inr rfl) ?_
      refine fm_gr O 1 (C' := (73, [(0, .inr (.inr (.inr (.inr (24, 0))))), (1, .inl y1)], [.inl 0], (fm_u I 24 0 19 1, J, G, fm_P pa pb))) rfl ?_
      exact fm_gRe O rfl trivial (by first | (rw [he]; done) | (rw [he]; rfl) | rfl) (by first | (rw [he]; done) | (rw [he]; rfl) | rfl)
    · have h1 : ¬ 4 ≤ y1 := h
      have he := he.trans (if_neg h1)
      have hp := hp.2 h1
      refine fm_gr O 3 (C' := (17, [(0, .inr (.inr (.inr (.inr (24, 0))))), (1, .inl y1)], [.inl y1, .inr (.inr (.inr (.inr (32, 0))))], (I, J, G, fm_P pa pb))) rfl ?_
      refine fm_gg O rfl hp.1 ?_
      have hp := hp.2
      refine fm_gb O rfl (fun h => ?_) (fun h => ?_)
      · have h2 : (I 32 0 y1.toNatClampNeg) = 0 := h
        have he := he.trans (if_pos h2)
        have hp := hp.1 h2
        refine fm_gr O 3 (C' := (7, [(1, .inl (y1 + 1)), (0, .inr (.inr (.inr (.inr (24, 0)))))], [], (I, J, G, fm_P pa pb))) rfl ?_
        refine fm_gL O [1, 0] rfl ?_
        rw [he]
        exact ih I J G pa pb (y1 + 1) hp
      · have h2 : ¬ (I 32 0 y1.toNatClampNeg) = 0 := h
        have he := he.trans (if_neg h2)
        have hp := hp.2 h2
        refine fm_gr O 2 (C' := (26, [(0, .inr (.inr (.inr (.inr (24, 0))))), (1, .inl y1)], [.inl y1, .inr (.inr (.inr (.inr (24, 0))))], (I, J, G, fm_P pa pb))) rfl ?_
        have hc := hp.1
        have hp := hp.2
        have K := fmD_checkFunction_c (d := d) hl (by omega) I J G pa pb y1 hc
        generalize er1 : fmD_checkFunction_f I J G pa pb y1 = r1 at he hp
        have he := he.trans (fm_letE _ _)
        have hp := fm_letP hp
        rw [er1] at K
        refine fm_cV0 O fmD_checkFunction_o (i := 0) (as := [.inl y1]) (rest := []) (v := some (.inl r1.1)) rfl fk_6_158 rfl (by decide) fn_D_checkFunction (Nat.le_of_ble_eq_true rfl) (K) ?_
        refine fm_gr O 3 (C' := (34, [(2, .inl r1.1), (0, .inr (.inr (.inr (.inr (24, 0))))), (1, .inl y1)], [.inl (r1.2 24 0 17)], (r1.2, J, G, fm_P pa pb))) rfl ?_
        refine fm_gb O rfl (fun h => ?_) (fun h => ?_)
        · have h3 : (r1.2 24 0 17) = 0 := h
          have he := he.trans (if_pos h3)
          have hp := hp.1 h3
          refine fm_gr O 3 (C' := (7, [(1, .inl (y1 + 1)), (2, .inl r1.1), (0, .inr (.inr (.inr (.inr (24, 0)))))], [], (r1.2, J, G, fm_P pa pb))) rfl ?_
          refine fm_gL O [2, 0] rfl ?_
          rw [he]
          exact ih r1.2 J G pa pb (y1 + 1) hp
        · have h3 : ¬ (r1.2 24 0 17) = 0 := h
          have he := he.trans (if_neg h3)
          refine fm_gr O 2 (C' := (42, [(2, .inl r1.1), (0, .inr (.inr (.inr (.inr (24, 0))))), (1, .inl y1)], [.inl 0, .inr (.inr (.inr (.inr (24, 0))))], (r1.2, J, G, fm_P pa pb))) rfl ?_
          refine fm_gg O rfl (Or.inl rfl) ?_
          refine fm_gr O 10 (C' := (60, [(2, .inl r1.1), (0, .inr (.inr (.inr (.inr (24, 0))))), (1, .inl y1)], [.inl (((y1 * 10000) + (r1.1 * 100)) + (r1.2 24 0 17))], (fm_u r1.2 24 0 19 0, J, G, fm_P pa pb))) rfl ?_
          exact fm_gRe O rfl trivial (by first | (rw [he]; done) | (rw [he]; rfl) | rfl) (by first | (rw [he]; done) | (rw [he]; rfl) | rfl)
def fmD_check_f (I : fm_MI) (J : fm_MJ) (G : fm_MG) (pa : Nat × Nat) (pb : Nat × Nat) : Int32 × fm_MI :=
  fmD_check_L7_f 5 (fm_u I 24 0 18 0) J G pa pb 0
theorem fmD_check_e (I : fm_MI) (J : fm_MJ) (G : fm_MG) (pa : Nat × Nat) (pb : Nat × Nat) : fmD_check_f I J G pa pb = fmD_check_L7_f 5 (fm_u I 24 0 18 0) J G pa pb 0 := rfl
def fmD_check_p (I : fm_MI) (J : fm_MJ) (G : fm_MG) (pa : Nat × Nat) (pb : Nat × Nat) : Prop :=
  fmD_check_L7_p 5 (fm_u I 24 0 18 0) J G pa pb 0
set_option maxRecDepth 100000 in
set_option maxHeartbeats 4000000 in
theorem fmD_check_c {E : fm_Ev} (hl : E.1.stackTraces = false) {d : Nat} (hd : 5 ≤ d) (I : fm_MI) (J : fm_MJ) (G : fm_MG) (pa : Nat × Nat) (pb : Nat × Nat) (hp : fmD_check_p I J G pa pb) : fm_Ct E d fmD_check 0 [.inr (.inr (.inr (.inr (24, 0))))] (I, J, G, fm_P pa pb) (some (.inl ((fmD_check_f I J G pa pb).1))) ((fmD_check_f I J G pa pb).2, J, G, fm_P pa pb) := by
  obtain ⟨d, rfl⟩ : ∃ d', d = d' + 1 := ⟨d - 1, by omega⟩
  refine fm_ct fmD_check_o hl (Nat.le_of_ble_eq_true rfl) ?_
  have O := fmD_check_o.1
  unfold fmD_check_p at hp
  have he := fmD_check_e I J G pa pb
  refine fm_gr O 5 (C' := (7, [(1, .inl 0), (0, .inr (.inr (.inr (.inr (24, 0)))))], [], (fm_u I 24 0 18 0, J, G, fm_P pa pb))) rfl ?_
  refine fm_gL O [1, 0] rfl ?_
  rw [he]
  exact fmD_check_L7_c hl hd 5 (fm_u I 24 0 18 0) J G pa pb 0 hp
