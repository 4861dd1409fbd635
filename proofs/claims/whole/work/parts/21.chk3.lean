/-! THE CHECKER, by program (wip/tools/walk.py, gen_c2.py) -/
def fmC_closeFrame_f (I : fm_MI) (J : fm_MJ) (G : fm_MG) (pb : Nat × Nat) : fm_MI :=
  if (I 13 0 6) = 0 then (fm_u I 13 0 2 5) else (fm_let (fmC_takeJustWhatIsGiven_f I) (fun (r1 : fm_MI) => if (r1 13 0 2) = 0 then (if (r1 17 ((I 13 0 6).toNatClampNeg) 0) = 23 then (if (r1 17 ((I 13 0 6).toNatClampNeg) 1) = 4 then (fm_let (fmK_sendHere_f r1 ((r1 13 0 1).toNatClampNeg) (r1 17 ((I 13 0 6).toNatClampNeg) 4)) (fun (r2 : fm_MI) => fm_let (fmK_sendHereAllFor_f r2 J G ((1, 0)) pb ((r2 13 0 1).toNatClampNeg) (r2 13 0 6)) (fun (r3 : fm_MI) => fm_let (fmC_put_f (fm_u r3 13 0 6 ((r3 13 0 6) - 1)) (r3 17 ((I 13 0 6).toNatClampNeg) 1)) (fun (r4 : fm_MI) => r4)))) else (fm_let (fmK_sendHere_f (fm_u r1 13 0 2 6) (((fm_u r1 13 0 2 6) 13 0 1).toNatClampNeg) (r1 17 ((I 13 0 6).toNatClampNeg) 4)) (fun (r5 : fm_MI) => fm_let (fmK_sendHereAllFor_f r5 J G ((1, 0)) pb ((r5 13 0 1).toNatClampNeg) (r5 13 0 6)) (fun (r6 : fm_MI) => fm_let (fmC_put_f (fm_u r6 13 0 6 ((r6 13 0 6) - 1)) (r6 17 ((I 13 0 6).toNatClampNeg) 1)) (fun (r7 : fm_MI) => r7))))) else (fm_let (fmK_sendHereAllFor_f r1 J G ((1, 0)) pb ((r1 13 0 1).toNatClampNeg) (r1 13 0 6)) (fun (r8 : fm_MI) => fm_let (fmC_put_f (fm_u r8 13 0 6 ((r8 13 0 6) - 1)) (r8 17 ((I 13 0 6).toNatClampNeg) 1)) (fun (r9 : fm_MI) => r9)))) else (if (r1 17 ((I 13 0 6).toNatClampNeg) 0) = 23 then (fm_let (fmK_sendHere_f r1 ((r1 13 0 1).toNatClampNeg) (r1 17 ((I 13 0 6).toNatClampNeg) 4)) (fun (r10 : fm_MI) => fm_let (fmK_sendHereAllFor_f r10 J G ((1, 0)) pb ((r10 13 0 1).toNatClampNeg) (r10 13 0 6)) (fun (r11 : fm_MI) => fm_let (fmC_put_f (fm_u r11 13 0 6 ((r11 13 0 6) - 1)) (r11 17 ((I 13 0 6).toNatClampNeg) 1)) (fun (r12 : fm_MI) => r12)))) else (fm_let (fmK_sendHereAllFor_f r1 J G ((1, 0)) pb ((r1 13 0 1).toNatClampNeg) (r1 13 0 6)) (fun (r13 : fm_MI) => fm_let (fmC_put_f (fm_u r13 13 0 6 ((r13 13 0 6) - 1)) (r13 17 ((I 13 0 6).toNatClampNeg) 1)) (fun (r14 : fm_MI) => r14))))))
theorem fmC_closeFrame_e (I : fm_MI) (J : fm_MJ) (G : fm_MG) (pb : Nat × Nat) : fmC_closeFrame_f I J G pb = if (I 13 0 6) = 0 then (fm_u I 13 0 2 5) else (fm_let (fmC_takeJustWhatIsGiven_f I) (fun (r1 : fm_MI) => if (r1 13 0 2) = 0 then (if (r1 17 ((I 13 0 6).toNatClampNeg) 0) = 23 then (if (r1 17 ((I 13 0 6).toNatClampNeg) 1) = 4 then (fm_let (fmK_sendHere_f r1 ((r1 13 0 1).toNatClampNeg) (r1 17 ((I 13 0 6).toNatClampNeg) 4)) (fun (r2 : fm_MI) => fm_let (fmK_sendHereAllFor_f r2 J G ((1, 0)) pb ((r2 13 0 1).toNatClampNeg) (r2 13 0 6)) (fun (r3 : fm_MI) => fm_let (fmC_put_f (fm_u r3 13 0 6 ((r3 13 0 6) - 1)) (r3 17 ((I 13 0 6).toNatClampNeg) 1)) (fun (r4 : fm_MI) => r4)))) else (fm_let (fmK_sendHere_f (fm_u r1 13 0 2 6) (((fm_u r1 13 0 2 6) 13 0 1).toNatClampNeg) (r1 17 ((I 13 0 6).toNatClampNeg) 4)) (fun (r5 : fm_MI) => fm_let (fmK_sendHereAllFor_f r5 J G ((1, 0)) pb ((r5 13 0 1).toNatClampNeg) (r5 13 0 6)) (fun (r6 : fm_MI) => fm_let (fmC_put_f (fm_u r6 13 0 6 ((r6 13 0 6) - 1)) (r6 17 ((I 13 0 6).toNatClampNeg) 1)) (fun (r7 : fm_MI) => r7))))) else (fm_let (fmK_sendHereAllFor_f r1 J G ((1, 0)) pb ((r1 13 0 1).toNatClampNeg) (r1 13 0 6)) (fun (r8 : fm_MI) => fm_let (fmC_put_f (fm_u r8 13 0 6 ((r8 13 0 6) - 1)) (r8 17 ((I 13 0 6).toNatClampNeg) 1)) (fun (r9 : fm_MI) => r9)))) else (if (r1 17 ((I 13 0 6).toNatClampNeg) 0) = 23 then (fm_let (fmK_sendHere_f r1 ((r1 13 0 1).toNatClampNeg) (r1 17 ((I 13 0 6).toNatClampNeg) 4)) (fun (r10 : fm_MI) => fm_let (fmK_sendHereAllFor_f r10 J G ((1, 0)) pb ((r10 13 0 1).toNatClampNeg) (r10 13 0 6)) (fun (r11 : fm_MI) => fm_let (fmC_put_f (fm_u r11 13 0 6 ((r11 13 0 6) - 1)) (r11 17 ((I 13 0 6).toNatClampNeg) 1)) (fun (r12 : fm_MI) => r12)))) else (fm_let (fmK_sendHereAllFor_f r1 J G ((1, 0)) pb ((r1 13 0 1).toNatClampNeg) (r1 13 0 6)) (fun (r13 : fm_MI) => fm_let (fmC_put_f (fm_u r13 13 0 6 ((r13 13 0 6) - 1)) (r13 17 ((I 13 0 6).toNatClampNeg) 1)) (fun (r14 : fm_MI) => r14)))))) := rfl
def fmC_closeFrame_p (I : fm_MI) (J : fm_MJ) (G : fm_MG) (pb : Nat × Nat) : Prop :=
  ((I 13 0 6) = 0 → True) ∧ (¬ (I 13 0 6) = 0 → (vp_in (I 13 0 6) 9) ∧ (fmC_takeJustWhatIsGiven_p I ∧ (fm_let (fmC_takeJustWhatIsGiven_f I) (fun (r1 : fm_MI) => ((r1 13 0 2) = 0 → ((r1 17 ((I 13 0 6).toNatClampNeg) 0) = 23 → ((r1 17 ((I 13 0 6).toNatClampNeg) 1) = 4 → fmC_subject_p r1 ∧ (fmK_sendHere_p (r1 17 ((I 13 0 6).toNatClampNeg) 4) ∧ (fm_let (fmK_sendHere_f r1 ((r1 13 0 1).toNatClampNeg) (r1 17 ((I 13 0 6).toNatClampNeg) 4)) (fun (r2 : fm_MI) => fmC_subject_p r2 ∧ (fmK_sendHereAllFor_p r2 J G ((1, 0)) pb ((r2 13 0 1).toNatClampNeg) (r2 13 0 6) ∧ (fm_let (fmK_sendHereAllFor_f r2 J G ((1, 0)) pb ((r2 13 0 1).toNatClampNeg) (r2 13 0 6)) (fun (r3 : fm_MI) => fmC_put_p (fm_u r3 13 0 6 ((r3 13 0 6) - 1)) (r3 17 ((I 13 0 6).toNatClampNeg) 1)))))))) ∧ (¬ (r1 17 ((I 13 0 6).toNatClampNeg) 1) = 4 → fmC_subject_p (fm_u r1 13 0 2 6) ∧ (fmK_sendHere_p (r1 17 ((I 13 0 6).toNatClampNeg) 4) ∧ (fm_let (fmK_sendHere_f (fm_u r1 13 0 2 6) (((fm_u r1 13 0 2 6) 13 0 1).toNatClampNeg) (r1 17 ((I 13 0 6).toNatClampNeg) 4)) (fun (r5 : fm_MI) => fmC_subject_p r5 ∧ (fmK_sendHereAllFor_p r5 J G ((1, 0)) pb ((r5 13 0 1).toNatClampNeg) (r5 13 0 6) ∧ (fm_let (fmK_sendHereAllFor_f r5 J G ((1, 0)) pb ((r5 13 0 1).toNatClampNeg) (r5 13 0 6)) (fun (r6 : fm_MI) => fmC_put_p (fm_u r6 13 0 6 ((r6 13 0 6) - 1)) (r6 17 ((I 13 0 6).toNatClampNeg) 1))))))))) ∧ (¬ (r1 17 ((I 13 0 6).toNatClampNeg) 0) = 23 → fmC_subject_p r1 ∧ (fmK_sendHereAllFor_p r1 J G ((1, 0)) pb ((r1 13 0 1).toNatClampNeg) (r1 13 0 6) ∧ (fm_let (fmK_sendHereAllFor_f r1 J G ((1, 0)) pb ((r1 13 0 1).toNatClampNeg) (r1 13 0 6)) (fun (r8 : fm_MI) => fmC_put_p (fm_u r8 13 0 6 ((r8 13 0 6) - 1)) (r8 17 ((I 13 0 6).toNatClampNeg) 1)))))) ∧ (¬ (r1 13 0 2) = 0 → ((r1 17 ((I 13 0 6).toNatClampNeg) 0) = 23 → fmC_subject_p r1 ∧ (fmK_sendHere_p (r1 17 ((I 13 0 6).toNatClampNeg) 4) ∧ (fm_let (fmK_sendHere_f r1 ((r1 13 0 1).toNatClampNeg) (r1 17 ((I 13 0 6).toNatClampNeg) 4)) (fun (r10 : fm_MI) => fmC_subject_p r10 ∧ (fmK_sendHereAllFor_p r10 J G ((1, 0)) pb ((r10 13 0 1).toNatClampNeg) (r10 13 0 6) ∧ (fm_let (fmK_sendHereAllFor_f r10 J G ((1, 0)) pb ((r10 13 0 1).toNatClampNeg) (r10 13 0 6)) (fun (r11 : fm_MI) => fmC_put_p (fm_u r11 13 0 6 ((r11 13 0 6) - 1)) (r11 17 ((I 13 0 6).toNatClampNeg) 1)))))))) ∧ (¬ (r1 17 ((I 13 0 6).toNatClampNeg) 0) = 23 → fmC_subject_p r1 ∧ (fmK_sendHereAllFor_p r1 J G ((1, 0)) pb ((r1 13 0 1).toNatClampNeg) (r1 13 0 6) ∧ (fm_let (fmK_sendHereAllFor_f r1 J G ((1, 0)) pb ((r1 13 0 1).toNatClampNeg) (r1 13 0 6)) (fun (r13 : fm_MI) => fmC_put_p (fm_u r13 13 0 6 ((r13 13 0 6) - 1)) (r13 17 ((I 13 0 6).toNatClampNeg) 1))))))))))
set_option maxRecDepth 100000 in
set_option maxHeartbeats 4000000 in
theorem fmC_closeFrame_c {E : fm_Ev} (hl : E.1.stackTraces = false) {d : Nat} (hd : 2 ≤ d) (I : fm_MI) (J : fm_MJ) (G : fm_MG) (pb : Nat × Nat) (hp : fmC_closeFrame_p I J G pb) : fm_Ct E d fmC_closeFrame 0 [.inr (.inr (.inr (.inr (13, 0))))] (I, J, G, fm_P (1, 0) pb) none (fmC_closeFrame_f I J G pb, J, G, fm_P (1, 0) pb) := by
  obtain ⟨d, rfl⟩ : ∃ d', d = d' + 1 := ⟨d - 1, by omega⟩
  refine fm_ct fmC_closeFrame_o hl (Nat.le_of_ble_eq_true rfl) ?_
  have O := fmC_closeFrame_o.1
  unfold fmC_closeFrame_p at hp
  have he := fmC_closeFrame_e I J G pb
  refine fm_gr O 2 (C' := (4, [(0, .inr (.inr (.inr (.inr (13, 0)))))], [.inl (I 13 0 6)], (I, J, G, fm_P (1, 0) pb))) rfl ?_
  refine fm_gb O rfl (fun h => ?_) (fun h => ?_)
  · have h1 : (I 13 0 6) = 0 := h
    have he := he.trans (if_pos h1)
    refine fm_gr O 3 (C' := (12, [(0, .inr (.inr (.inr (.inr (13, 0)))))], [], (fm_u I 13 0 2 5, J, G, fm_P (1, 0) pb))) rfl ?_
    exact fm_gRe O rfl trivial (by first | (rw [he]; done) | (rw [he]; rfl) | rfl) (by first | (rw [he]; done) | (rw [he]; rfl) | rfl)
  · have h1 : ¬ (I 13 0 6) = 0 := h
    have he := he.trans (if_neg h1)
    have hp := hp.2 h1
    refine fm_gr O 4 (C' := (21, [(0, .inr (.inr (.inr (.inr (13, 0)))))], [.inl (I 13 0 6), .inr (.inr (.inr (.inr (16, 0))))], (I, J, G, fm_P (1, 0) pb))) rfl ?_
    refine fm_gg O rfl hp.1 ?_
    have hp := hp.2
    refine fm_gr O 2 (C' := (24, [(1, .inr (.inr (.inr (.inr (17, (I 13 0 6).toNatClampNeg))))), (0, .inr (.inr (.inr (.inr (13, 0)))))], [.inr (.inr (.inr (.inr (13, 0))))], (I, J, G, fm_P (1, 0) pb))) rfl ?_
    have hc := hp.1
    have hp := hp.2
    have K := fmC_takeJustWhatIsGiven_c (d := d) hl (by omega) I J G pb hc
    generalize er1 : fmC_takeJustWhatIsGiven_f I = r1 at he hp
    have he := he.trans (fm_letE _ _)
    have hp := fm_letP hp
    rw [er1] at K
    refine fm_cV0 O fmC_takeJustWhatIsGiven_o (i := 0) (as := []) (rest := []) (v := none) rfl fk_1_132 rfl (by decide) fn_C_takeJustWhatIsGiven (Nat.le_of_ble_eq_true rfl) (K) ?_
    refine fm_gr O 2 (C' := (31, [(1, .inr (.inr (.inr (.inr (17, (I 13 0 6).toNatClampNeg))))), (0, .inr (.inr (.inr (.inr (13, 0)))))], [.inl (r1 13 0 2)], (r1, J, G, fm_P (1, 0) pb))) rfl ?_
    refine fm_gb O rfl (fun h => ?_) (fun h => ?_)
    · have h2 : (r1 13 0 2) = 0 := h
      have he := he.trans (if_pos h2)
      have hp := hp.1 h2
      refine fm_gr O 3 (C' := (40, [(1, .inr (.inr (.inr (.inr (17, (I 13 0 6).toNatClampNeg))))), (0, .inr (.inr (.inr (.inr (13, 0)))))], [.inl 23, .inl (r1 17 ((I 13 0 6).toNatClampNeg) 0)], (r1, J, G, fm_P (1, 0) pb))) rfl ?_
      refine fm_gb O rfl (fun h => ?_) (fun h => ?_)
      · have h3 : (r1 17 ((I 13 0 6).toNatClampNeg) 0) = 23 := h
        have he := he.trans (if_pos h3)
        have hp := hp.1 h3
        refine fm_gr O 3 (C' := (48, [(1, .inr (.inr (.inr (.inr (17, (I 13 0 6).toNatClampNeg))))), (0, .inr (.inr (.inr (.inr (13, 0)))))], [.inl 4, .inl (r1 17 ((I 13 0 6).toNatClampNeg) 1)], (r1, J, G, fm_P (1, 0) pb))) rfl ?_
        refine fm_gb O rfl (fun h => ?_) (fun h => ?_)
        · have h4 : (r1 17 ((I 13 0 6).toNatClampNeg) 1) = 4 := h
          have he := he.trans (if_pos h4)
          have hp := hp.1 h4
          refine fm_gr O 3 (C' := (63, [(1, .inr (.inr (.inr (.inr (17, (I 13 0 6).toNatClampNeg))))), (0, .inr (.inr (.inr (.inr (13, 0)))))], [.inl 23, .inl (r1 17 ((I 13 0 6).toNatClampNeg) 0)], (r1, J, G, fm_P (1, 0) pb))) rfl ?_
          refine fm_gb O rfl (fun h => ?_) (fun h => ?_)
          rotate_left
          · exact absurd h3 h
          · refine fm_gr O 1 (C' := (67, [(1, .inr (.inr (.inr (.inr (17, (I 13 0 6).toNatClampNeg))))), (0, .inr (.inr (.inr (.inr (13, 0)))))], [.inr (.inr (.inr (.inr (13, 0))))], (r1, J, G, fm_P (1, 0) pb))) rfl ?_
            have hc := hp.1
            have hp := hp.2
            have K := fmC_subject_c (d := d) hl (by omega) r1 J G pb hc
            refine fm_cV0 O fmC_subject_o (i := 0) (as := []) (rest := []) (v := some (.inr (.inr (.inr (.inr (2, (r1 13 0 1).toNatClampNeg)))))) rfl fk_1_41 rfl (by decide) fn_C_subject (Nat.le_of_ble_eq_true rfl) (K) ?_
            refine fm_gr O 3 (C' := (77, [(1, .inr (.inr (.inr (.inr (17, (I 13 0 6).toNatClampNeg))))), (0, .inr (.inr (.inr (.inr (13, 0)))))], [.inl (r1 17 ((I 13 0 6).toNatClampNeg) 4), .inr (.inr (.inr (.inr (6, (r1 13 0 1).toNatClampNeg))))], (r1, J, G, fm_P (1, 0) pb))) rfl ?_
            have hc := hp.1
            have hp := hp.2
            have K := fmK_sendHere_c (d := d) hl (by omega) r1 J G ((1, 0)) pb ((r1 13 0 1).toNatClampNeg) (r1 17 ((I 13 0 6).toNatClampNeg) 4) hc
            generalize er2 : fmK_sendHere_f r1 ((r1 13 0 1).toNatClampNeg) (r1 17 ((I 13 0 6).toNatClampNeg) 4) = r2 at he hp
            have he := he.trans (fm_letE _ _)
            have hp := fm_letP hp
            rw [er2] at K
            refine fm_cV0 O fmK_sendHere_o (i := (r1 13 0 1).toNatClampNeg) (as := [.inl (r1 17 ((I 13 0 6).toNatClampNeg) 4)]) (rest := []) (v := none) rfl fk_1_138 rfl (by decide) fn_K_sendHere (Nat.le_of_ble_eq_true rfl) (K) ?_
            refine fm_gr O 1 (C' := (81, [(1, .inr (.inr (.inr (.inr (17, (I 13 0 6).toNatClampNeg))))), (0, .inr (.inr (.inr (.inr (13, 0)))))], [.inr (.inr (.inr (.inr (13, 0))))], (r2, J, G, fm_P (1, 0) pb))) rfl ?_
            have hc := hp.1
            have hp := hp.2
            have K := fmC_subject_c (d := d) hl (by omega) r2 J G pb hc
            refine fm_cV0 O fmC_subject_o (i := 0) (as := []) (rest := []) (v := some (.inr (.inr (.inr (.inr (2, (r2 13 0 1).toNatClampNeg)))))) rfl fk_1_41 rfl (by decide) fn_C_subject (Nat.le_of_ble_eq_true rfl) (K) ?_
            refine fm_gr O 3 (C' := (91, [(1, .inr (.inr (.inr (.inr (17, (I 13 0 6).toNatClampNeg))))), (0, .inr (.inr (.inr (.inr (13, 0)))))], [.inl (r2 13 0 6), .inr (.inr (.inr (.inr (6, (r2 13 0 1).toNatClampNeg))))], (r2, J, G, fm_P (1, 0) pb))) rfl ?_
            have hc := hp.1
            have hp := hp.2
            have K := fmK_sendHereAllFor_c (d := d) hl (by omega) r2 J G ((1, 0)) pb ((r2 13 0 1).toNatClampNeg) (r2 13 0 6) hc
            generalize er3 : fmK_sendHereAllFor_f r2 J G ((1, 0)) pb ((r2 13 0 1).toNatClampNeg) (r2 13 0 6) = r3 at he hp
            have he := he.trans (fm_letE _ _)
            have hp := fm_letP hp
            rw [er3] at K
            refine fm_cV0 O fmK_sendHereAllFor_o (i := (r2 13 0 1).toNatClampNeg) (as := [.inl (r2 13 0 6)]) (rest := []) (v := none) rfl fk_1_147 rfl (by decide) fn_K_sendHereAllFor (Nat.le_of_ble_eq_true rfl) (K) ?_
            refine fm_gr O 9 (C' := (109, [(1, .inr (.inr (.inr (.inr (17, (I 13 0 6).toNatClampNeg))))), (0, .inr (.inr (.inr (.inr (13, 0)))))], [.inl (r3 17 ((I 13 0 6).toNatClampNeg) 1), .inr (.inr (.inr (.inr (13, 0))))], (fm_u r3 13 0 6 ((r3 13 0 6) - 1), J, G, fm_P (1, 0) pb))) rfl ?_
            have K := fmC_put_c (d := d) hl (by omega) (fm_u r3 13 0 6 ((r3 13 0 6) - 1)) J G pb (r3 17 ((I 13 0 6).toNatClampNeg) 1) hp
            generalize er4 : fmC_put_f (fm_u r3 13 0 6 ((r3 13 0 6) - 1)) (r3 17 ((I 13 0 6).toNatClampNeg) 1) = r4 at he
            have he := he.trans (fm_letE _ _)
            rw [er4] at K
            refine fm_cV0 O fmC_put_o (i := 0) (as := [.inl (r3 17 ((I 13 0 6).toNatClampNeg) 1)]) (rest := []) (v := none) rfl fk_1_105 rfl (by decide) fn_C_put (Nat.le_of_ble_eq_true rfl) (K) ?_
            exact fm_gRe O rfl trivial (by first | (rw [he]; done) | (rw [he]; rfl) | rfl) (by first | (rw [he]; done) | (rw [he]; rfl) | rfl)
        · have h4 : ¬ (r1 17 ((I 13 0 6).toNatClampNeg) 1) = 4 := h
          have he := he.trans (if_neg h4)
          have hp := hp.2 h4
          refine fm_gr O 6 (C' := (63, [(1, .inr (.inr (.inr (.inr (17, (I 13 0 6).toNatClampNeg))))), (0, .inr (.inr (.inr (.inr (13, 0)))))], [.inl 23, .inl (r1 17 ((I 13 0 6).toNatClampNeg) 0)], (fm_u r1 13 0 2 6, J, G, fm_P (1, 0) pb))) rfl ?_
          refine fm_gb O rfl (fun h => ?_) (fun h => ?_)
          rotate_left
          · exact absurd h3 h
          · refine fm_gr O 1 (C' := (67, [(1, .inr (.inr (.inr (.inr (17, (I 13 0 6).toNatClampNeg))))), (0, .inr (.inr (.inr (.inr (13, 0)))))], [.inr (.inr (.inr (.inr (13, 0))))], (fm_u r1 13 0 2 6, J, G, fm_P (1, 0) pb))) rfl ?_
            have hc := hp.1
            have hp := hp.2
            have K := fmC_subject_c (d := d) hl (by omega) (fm_u r1 13 0 2 6) J G pb hc
            refine fm_cV0 O fmC_subject_o (i := 0) (as := []) (rest := []) (v := some (.inr (.inr (.inr (.inr (2, ((fm_u r1 13 0 2 6) 13 0 1).toNatClampNeg)))))) rfl fk_1_41 rfl (by decide) fn_C_subject (Nat.le_of_ble_eq_true rfl) (K) ?_
            refine fm_gr O 3 (C' := (77, [(1, .inr (.inr (.inr (.inr (17, (I 13 0 6).toNatClampNeg))))), (0, .inr (.inr (.inr (.inr (13, 0)))))], [.inl (r1 17 ((I 13 0 6).toNatClampNeg) 4), .inr (.inr (.inr (.inr (6, ((fm_u r1 13 0 2 6) 13 0 1).toNatClampNeg))))], (fm_u r1 13 0 2 6, J, G, fm_P (1, 0) pb))) rfl ?_
            have hc := hp.1
            have hp := hp.2
            have K := fmK_sendHere_c (d := d) hl (by omega) (fm_u r1 13 0 2 6) J G ((1, 0)) pb (((fm_u r1 13 0 2 6) 13 0 1).toNatClampNeg) (r1 17 ((I 13 0 6).toNatClampNeg) 4) hc
            generalize er5 : fmK_sendHere_f (fm_u r1 13 0 2 6) (((fm_u r1 13 0 2 6) 13 0 1).toNatClampNeg) (r1 17 ((I 13 0 6).toNatClampNeg) 4) = r5 at he hp
            have he := he.trans (fm_letE _ _)
            have hp := fm_letP hp
            rw [er5] at K
            refine fm_cV0 O fmK_sendHere_o (i := ((fm_u r1 13 0 2 6) 13 0 1).toNatClampNeg) (as := [.inl (r1 17 ((I 13 0 6).toNatClampNeg) 4)]) (rest := []) (v := none) rfl fk_1_138 rfl (by decide) fn_K_sendHere (Nat.le_of_ble_eq_true rfl) (K) ?_
            refine fm_gr O 1 (C' := (81, [(1, .inr (.inr (.inr (.inr (17, (I 13 0 6).toNatClampNeg))))), (0, .inr (.inr (.inr (.inr (13, 0)))))], [.inr (.inr (.inr (.inr (13, 0))))], (r5, J, G, fm_P (1, 0) pb))) rfl ?_
            have hc := hp.1
            have hp := hp.2
            have K := fmC_subject_c (d := d) hl (by omega) r5 J G pb hc
            refine fm_cV0 O fmC_subject_o (i := 0) (as := []) (rest := []) (v := some (.inr (.inr (.inr (.inr (2, (r5 13 0 1).toNatClampNeg)))))) rfl fk_1_41 rfl (by decide) fn_C_subject (Nat.le_of_ble_eq_true rfl) (K) ?_
            refine fm_gr O 3 (C' := (91, [(1, .inr (.inr (.inr (.inr (17, (I 13 0 6).toNatClampNeg))))), (0, .inr (.inr (.inr (.inr (13, 0)))))], [.inl (r5 13 0 6), .inr (.inr (.inr (.inr (6, (r5 13 0 1).toNatClampNeg))))], (r5, J, G, fm_P (1, 0) pb))) rfl ?_
            have hc := hp.1
            have hp := hp.2
            have K := fmK_sendHereAllFor_c (d := d) hl (by omega) r5 J G ((1, 0)) pb ((r5 13 0 1).toNatClampNeg) (r5 13 0 6) hc
            generalize er6 : fmK_sendHereAllFor_f r5 J G ((1, 0)) pb ((r5 13 0 1).toNatClampNeg) (r5 13 0 6) = r6 at he hp
            have he := he.trans (fm_letE _ _)
            have hp := fm_letP hp
            rw [er6] at K
            refine fm_cV0 O fmK_sendHereAllFor_o (i := (r5 13 0 1).toNatClampNeg) (as := [.inl (r5 13 0 6)]) (rest := []) (v := none) rfl fk_1_147 rfl (by decide) fn_K_sendHereAllFor (Nat.le_of_ble_eq_true rfl) (K) ?_
            refine fm_gr O 9 (C' := (109, [(1, .inr (.inr (.inr (.inr (17, (I 13 0 6).toNatClampNeg))))), (0, .inr (.inr (.inr (.inr (13, 0)))))], [.inl (r6 17 ((I 13 0 6).toNatClampNeg) 1), .inr (.inr (.inr (.inr (13, 0))))], (fm_u r6 13 0 6 ((r6 13 0 6) - 1), J, G, fm_P (1, 0) pb))) rfl ?_
            have K := fmC_put_c (d := d) hl (by omega) (fm_u r6 13 0 6 ((r6 13 0 6) - 1)) J G pb (r6 17 ((I 13 0 6).toNatClampNeg) 1) hp
            generalize er7 : fmC_put_f (fm_u r6 13 0 6 ((r6 13 0 6) - 1)) (r6 17 ((I 13 0 6).toNatClampNeg) 1) = r7 at he
            have he := he.trans (fm_letE _ _)
            rw [er7] at K
            refine fm_cV0 O fmC_put_o (i := 0) (as := [.inl (r6 17 ((I 13 0 6).toNatClampNeg) 1)]) (rest := []) (v := none) rfl fk_1_105 rfl (by decide) fn_C_put (Nat.le_of_ble_eq_true rfl) (K) ?_
            exact fm_gRe O rfl trivial (by first | (rw [he]; done) | (rw [he]; rfl) | rfl) (by first | (rw [he]; done) | (rw [he]; rfl) | rfl)
      · have h3 : ¬ (r1 17 ((I 13 0 6).toNatClampNeg) 0) = 23 := h
        have he := he.trans (if_neg h3)
        have hp := hp.2 h3
        refine fm_gr O 3 (C' := (63, [(1, .inr (.inr (.inr (.inr (17, (I 13 0 6).toNatClampNeg))))), (0, .inr (.inr (.inr (.inr (13, 0)))))], [.inl 23, .inl (r1 17 ((I 13 0 6).toNatClampNeg) 0)], (r1, J, G, fm_P (1, 0) pb))) rfl ?_
        refine fm_gb O rfl (fun h => ?_) (fun h => ?_)
        · exact absurd h h3
        · refine fm_gr O 1 (C' := (81, [(1, .inr (.inr (.inr (.inr (17, (I 13 0 6).toNatClampNeg))))), (0, .inr (.inr (.inr (.inr (13, 0)))))], [.inr (.inr (.inr (.inr (13, 0))))], (r1, J, G, fm_P (1, 0) pb))) rfl ?_
          have hc := hp.1
          have hp := hp.2
          have K := fmC_subject_c (d := d) hl (by omega) r1 J G pb hc
          refine fm_cV0 O fmC_subject_o (i := 0) (as := []) (rest := []) (v := some (.inr (.inr (.inr (.inr (2, (r1 13 0 1).toNatClampNeg)))))) rfl fk_1_41 rfl (by decide) fn_C_subject (Nat.le_of_ble_eq_true rfl) (K) ?_
          refine fm_gr O 3 (C' := (91, [(1, .inr (.inr (.inr (.inr (17, (I 13 0 6).toNatClampNeg))))), (0, .inr (.inr (.inr (.inr (13, 0)))))], [.inl (r1 13 0 6), .inr (.inr (.inr (.inr (6, (r1 13 0 1).toNatClampNeg))))], (r1, J, G, fm_P (1, 0) pb))) rfl ?_
          have hc := hp.1
          have hp := hp.2
          have K := fmK_sendHereAllFor_c (d := d) hl (by omega) r1 J G ((1, 0)) pb ((r1 13 0 1).toNatClampNeg) (r1 13 0 6) hc
          generalize er8 : fmK_sendHereAllFor_f r1 J G ((1, 0)) pb ((r1 13 0 1).toNatClampNeg) (r1 13 0 6) = r8 at he hp
          have he := he.trans (fm_letE _ _)
          have hp := fm_letP hp
          rw [er8] at K
          refine fm_cV0 O fmK_sendHereAllFor_o (i := (r1 13 0 1).toNatClampNeg) (as := [.inl (r1 13 0 6)]) (rest := []) (v := none) rfl fk_1_147 rfl (by decide) fn_K_sendHereAllFor (Nat.le_of_ble_eq_true rfl) (K) ?_
          refine fm_gr O 9 (C' := (109, [(1, .inr (.inr (.inr (.inr (17, (I 13 0 6).toNatClampNeg))))), (0, .inr (.inr (.inr (.inr (13, 0)))))], [.inl (r8 17 ((I 13 0 6).toNatClampNeg) 1), .inr (.inr (.inr (.inr (13, 0))))], (fm_u r8 13 0 6 ((r8 13 0 6) - 1), J, G, fm_P (1, 0) pb))) rfl ?_
          have K := fmC_put_c (d := d) hl (by omega) (fm_u r8 13 0 6 ((r8 13 0 6) - 1)) J G pb (r8 17 ((I 13 0 6).toNatClampNeg) 1) hp
          generalize er9 : fmC_put_f (fm_u r8 13 0 6 ((r8 13 0 6) - 1)) (r8 17 ((I 13 0 6).toNatClampNeg) 1) = r9 at he
          have he := he.trans (fm_letE _ _)
          rw [er9] at K
          refine fm_cV0 O fmC_put_o (i := 0) (as := [.inl (r8 17 ((I 13 0 6).toNatClampNeg) 1)]) (rest := []) (v := none) rfl fk_1_105 rfl (by decide) fn_C_put (Nat.le_of_ble_eq_true rfl) (K) ?_
          exact fm_gRe O rfl trivial (by first | (rw [he]; done) | (rw [he]; rfl) | rfl) (by first | (rw [he]; done) | (rw [he]; rfl) | rfl)
    · have h2 : ¬ (r1 13 0 2) = 0 := h
      have he := he.trans (if_neg h2)
      have hp := hp.2 h2
      refine fm_gr O 3 (C' := (63, [(1, .inr (.inr (.inr (.inr (17, (I 13 0 6).toNatClampNeg))))), (0, .inr (.inr (.inr (.inr (13, 0)))))], [.inl 23, .inl (r1 17 ((I 13 0 6).toNatClampNeg) 0)], (r1, J, G, fm_P (1, 0) pb))) rfl ?_
      refine fm_gb O rfl (fun h => ?_) (fun h => ?_)
      · have h3 : (r1 17 ((I 13 0 6).toNatClampNeg) 0) = 23 := h
        have he := he.trans (if_pos h3)
        have hp := hp.1 h3
        refine fm_gr O 1 (C' := (67, [(1, .inr (.inr (.inr (.inr (17, (I 13 0 6).toNatClampNeg))))), (0, .inr (.inr (.inr (.inr (13, 0)))))], [.inr (.inr (.inr (.inr (13, 0))))], (r1, J, G, fm_P (1, 0) pb))) rfl ?_
        have hc := hp.1
        have hp := hp.2
        have K := fmC_subject_c (d := d) hl (by omega) r1 J G pb hc
        refine fm_cV0 O fmC_subject_o (i := 0) (as := []) (rest := []) (v := some (.inr (.inr (.inr (.inr (2, (r1 13 0 1).toNatClampNeg)))))) rfl fk_1_41 rfl (by decide) fn_C_subject (Nat.le_of_ble_eq_true rfl) (K) ?_
        refine fm_gr O 3 (C' := (77, [(1, .inr (.inr (.inr (.inr (17, (I 13 0 6).toNatClampNeg))))), (0, .inr (.inr (.inr (.inr (13, 0)))))], [.inl (r1 17 ((I 13 0 6).toNatClampNeg) 4), .inr (.inr (.inr (.inr (6, (r1 13 0 1).toNatClampNeg))))], (r1, J, G, fm_P (1, 0) pb))) rfl ?_
        have hc := hp.1
        have hp := hp.2
        have K := fmK_sendHere_c (d := d) hl (by omega) r1 J G ((1, 0)) pb ((r1 13 0 1).toNatClampNeg) (r1 17 ((I 13 0 6).toNatClampNeg) 4) hc
        generalize er10 : fmK_sendHere_f r1 ((r1 13 0 1).toNatClampNeg) (r1 17 ((I 13 0 6).toNatClampNeg) 4) = r10 at he hp
        have he := he.trans (fm_letE _ _)
        have hp := fm_letP hp
        rw [er10] at K
        refine fm_cV0 O fmK_sendHere_o (i := (r1 13 0 1).toNatClampNeg) (as := [.inl (r1 17 ((I 13 0 6).toNatClampNeg) 4)]) (rest := []) (v := none) rfl fk_1_138 rfl (by decide) fn_K_sendHere (Nat.le_of_ble_eq_true rfl) (K) ?_
        refine fm_gr O 1 (C' := (81, [(1, .inr (.inr (.inr (.inr (17, (I 13 0 6).toNatClampNeg))))), (0, .inr (.inr (.inr (.inr (13, 0)))))], [.inr (.inr (.inr (.inr (13, 0))))], (r10, J, G, fm_P (1, 0) pb))) rfl ?_
        have hc := hp.1
        have hp := hp.2
        have K := fmC_subject_c (d := d) hl (by omega) r10 J G pb hc
        refine fm_cV0 O fmC_subject_o (i := 0) (as := []) (rest := []) (v := some (.inr (.inr (.inr (.inr (2, (r10 13 0 1).toNatClampNeg)))))) rfl fk_1_41 rfl (by decide) fn_C_subject (Nat.le_of_ble_eq_true rfl) (K) ?_
        refine fm_gr O 3 (C' := (91, [(1, .inr (.inr (.inr (.inr (17, (I 13 0 6).toNatClampNeg))))), (0, .inr (.inr (.inr (.inr (13, 0)))))], [.inl (r10 13 0 6), .inr (.inr (.inr (.inr (6, (r10 13 0 1).toNatClampNeg))))], (r10, J, G, fm_P (1, 0) pb))) rfl ?_
        have hc := hp.1
        have hp := hp.2
        have K := fmK_sendHereAllFor_c (d := d) hl (by omega) r10 J G ((1, 0)) pb ((r10 13 0 1).toNatClampNeg) (r10 13 0 6) hc
        generalize er11 : fmK_sendHereAllFor_f r10 J G ((1, 0)) pb ((r10 13 0 1).toNatClampNeg) (r10 13 0 6) = r11 at he hp
        have he := he.trans (fm_letE _ _)
        have hp := fm_letP hp
        rw [er11] at K
        refine fm_cV0 O fmK_sendHereAllFor_o (i := (r10 13 0 1).toNatClampNeg) (as := [.inl (r10 13 0 6)]) (rest := []) (v := none) rfl fk_1_147 rfl (by decide) fn_K_sendHereAllFor (Nat.le_of_ble_eq_true rfl) (K) ?_
        refine fm_gr O 9 (C' := (109, [(1, .inr (.inr (.inr (.inr (17, (I 13 0 6).toNatClampNeg))))), (0, .inr (.inr (.inr (.inr (13, 0)))))], [.inl (r11 17 ((I 13 0 6).toNatClampNeg) 1), .inr (.inr (.inr (.inr (13, 0))))], (fm_u r11 13 0 6 ((r11 13 0 6) - 1), J, G, fm_P (1, 0) pb))) rfl ?_
        have K := fmC_put_c (d := d) hl (by omega) (fm_u r11 13 0 6 ((r11 13 0 6) - 1)) J G pb (r11 17 ((I 13 0 6).toNatClampNeg) 1) hp
        generalize er12 : fmC_put_f (fm_u r11 13 0 6 ((r11 13 0 6) - 1)) (r11 17 ((I 13 0 6).toNatClampNeg) 1) = r12 at he
        have he := he.trans (fm_letE _ _)
        rw [er12] at K
        refine fm_cV0 O fmC_put_o (i := 0) (as := [.inl (r11 17 ((I 13 0 6).toNatClampNeg) 1)]) (rest := []) (v := none) rfl fk_1_105 rfl (by decide) fn_C_put (Nat.le_of_ble_eq_true rfl) (K) ?_
        exact fm_gRe O rfl trivial (by first | (rw [he]; done) | (rw [he]; rfl) | rfl) (by first | (rw [he]; done) | (rw [he]; rfl) | rfl)
      · have h3 : ¬ (r1 17 ((I 13 0 6).toNatClampNeg) 0) = 23 := h
        have he := he.trans (if_neg h3)
        have hp := hp.2 h3
        refine fm_gr O 1 (C' := (81, [(1, .inr (.inr (.inr (.inr (17, (I 13 0 6).toNatClampNeg))))), (0, .inr (.inr (.inr (.inr (13, 0)))))], [.inr (.inr (.inr (.inr (13, 0))))], (r1, J, G, fm_P (1, 0) pb))) rfl ?_
        have hc := hp.1
        have hp := hp.2
        have K := fmC_subject_c (d := d) hl (by omega) r1 J G pb hc
        refine fm_cV0 O fmC_subject_o (i := 0) (as := []) (rest := []) (v := some (.inr (.inr (.inr (.inr (2, (r1 13 0 1).toNatClampNeg)))))) rfl fk_1_41 rfl (by decide) fn_C_subject (Nat.le_of_ble_eq_true rfl) (K) ?_
        refine fm_gr O 3 (C' := (91, [(1, .inr (.inr (.inr (.inr (17, (I 13 0 6).toNatClampNeg))))), (0, .inr (.inr (.inr (.inr (13, 0)))))], [.inl (r1 13 0 6), .inr (.inr (.inr (.inr (6, (r1 13 0 1).toNatClampNeg))))], (r1, J, G, fm_P (1, 0) pb))) rfl ?_
        have hc := hp.1
        have hp := hp.2
        have K := fmK_sendHereAllFor_c (d := d) hl (by omega) r1 J G ((1, 0)) pb ((r1 13 0 1).toNatClampNeg) (r1 13 0 6) hc
        generalize er13 : fmK_sendHereAllFor_f r1 J G ((1, 0)) pb ((r1 13 0 1).toNatClampNeg) (r1 13 0 6) = r13 at he hp
        have he := he.trans (fm_letE _ _)
        have hp := fm_letP hp
        rw [er13] at K
        refine fm_cV0 O fmK_sendHereAllFor_o (i := (r1 13 0 1).toNatClampNeg) (as := [.inl (r1 13 0 6)]) (rest := []) (v := none) rfl fk_1_147 rfl (by decide) fn_K_sendHereAllFor (Nat.le_of_ble_eq_true rfl) (K) ?_
        refine fm_gr O 9 (C' := (109, [(1, .inr (.inr (.inr (.inr (17, (I 13 0 6).toNatClampNeg))))), (0, .inr (.inr (.inr (.inr (13, 0)))))], [.inl (r13 17 ((I 13 0 6).toNatClampNeg) 1), .inr (.inr (.inr (.inr (13, 0))))], (fm_u r13 13 0 6 ((r13 13 0 6) - 1), J, G, fm_P (1, 0) pb))) rfl ?_
        have K := fmC_put_c (d := d) hl (by omega) (fm_u r13 13 0 6 ((r13 13 0 6) - 1)) J G pb (r13 17 ((I 13 0 6).toNatClampNeg) 1) hp
        generalize er14 : fmC_put_f (fm_u r13 13 0 6 ((r13 13 0 6) - 1)) (r13 17 ((I 13 0 6).toNatClampNeg) 1) = r14 at he
        have he := he.trans (fm_letE _ _)
        rw [er14] at K
        refine fm_cV0 O fmC_put_o (i := 0) (as := [.inl (r13 17 ((I 13 0 6).toNatClampNeg) 1)]) (rest := []) (v := none) rfl fk_1_105 rfl (by decide) fn_C_put (Nat.le_of_ble_eq_true rfl) (K) ?_
        exact fm_gRe O rfl trivial (by first | (rw [he]; done) | (rw [he]; rfl) | rfl) (by first | (rw [he]; done) | (rw [he]; rfl) | rfl)
def fmC_endOfCode_f (I : fm_MI) (J : fm_MJ) (G : fm_MG) (pb : Nat × Nat) : fm_MI :=
  if (I 13 0 6) = 0 then (fm_let (fmC_takeJustWhatIsGiven_f I) (fun (r1 : fm_MI) => fm_let (fmK_sendHereAllFor_f r1 J G ((1, 0)) pb ((r1 13 0 1).toNatClampNeg) 0) (fun (r2 : fm_MI) => r2))) else (fm_u I 13 0 2 5)
theorem fmC_endOfCode_e (I : fm_MI) (J : fm_MJ) (G : fm_MG) (pb : Nat × Nat) : fmC_endOfCode_f I J G pb = if (I 13 0 6) = 0 then (fm_let (fmC_takeJustWhatIsGiven_f I) (fun (r1 : fm_MI) => fm_let (fmK_sendHereAllFor_f r1 J G ((1, 0)) pb ((r1 13 0 1).toNatClampNeg) 0) (fun (r2 : fm_MI) => r2))) else (fm_u I 13 0 2 5) := rfl
def fmC_endOfCode_p (I : fm_MI) (J : fm_MJ) (G : fm_MG) (pb : Nat × Nat) : Prop :=
  ((I 13 0 6) = 0 → fmC_takeJustWhatIsGiven_p I ∧ (fm_let (fmC_takeJustWhatIsGiven_f I) (fun (r1 : fm_MI) => fmC_subject_p r1 ∧ (fmK_sendHereAllFor_p r1 J G ((1, 0)) pb ((r1 13 0 1).toNatClampNeg) 0)))) ∧ (¬ (I 13 0 6) = 0 → True)
set_option maxRecDepth 100000 in
set_option maxHeartbeats 4000000 in
theorem fmC_endOfCode_c {E : fm_Ev} (hl : E.1.stackTraces = false) {d : Nat} (hd : 2 ≤ d) (I : fm_MI) (J : fm_MJ) (G : fm_MG) (pb : Nat × Nat) (hp : fmC_endOfCode_p I J G pb) : fm_Ct E d fmC_endOfCode 0 [.inr (.inr (.inr (.inr (13, 0))))] (I, J, G, fm_P (1, 0) pb) none (fmC_endOfCode_f I J G pb, J, G, fm_P (1, 0) pb) := by
  obtain ⟨d, rfl⟩ : ∃ d', d = d' + 1 := ⟨d - 1, by omega⟩
  refine fm_ct fmC_endOfCode_o hl (Nat.le_of_ble_eq_true rfl) ?_
  have O := fmC_endOfCode_o.1
  unfold fmC_endOfCode_p at hp
  have he := fmC_endOfCode_e I J G pb
  refine fm_gr O 2 (C' := (4, [(0, .inr (.inr (.inr (.inr (13, 0)))))], [.inl (I 13 0 6)], (I, J, G, fm_P (1, 0) pb))) rfl ?_
  refine fm_gb O rfl (fun h => ?_) (fun h => ?_)
  · have h1 : (I 13 0 6) = 0 := h
    have he := he.trans (if_pos h1)
    have hp := hp.1 h1
    refine fm_gr O 1 (C' := (14, [(0, .inr (.inr (.inr (.inr (13, 0)))))], [.inr (.inr (.inr (.inr (13, 0))))], (I, J, G, fm_P (1, 0) pb))) rfl ?_
    have hc := hp.1
    have hp := hp.2
    have K := fmC_takeJustWhatIsGiven_c (d := d) hl (by omega) I J G pb hc
    generalize er1 : fmC_takeJustWhatIsGiven_f I = r1 at he hp
    have he := he.trans (fm_letE _ _)
    have hp := fm_letP hp
    rw [er1] at K
    refine fm_cV0 O fmC_takeJustWhatIsGiven_o (i := 0) (as := []) (rest := []) (v := none) rfl fk_1_132 rfl (by decide) fn_C_takeJustWhatIsGiven (Nat.le_of_ble_eq_true rfl) (K) ?_
    refine fm_gr O 1 (C' := (18, [(0, .inr (.inr (.inr (.inr (13, 0)))))], [.inr (.inr (.inr (.inr (13, 0))))], (r1, J, G, fm_P (1, 0) pb))) rfl ?_
    have hc := hp.1
    have hp := hp.2
    have K := fmC_subject_c (d := d) hl (by omega) r1 J G pb hc
    refine fm_cV0 O fmC_subject_o (i := 0) (as := []) (rest := []) (v := some (.inr (.inr (.inr (.inr (2, (r1 13 0 1).toNatClampNeg)))))) rfl fk_1_41 rfl (by decide) fn_C_subject (Nat.le_of_ble_eq_true rfl) (K) ?_
    refine fm_gr O 2 (C' := (25, [(0, .inr (.inr (.inr (.inr (13, 0)))))], [.inl 0, .inr (.inr (.inr (.inr (6, (r1 13 0 1).toNatClampNeg))))], (r1, J, G, fm_P (1, 0) pb))) rfl ?_
    have K := fmK_sendHereAllFor_c (d := d) hl (by omega) r1 J G ((1, 0)) pb ((r1 13 0 1).toNatClampNeg) 0 hp
    generalize er2 : fmK_sendHereAllFor_f r1 J G ((1, 0)) pb ((r1 13 0 1).toNatClampNeg) 0 = r2 at he
    have he := he.trans (fm_letE _ _)
    rw [er2] at K
    refine fm_cV0 O fmK_sendHereAllFor_o (i := (r1 13 0 1).toNatClampNeg) (as := [.inl 0]) (rest := []) (v := none) rfl fk_1_147 rfl (by decide) fn_K_sendHereAllFor (Nat.le_of_ble_eq_true rfl) (K) ?_
    exact fm_gRe O rfl trivial (by first | (rw [he]; done) | (rw [he]; rfl) | rfl) (by first | (rw [he]; done) | (rw [he]; rfl) | rfl)
  · have h1 : ¬ (I 13 0 6) = 0 := h
    have he := he.trans (if_neg h1)
    refine fm_gr O 3 (C' := (12, [(0, .inr (.inr (.inr (.inr (13, 0)))))], [], (fm_u I 13 0 2 5, J, G, fm_P (1, 0) pb))) rfl ?_
    exact fm_gRe O rfl trivial (by first | (rw [he]; done) | (rw [he]; rfl) | rfl) (by first | (rw [he]; done) | (rw [he]; rfl) | rfl)
def fmC_nest_f (I : fm_MI) (J : fm_MJ) (G : fm_MG) (pb : Nat × Nat) (op : Int32) (aa : Int32) : fm_MI :=
  if op = 23 then (fm_let (fmC_take_f I 0) (fun (r1 : Int32 × fm_MI) => fm_let (fmC_addRow_f r1.2 op aa) (fun (r2 : Int32 × fm_MI) => fm_let (fmC_openFrame_f r2.2 op aa) (fun (r3 : fm_MI) => fm_u r3 17 ((r3 13 0 6).toNatClampNeg) 4 r2.1)))) else (if op = 24 then (fm_let (fmC_turnToElse_f I) (fun (r4 : fm_MI) => r4)) else (if op = 25 then (fm_let (fmC_closeFrame_f I J G pb) (fun (r5 : fm_MI) => r5)) else (fm_let (fmC_openFrame_f I op aa) (fun (r6 : fm_MI) => r6))))
theorem fmC_nest_e (I : fm_MI) (J : fm_MJ) (G : fm_MG) (pb : Nat × Nat) (op : Int32) (aa : Int32) : fmC_nest_f I J G pb op aa = if op = 23 then (fm_let (fmC_take_f I 0) (fun (r1 : Int32 × fm_MI) => fm_let (fmC_addRow_f r1.2 op aa) (fun (r2 : Int32 × fm_MI) => fm_let (fmC_openFrame_f r2.2 op aa) (fun (r3 : fm_MI) => fm_u r3 17 ((r3 13 0 6).toNatClampNeg) 4 r2.1)))) else (if op = 24 then (fm_let (fmC_turnToElse_f I) (fun (r4 : fm_MI) => r4)) else (if op = 25 then (fm_let (fmC_closeFrame_f I J G pb) (fun (r5 : fm_MI) => r5)) else (fm_let (fmC_openFrame_f I op aa) (fun (r6 : fm_MI) => r6)))) := rfl
def fmC_nest_p (I : fm_MI) (J : fm_MJ) (G : fm_MG) (pb : Nat × Nat) (op : Int32) (aa : Int32) : Prop :=
  (op = 23 → fmC_take_p I 0 ∧ (fm_let (fmC_take_f I 0) (fun (r1 : Int32 × fm_MI) => fmC_addRow_p r1.2 ∧ (fm_let (fmC_addRow_f r1.2 op aa) (fun (r2 : Int32 × fm_MI) => fmC_openFrame_p r2.2 ∧ (fm_let (fmC_openFrame_f r2.2 op aa) (fun (r3 : fm_MI) => vp_in (r3 13 0 6) 9))))))) ∧ (¬ op = 23 → (op = 24 → fmC_turnToElse_p I) ∧ (¬ op = 24 → (op = 25 → fmC_closeFrame_p I J G pb) ∧ (¬ op = 25 → fmC_openFrame_p I)))
set_option maxRecDepth 100000 in
set_option maxHeartbeats 4000000 in
theorem fmC_nest_c {E : fm_Ev} (hl : E.1.stackTraces = false) {d : Nat} (hd : 3 ≤ d) (I : fm_MI) (J : fm_MJ) (G : fm_MG) (pb : Nat × Nat) (op : Int32) (aa : Int32) (hp : fmC_nest_p I J G pb op aa) : fm_Ct E d fmC_nest 0 [.inr (.inr (.inr (.inr (13, 0)))), .inl op, .inl aa] (I, J, G, fm_P (1, 0) pb) none (fmC_nest_f I J G pb op aa, J, G, fm_P (1, 0) pb) := by
  obtain ⟨d, rfl⟩ : ∃ d', d = d' + 1 := ⟨d - 1, by omega⟩
  refine fm_ct fmC_nest_o hl (Nat.le_of_ble_eq_true rfl) ?_
  have O := fmC_nest_o.1
  unfold fmC_nest_p at hp
  have he := fmC_nest_e I J G pb op aa
  refine fm_gr O 1 (C' := (1, [(0, .inr (.inr (.inr (.inr (13, 0))))), (1, .inl op), (2, .inl aa)], [.inl op], (I, J, G, fm_P (1, 0) pb))) rfl ?_
  by_cases h1 : op = 23
  · have he := he.trans (if_pos h1)
    have hp := hp.1 h1
    refine fm_gs O 23 rfl (show op.toInt = 23 from by rw [h1]; decide) ?_
    refine fm_gr O 2 (C' := (30, [(0, .inr (.inr (.inr (.inr (13, 0))))), (1, .inl op), (2, .inl aa)], [.inl 0, .inr (.inr (.inr (.inr (13, 0))))], (I, J, G, fm_P (1, 0) pb))) rfl ?_
    have hc := hp.1
    have hp := hp.2
    have K := fmC_take_c (d := d) hl (by omega) I J G pb 0 hc
    generalize er1 : fmC_take_f I 0 = r1 at he hp
    have he := he.trans (fm_letE _ _)
    have hp := fm_letP hp
    rw [er1] at K
    refine fm_cV0 O fmC_take_o (i := 0) (as := [.inl 0]) (rest := []) (v := some (.inl r1.1)) rfl fk_1_109 rfl (by decide) fn_C_take (Nat.le_of_ble_eq_true rfl) (K) ?_
    refine fm_gr O 4 (C' := (37, [(0, .inr (.inr (.inr (.inr (13, 0))))), (1, .inl op), (2, .inl aa)], [.inl aa, .inl op, .inr (.inr (.inr (.inr (13, 0))))], (r1.2, J, G, fm_P (1, 0) pb))) rfl ?_
    have hc := hp.1
    have hp := hp.2
    have K := fmC_addRow_c (d := d) hl (by omega) r1.2 J G pb op aa hc
    generalize er2 : fmC_addRow_f r1.2 op aa = r2 at he hp
    have he := he.trans (fm_letE _ _)
    have hp := fm_letP hp
    rw [er2] at K
    refine fm_cV0 O fmC_addRow_o (i := 0) (as := [.inl op, .inl aa]) (rest := []) (v := some (.inl r2.1)) rfl fk_1_100 rfl (by decide) fn_C_addRow (Nat.le_of_ble_eq_true rfl) (K) ?_
    refine fm_gr O 4 (C' := (44, [(3, .inl r2.1), (0, .inr (.inr (.inr (.inr (13, 0))))), (1, .inl op), (2, .inl aa)], [.inl aa, .inl op, .inr (.inr (.inr (.inr (13, 0))))], (r2.2, J, G, fm_P (1, 0) pb))) rfl ?_
    have hc := hp.1
    have hp := hp.2
    have K := fmC_openFrame_c (d := d) hl (by omega) r2.2 J G pb op aa hc
    generalize er3 : fmC_openFrame_f r2.2 op aa = r3 at he hp
    have he := he.trans (fm_letE _ _)
    have hp := fm_letP hp
    rw [er3] at K
    refine fm_cV0 O fmC_openFrame_o (i := 0) (as := [.inl op, .inl aa]) (rest := []) (v := none) rfl fk_1_113 rfl (by decide) fn_C_openFrame (Nat.le_of_ble_eq_true rfl) (K) ?_
    refine fm_gr O 4 (C' := (55, [(3, .inl r2.1), (0, .inr (.inr (.inr (.inr (13, 0))))), (1, .inl op), (2, .inl aa)], [.inl (r3 13 0 6), .inr (.inr (.inr (.inr (16, 0))))], (r3, J, G, fm_P (1, 0) pb))) rfl ?_
    refine fm_gg O rfl hp ?_
    refine fm_gr O 3 (C' := (83, [(3, .inl r2.1), (0, .inr (.inr (.inr (.inr (13, 0))))), (1, .inl op), (2, .inl aa)], [], (fm_u r3 17 ((r3 13 0 6).toNatClampNeg) 4 r2.1, J, G, fm_P (1, 0) pb))) rfl ?_
    exact fm_gRe O rfl trivial (by first | (rw [he]; done) | (rw [he]; rfl) | rfl) (by first | (rw [he]; done) | (rw [he]; rfl) | rfl)
  · have he := he.trans (if_neg h1)
    have hp := hp.2 h1
    by_cases h2 : op = 24
    · have he := he.trans (if_pos h2)
      have hp := hp.1 h2
      refine fm_gs O 24 rfl (show op.toInt = 24 from by rw [h2]; decide) ?_
      refine fm_gr O 1 (C' := (64, [(0, .inr (.inr (.inr (.inr (13, 0))))), (1, .inl op), (2, .inl aa)], [.inr (.inr (.inr (.inr (13, 0))))], (I, J, G, fm_P (1, 0) pb))) rfl ?_
      have K := fmC_turnToElse_c (d := d) hl (by omega) I J G pb hp
      generalize er4 : fmC_turnToElse_f I = r4 at he
      have he := he.trans (fm_letE _ _)
      rw [er4] at K
      refine fm_cV0 O fmC_turnToElse_o (i := 0) (as := []) (rest := []) (v := none) rfl fk_1_119 rfl (by decide) fn_C_turnToElse (Nat.le_of_ble_eq_true rfl) (K) ?_
      refine fm_gr O 1 (C' := (83, [(0, .inr (.inr (.inr (.inr (13, 0))))), (1, .inl op), (2, .inl aa)], [], (r4, J, G, fm_P (1, 0) pb))) rfl ?_
      exact fm_gRe O rfl trivial (by first | (rw [he]; done) | (rw [he]; rfl) | rfl) (by first | (rw [he]; done) | (rw [he]; rfl) | rfl)
    · have he := he.trans (if_neg h2)
      have hp := hp.2 h2
      by_cases h3 : op = 25
      · have he := he.trans (if_pos h3)
        have hp := hp.1 h3
        refine fm_gs O 25 rfl (show op.toInt = 25 from by rw [h3]; decide) ?_
        refine fm_gr O 1 (C' := (71, [(0, .inr (.inr (.inr (.inr (13, 0))))), (1, .inl op), (2, .inl aa)], [.inr (.inr (.inr (.inr (13, 0))))], (I, J, G, fm_P (1, 0) pb))) rfl ?_
        have K := fmC_closeFrame_c (d := d) hl (by omega) I J G pb hp
        generalize er5 : fmC_closeFrame_f I J G pb = r5 at he
        have he := he.trans (fm_letE _ _)
        rw [er5] at K
        refine fm_cV0 O fmC_closeFrame_o (i := 0) (as := []) (rest := []) (v := none) rfl fk_1_122 rfl (by decide) fn_C_closeFrame (Nat.le_of_ble_eq_true rfl) (K) ?_
        refine fm_gr O 1 (C' := (83, [(0, .inr (.inr (.inr (.inr (13, 0))))), (1, .inl op), (2, .inl aa)], [], (r5, J, G, fm_P (1, 0) pb))) rfl ?_
        exact fm_gRe O rfl trivial (by first | (rw [he]; done) | (rw [he]; rfl) | rfl) (by first | (rw [he]; done) | (rw [he]; rfl) | rfl)
      · have he := he.trans (if_neg h3)
        have hp := hp.2 h3
        refine fm_gt O rfl (by
            show op.toInt < 23 ∨ 25 < op.toInt
            have := lv_neT h1 (show (23 : Int32).toInt = 23 from by decide)
            have := lv_neT h2 (show (24 : Int32).toInt = 24 from by decide)
            have := lv_neT h3 (show (25 : Int32).toInt = 25 from by decide)
            omega) ?_
        refine fm_gr O 3 (C' := (80, [(0, .inr (.inr (.inr (.inr (13, 0))))), (1, .inl op), (2, .inl aa)], [.inl aa, .inl op, .inr (.inr (.inr (.inr (13, 0))))], (I, J, G, fm_P (1, 0) pb))) rfl ?_
        have K := fmC_openFrame_c (d := d) hl (by omega) I J G pb op aa hp
        generalize er6 : fmC_openFrame_f I op aa = r6 at he
        have he := he.trans (fm_letE _ _)
        rw [er6] at K
        refine fm_cV0 O fmC_openFrame_o (i := 0) (as := [.inl op, .inl aa]) (rest := []) (v := none) rfl fk_1_113 rfl (by decide) fn_C_openFrame (Nat.le_of_ble_eq_true rfl) (K) ?_
        exact fm_gRe O rfl trivial (by first | (rw [he]; done) | (rw [he]; rfl) | rfl) (by first | (rw [he]; done) | (rw [he]; rfl) | rfl)
def fmC_jump_f (I : fm_MI) (op : Int32) (fr : Int32) : fm_MI :=
  fm_let (fmR_neededByJump_f I fr.toNatClampNeg) (fun (r1 : Int32) => fm_let (fmC_take_f I r1) (fun (r2 : Int32 × fm_MI) => fm_let (fmC_addRow_f r2.2 op 0) (fun (r3 : Int32 × fm_MI) => if r3.1 = (-1) then r3.2 else (if r1 = 4 then (if (r3.2 17 fr.toNatClampNeg 0) = 22 then (fm_u r3.2 11 ((r3.2 13 0 1).toNatClampNeg) r3.1.toNatClampNeg (r3.2 17 fr.toNatClampNeg 3)) else (fm_u r3.2 12 ((r3.2 13 0 1).toNatClampNeg) r3.1.toNatClampNeg fr)) else (if (r3.2 17 fr.toNatClampNeg 0) = 22 then (fm_u (fm_u r3.2 10 ((r3.2 13 0 1).toNatClampNeg) r3.1.toNatClampNeg ((r3.2 2 ((r3.2 13 0 1).toNatClampNeg) 2) + (r3.2 17 fr.toNatClampNeg 2))) 11 ((r3.2 13 0 1).toNatClampNeg) r3.1.toNatClampNeg (r3.2 17 fr.toNatClampNeg 3)) else (fm_u (fm_u r3.2 10 ((r3.2 13 0 1).toNatClampNeg) r3.1.toNatClampNeg ((r3.2 2 ((r3.2 13 0 1).toNatClampNeg) 2) + (r3.2 17 fr.toNatClampNeg 2))) 12 ((r3.2 13 0 1).toNatClampNeg) r3.1.toNatClampNeg fr))))))
theorem fmC_jump_e (I : fm_MI) (op : Int32) (fr : Int32) : fmC_jump_f I op fr = fm_let (fmR_neededByJump_f I fr.toNatClampNeg) (fun (r1 : Int32) => fm_let (fmC_take_f I r1) (fun (r2 : Int32 × fm_MI) => fm_let (fmC_addRow_f r2.2 op 0) (fun (r3 : Int32 × fm_MI) => if r3.1 = (-1) then r3.2 else (if r1 = 4 then (if (r3.2 17 fr.toNatClampNeg 0) = 22 then (fm_u r3.2 11 ((r3.2 13 0 1).toNatClampNeg) r3.1.toNatClampNeg (r3.2 17 fr.toNatClampNeg 3)) else (fm_u r3.2 12 ((r3.2 13 0 1).toNatClampNeg) r3.1.toNatClampNeg fr)) else (if (r3.2 17 fr.toNatClampNeg 0) = 22 then (fm_u (fm_u r3.2 10 ((r3.2 13 0 1).toNatClampNeg) r3.1.toNatClampNeg ((r3.2 2 ((r3.2 13 0 1).toNatClampNeg) 2) + (r3.2 17 fr.toNatClampNeg 2))) 11 ((r3.2 13 0 1).toNatClampNeg) r3.1.toNatClampNeg (r3.2 17 fr.toNatClampNeg 3)) else (fm_u (fm_u r3.2 10 ((r3.2 13 0 1).toNatClampNeg) r3.1.toNatClampNeg ((r3.2 2 ((r3.2 13 0 1).toNatClampNeg) 2) + (r3.2 17 fr.toNatClampNeg 2))) 12 ((r3.2 13 0 1).toNatClampNeg) r3.1.toNatClampNeg fr)))))) := rfl
def fmC_jump_p (I : fm_MI) (op : Int32) (fr : Int32) : Prop :=
  (vp_in fr 9) ∧ (fm_let (fmR_neededByJump_f I fr.toNatClampNeg) (fun (r1 : Int32) => fmC_take_p I r1 ∧ (fm_let (fmC_take_f I r1) (fun (r2 : Int32 × fm_MI) => fmC_addRow_p r2.2 ∧ (fm_let (fmC_addRow_f r2.2 op 0) (fun (r3 : Int32 × fm_MI) => (r3.1 = (-1) → True) ∧ (¬ r3.1 = (-1) → fmC_subject_p r3.2 ∧ ((r1 = 4 → ((r3.2 17 fr.toNatClampNeg 0) = 22 → vp_in r3.1 40) ∧ (¬ (r3.2 17 fr.toNatClampNeg 0) = 22 → vp_in r3.1 40)) ∧ (¬ r1 = 4 → fmC_subject_p r3.2 ∧ ((vp_in r3.1 40) ∧ (((r3.2 17 fr.toNatClampNeg 0) = 22 → vp_in r3.1 40) ∧ (¬ (r3.2 17 fr.toNatClampNeg 0) = 22 → vp_in r3.1 40))))))))))))
set_option maxRecDepth 100000 in
set_option maxHeartbeats 4000000 in
theorem fmC_jump_c {E : fm_Ev} (hl : E.1.stackTraces = false) {d : Nat} (hd : 2 ≤ d) (I : fm_MI) (J : fm_MJ) (G : fm_MG) (pb : Nat × Nat) (op : Int32) (fr : Int32) (hp : fmC_jump_p I op fr) : fm_Ct E d fmC_jump 0 [.inr (.inr (.inr (.inr (13, 0)))), .inl op, .inl fr] (I, J, G, fm_P (1, 0) pb) none (fmC_jump_f I op fr, J, G, fm_P (1, 0) pb) := by
  obtain ⟨d, rfl⟩ : ∃ d', d = d' + 1 := ⟨d - 1, by omega⟩
  refine fm_ct fmC_jump_o hl (Nat.le_of_ble_eq_true rfl) ?_
  have O := fmC_jump_o.1
  unfold fmC_jump_p at hp
  have he := fmC_jump_e I op fr
  refine fm_gr O 3 (C' := (5, [(0, .inr (.inr (.inr (.inr (13, 0))))), (1, .inl op), (2, .inl fr)], [.inl fr, .inr (.inr (.inr (.inr (16, 0))))], (I, J, G, fm_P (1, 0) pb))) rfl ?_
  refine fm_gg O rfl hp.1 ?_
  have hp := hp.2
  refine fm_gr O 2 (C' := (8, [(3, .inr (.inr (.inr (.inr (17, fr.toNatClampNeg))))), (0, .inr (.inr (.inr (.inr (13, 0))))), (1, .inl op), (2, .inl fr)], [.inr (.inr (.inr (.inr (17, fr.toNatClampNeg))))], (I, J, G, fm_P (1, 0) pb))) rfl ?_
  have K := fmR_neededByJump_c (d := d) hl (by omega) I J G ((1, 0)) pb fr.toNatClampNeg
  generalize er1 : fmR_neededByJump_f I fr.toNatClampNeg = r1 at he hp
  have he := he.trans (fm_letE _ _)
  have hp := fm_letP hp
  rw [er1] at K
  refine fm_cV0 O fmR_neededByJump_o (i := fr.toNatClampNeg) (as := []) (rest := []) (v := some (.inl r1)) rfl fk_1_159 rfl (by decide) fn_R_neededByJump (Nat.le_of_ble_eq_true rfl) (K) ?_
  refine fm_gr O 3 (C' := (16, [(4, .inl r1), (3, .inr (.inr (.inr (.inr (17, fr.toNatClampNeg))))), (0, .inr (.inr (.inr (.inr (13, 0))))), (1, .inl op), (2, .inl fr)], [.inl r1, .inr (.inr (.inr (.inr (13, 0))))], (I, J, G, fm_P (1, 0) pb))) rfl ?_
  have hc := hp.1
  have hp := hp.2
  have K := fmC_take_c (d := d) hl (by omega) I J G pb r1 hc
  generalize er2 : fmC_take_f I r1 = r2 at he hp
  have he := he.trans (fm_letE _ _)
  have hp := fm_letP hp
  rw [er2] at K
  refine fm_cV0 O fmC_take_o (i := 0) (as := [.inl r1]) (rest := []) (v := some (.inl r2.1)) rfl fk_1_109 rfl (by decide) fn_C_take (Nat.le_of_ble_eq_true rfl) (K) ?_
  refine fm_gr O 4 (C' := (23, [(4, .inl r1), (3, .inr (.inr (.inr (.inr (17, fr.toNatClampNeg))))), (0, .inr (.inr (.inr (.inr (13, 0))))), (1, .inl op), (2, .inl fr)], [.inl 0, .inl op, .inr (.inr (.inr (.inr (13, 0))))], (r2.2, J, G, fm_P (1, 0) pb))) rfl ?_
  have hc := hp.1
  have hp := hp.2
  have K := fmC_addRow_c (d := d) hl (by omega) r2.2 J G pb op 0 hc
  generalize er3 : fmC_addRow_f r2.2 op 0 = r3 at he hp
  have he := he.trans (fm_letE _ _)
  have hp := fm_letP hp
  rw [er3] at K
  refine fm_cV0 O fmC_addRow_o (i := 0) (as := [.inl op, .inl 0]) (rest := []) (v := some (.inl r3.1)) rfl fk_1_100 rfl (by decide) fn_C_addRow (Nat.le_of_ble_eq_true rfl) (K) ?_
  refine fm_gr O 3 (C' := (31, [(5, .inl r3.1), (4, .inl r1), (3, .inr (.inr (.inr (.inr (17, fr.toNatClampNeg))))), (0, .inr (.inr (.inr (.inr (13, 0))))), (1, .inl op), (2, .inl fr)], [.inl (-1), .inl r3.1], (r3.2, J, G, fm_P (1, 0) pb))) rfl ?_
  refine fm_gb O rfl (fun h => ?_) (fun h => ?_)
  · have h1 : r3.1 = (-1) := h
    have he := he.trans (if_pos h1)
    exact fm_gRe O rfl trivial (by first | (rw [he]; done) | (rw [he]; rfl) | rfl) (by first | (rw [he]; done) | (rw [he]; rfl) | rfl)
  · have h1 : ¬ r3.1 = (-1) := h
    have he := he.trans (if_neg h1)
    have hp := hp.2 h1
    refine fm_gr O 1 (C' := (36, [(5, .inl r3.1), (4, .inl r1), (3, .inr (.inr (.inr (.inr (17, fr.toNatClampNeg))))), (0, .inr (.inr (.inr (.inr (13, 0))))), (1, .inl op), (2, .inl fr)], [.inr (.inr (.inr (.inr (13, 0))))], (r3.2, J, G, fm_P (1, 0) pb))) rfl ?_
    have hc := hp.1
    have hp := hp.2
    have K := fmC_subject_c (d := d) hl (by omega) r3.2 J G pb hc
    refine fm_cV0 O fmC_subject_o (i := 0) (as := []) (rest := []) (v := some (.inr (.inr (.inr (.inr (2, (r3.2 13 0 1).toNatClampNeg)))))) rfl fk_1_41 rfl (by decide) fn_C_subject (Nat.le_of_ble_eq_true rfl) (K) ?_
    refine fm_gr O 4 (C' := (47, [(6, .inr (.inr (.inr (.inr (6, (r3.2 13 0 1).toNatClampNeg))))), (5, .inl r3.1), (4, .inl r1), (3, .inr (.inr (.inr (.inr (17, fr.toNatClampNeg))))), (0, .inr (.inr (.inr (.inr (13, 0))))), (1, .inl op), (2, .inl fr)], [.inl 4, .inl r1], (r3.2, J, G, fm_P (1, 0) pb))) rfl ?_
    refine fm_gb O rfl (fun h => ?_) (fun h => ?_)
    · have h2 : r1 = 4 := h
      have he := he.trans (if_pos h2)
      have hp := hp.1 h2
      refine fm_gr O 3 (C' := (76, [(6, .inr (.inr (.inr (.inr (6, (r3.2 13 0 1).toNatClampNeg))))), (5, .inl r3.1), (4, .inl r1), (3, .inr (.inr (.inr (.inr (17, fr.toNatClampNeg))))), (0, .inr (.inr (.inr (.inr (13, 0))))), (1, .inl op), (2, .inl fr)], [.inl 22, .inl (r3.2 17 fr.toNatClampNeg 0)], (r3.2, J, G, fm_P (1, 0) pb))) rfl ?_
      refine fm_gb O rfl (fun h => ?_) (fun h => ?_)
      · have h3 : (r3.2 17 fr.toNatClampNeg 0) = 22 := h
        have he := he.trans (if_pos h3)
        have hp := hp.1 h3
        refine fm_gr O 5 (C' := (90, [(6, .inr (.inr (.inr (.inr (6, (r3.2 13 0 1).toNatClampNeg))))), (5, .inl r3.1), (4, .inl r1), (3, .inr (.inr (.inr (.inr (17, fr.toNatClampNeg))))), (0, .inr (.inr (.inr (.inr (13, 0))))), (1, .inl op), (2, .inl fr)], [.inl (r3.2 17 fr.toNatClampNeg 3), .inl r3.1, .inr (.inr (.inr (.inr (11, (r3.2 13 0 1).toNatClampNeg))))], (r3.2, J, G, fm_P (1, 0) pb))) rfl ?_
        refine fm_gg O rfl hp ?_
        refine fm_gr O 1 (C' := (103, [(6, .inr (.inr (.inr (.inr (6, (r3.2 13 0 1).toNatClampNeg))))), (5, .inl r3.1), (4, .inl r1), (3, .inr (.inr (.inr (.inr (17, fr.toNatClampNeg))))), (0, .inr (.inr (.inr (.inr (13, 0))))), (1, .inl op), (2, .inl fr)], [], (fm_u r3.2 11 ((r3.2 13 0 1).toNatClampNeg) r3.1.toNatClampNeg (r3.2 17 fr.toNatClampNeg 3), J, G, fm_P (1, 0) pb))) rfl ?_
        exact fm_gRe O rfl trivial (by first | (rw [he]; done) | (rw [he]; rfl) | rfl) (by first | (rw [he]; done) | (rw [he]; rfl) | rfl)
      · have h3 : ¬ (r3.2 17 fr.toNatClampNeg 0) = 22 := h
        have he := he.trans (if_neg h3)
        have hp := hp.2 h3
        refine fm_gr O 4 (C' := (102, [(6, .inr (.inr (.inr (.inr (6, (r3.2 13 0 1).toNatClampNeg))))), (5, .inl r3.1), (4, .inl r1), (3, .inr (.inr (.inr (.inr (17, fr.toNatClampNeg))))), (0, .inr (.inr (.inr (.inr (13, 0))))), (1, .inl op), (2, .inl fr)], [.inl fr, .inl r3.1, .inr (.inr (.inr (.inr (12, (r3.2 13 0 1).toNatClampNeg))))], (r3.2, J, G, fm_P (1, 0) pb))) rfl ?_
        refine fm_gg O rfl hp ?_
        exact fm_gRe O rfl trivial (by first | (rw [he]; done) | (rw [he]; rfl) | rfl) (by first | (rw [he]; done) | (rw [he]; rfl) | rfl)
    · have h2 : ¬ r1 = 4 := h
      have he := he.trans (if_neg h2)
      have hp := hp.2 h2
      refine fm_gr O 4 (C' := (58, [(6, .inr (.inr (.inr (.inr (6, (r3.2 13 0 1).toNatClampNeg))))), (5, .inl r3.1), (4, .inl r1), (3, .inr (.inr (.inr (.inr (17, fr.toNatClampNeg))))), (0, .inr (.inr (.inr (.inr (13, 0))))), (1, .inl op), (2, .inl fr)], [.inr (.inr (.inr (.inr (13, 0)))), .inl r3.1, .inr (.inr (.inr (.inr (10, (r3.2 13 0 1).toNatClampNeg))))], (r3.2, J, G, fm_P (1, 0) pb))) rfl ?_
      have hc := hp.1
      have hp := hp.2
      have K := fmC_subject_c (d := d) hl (by omega) r3.2 J G pb hc
      refine fm_cV0 O fmC_subject_o (i := 0) (as := []) (rest := [.inl r3.1, .inr (.inr (.inr (.inr (10, (r3.2 13 0 1).toNatClampNeg))))]) (v := some (.inr (.inr (.inr (.inr (2, (r3.2 13 0 1).toNatClampNeg)))))) rfl fk_1_41 rfl (by decide) fn_C_subject (Nat.le_of_ble_eq_true rfl) (K) ?_
      refine fm_gr O 4 (C' := (69, [(6, .inr (.inr (.inr (.inr (6, (r3.2 13 0 1).toNatClampNeg))))), (5, .inl r3.1), (4, .inl r1), (3, .inr (.inr (.inr (.inr (17, fr.toNatClampNeg))))), (0, .inr (.inr (.inr (.inr (13, 0))))), (1, .inl op), (2, .inl fr)], [.inl ((r3.2 2 ((r3.2 13 0 1).toNatClampNeg) 2) + (r3.2 17 fr.toNatClampNeg 2)), .inl r3.1, .inr (.inr (.inr (.inr (10, (r3.2 13 0 1).toNatClampNeg))))], (r3.2, J, G, fm_P (1, 0) pb))) rfl ?_
      refine fm_gg O rfl hp.1 ?_
      have hp := hp.2
      refine fm_gr O 3 (C' := (76, [(6, .inr (.inr (.inr (.inr (6, (r3.2 13 0 1).toNatClampNeg))))), (5, .inl r3.1), (4, .inl r1), (3, .inr (.inr (.inr (.inr (17, fr.toNatClampNeg))))), (0, .inr (.inr (.inr (.inr (13, 0))))), (1, .inl op), (2, .inl fr)], [.inl 22, .inl (r3.2 17 fr.toNatClampNeg 0)], (fm_u r3.2 10 ((r3.2 13 0 1).toNatClampNeg) r3.1.toNatClampNeg ((r3.2 2 ((r3.2 13 0 1).toNatClampNeg) 2) + (r3.2 17 fr.toNatClampNeg 2)), J, G, fm_P (1, 0) pb))) rfl ?_
      refine fm_gb O rfl (fun h => ?_) (fun h => ?_)
      · have h3 : (r3.2 17 fr.toNatClampNeg 0) = 22 := h
        have he := he.trans (if_pos h3)
        have hp := hp.1 h3
        refine fm_gr O 5 (C' := (90, [(6, .inr (.inr (.inr (.inr (6, (r3.2 13 0 1).toNatClampNeg))))), (5, .inl r3.1), (4, .inl r1), (3, .inr (.inr (.inr (.inr (17, fr.toNatClampNeg))))), (0, .inr (.inr (.inr (.inr (13, 0))))), (1, .inl op), (2, .inl fr)], [.inl (r3.2 17 fr.toNatClampNeg 3), .inl r3.1, .inr (.inr (.inr (.inr (11, (r3.2 13 0 1).toNatClampNeg))))], (fm_u r3.2 10 ((r3.2 13 0 1).toNatClampNeg) r3.1.toNatClampNeg ((r3.2 2 ((r3.2 13 0 1).toNatClampNeg) 2) + (r3.2 17 fr.toNatClampNeg 2)), J, G, fm_P (1, 0) pb))) rfl ?_
        refine fm_gg O rfl hp ?_
        refine fm_gr O 1 (C' := (103, [(6, .inr (.inr (.inr (.inr (6, (r3.2 13 0 1).toNatClampNeg))))), (5, .inl r3.1), (4, .inl r1), (3, .inr (.inr (.inr (.inr (17, fr.toNatClampNeg))))), (0, .inr (.inr (.inr (.inr (13, 0))))), (1, .inl op), (2, .inl fr)], [], (fm_u (fm_u r3.2 10 ((r3.2 13 0 1).toNatClampNeg) r3.1.toNatClampNeg ((r3.2 2 ((r3.2 13 0 1).toNatClampNeg) 2) + (r3.2 17 fr.toNatClampNeg 2))) 11 ((r3.2 13 0 1).toNatClampNeg) r3.1.toNatClampNeg (r3.2 17 fr.toNatClampNeg 3), J, G, fm_P (1, 0) pb))) rfl ?_
        exact fm_gRe O rfl trivial (by first | (rw [he]; done) | (rw [he]; rfl) | rfl) (by first | (rw [he]; done) | (rw [he]; rfl) | rfl)
      · have h3 : ¬ (r3.2 17 fr.toNatClampNeg 0) = 22 := h
        have he := he.trans (if_neg h3)
        have hp := hp.2 h3
        refine fm_gr O 4 (C' := (102, [(6, .inr (.inr (.inr (.inr (6, (r3.2 13 0 1).toNatClampNeg))))), (5, .inl r3.1), (4, .inl r1), (3, .inr (.inr (.inr (.inr (17, fr.toNatClampNeg))))), (0, .inr (.inr (.inr (.inr (13, 0))))), (1, .inl op), (2, .inl fr)], [.inl fr, .inl r3.1, .inr (.inr (.inr (.inr (12, (r3.2 13 0 1).toNatClampNeg))))], (fm_u r3.2 10 ((r3.2 13 0 1).toNatClampNeg) r3.1.toNatClampNeg ((r3.2 2 ((r3.2 13 0 1).toNatClampNeg) 2) + (r3.2 17 fr.toNatClampNeg 2)), J, G, fm_P (1, 0) pb))) rfl ?_
        refine fm_gg O rfl hp ?_
        exact fm_gRe O rfl trivial (by first | (rw [he]; done) | (rw [he]; rfl) | rfl) (by first | (rw [he]; done) | (rw [he]; rfl) | rfl)
def fmC_callFunction_L14_f : Nat → fm_MI → fm_MJ → fm_MG → (Nat × Nat) → Int32 → Nat → Int32 → fm_MI
  | 0, I, J, G, pb, y1, y2, y3 => I
  | n + 1, I, J, G, pb, y1, y2, y3 => if y3 < 0 then (fm_let (fmC_addRow_f I 29 y1) (fun (r1 : Int32 × fm_MI) => fm_let (fmC_put_f r1.2 (r1.2 2 y2 3)) (fun (r2 : fm_MI) => r2))) else (fm_let (fmC_take_f I (I 3 y2 y3.toNatClampNeg)) (fun (r3 : Int32 × fm_MI) => fmC_callFunction_L14_f n r3.2 J G pb y1 y2 (y3 + (-1))))
theorem fmC_callFunction_L14_e (n : Nat) (I : fm_MI) (J : fm_MJ) (G : fm_MG) (pb : Nat × Nat) (y1 : Int32) (y2 : Nat) (y3 : Int32) : fmC_callFunction_L14_f (n + 1) I J G pb y1 y2 y3 = if y3 < 0 then (fm_let (fmC_addRow_f I 29 y1) (fun (r1 : Int32 × fm_MI) => fm_let (fmC_put_f r1.2 (r1.2 2 y2 3)) (fun (r2 : fm_MI) => r2))) else (fm_let (fmC_take_f I (I 3 y2 y3.toNatClampNeg)) (fun (r3 : Int32 × fm_MI) => fmC_callFunction_L14_f n r3.2 J G pb y1 y2 (y3 + (-1)))) := rfl
def fmC_callFunction_L14_p : Nat → fm_MI → fm_MJ → fm_MG → (Nat × Nat) → Int32 → Nat → Int32 → Prop
  | 0, I, J, G, pb, y1, y2, y3 => False
  | n + 1, I, J, G, pb, y1, y2, y3 => (y3 < 0 → fmC_addRow_p I ∧ (fm_let (fmC_addRow_f I 29 y1) (fun (r1 : Int32 × fm_MI) => fmC_put_p r1.2 (r1.2 2 y2 3)))) ∧ (¬ y3 < 0 → (vp_in y3 6) ∧ (fmC_take_p I (I 3 y2 y3.toNatClampNeg) ∧ (fm_let (fmC_take_f I (I 3 y2 y3.toNatClampNeg)) (fun (r3 : Int32 × fm_MI) => fmC_callFunction_L14_p n r3.2 J G pb y1 y2 (y3 + (-1))))))
theorem fmC_callFunction_L14_q (n : Nat) (I : fm_MI) (J : fm_MJ) (G : fm_MG) (pb : Nat × Nat) (y1 : Int32) (y2 : Nat) (y3 : Int32) : fmC_callFunction_L14_p (n + 1) I J G pb y1 y2 y3 = ((y3 < 0 → fmC_addRow_p I ∧ (fm_let (fmC_addRow_f I 29 y1) (fun (r1 : Int32 × fm_MI) => fmC_put_p r1.2 (r1.2 2 y2 3)))) ∧ (¬ y3 < 0 → (vp_in y3 6) ∧ (fmC_take_p I (I 3 y2 y3.toNatClampNeg) ∧ (fm_let (fmC_take_f I (I 3 y2 y3.toNatClampNeg)) (fun (r3 : Int32 × fm_MI) => fmC_callFunction_L14_p n r3.2 J G pb y1 y2 (y3 + (-1))))))) := rfl
set_option maxRecDepth 100000 in
set_option maxHeartbeats 4000000 in
theorem fmC_callFunction_L14_c {E : fm_Ev} (hl : E.1.stackTraces = false) {d : Nat} (hd : 2 ≤ d + 1) (n : Nat) : ∀ (I : fm_MI) (J : fm_MJ) (G : fm_MG) (pb : Nat × Nat) (y1 : Int32) (y2 : Nat) (y3 : Int32), fmC_callFunction_L14_p n I J G pb y1 y2 y3 → fm_Go E (d + 1) fmC_callFunction 0 (14, [(0, .inr (.inr (.inr (.inr (13, 0))))), (1, .inl y1), (2, .inr (.inr (.inr (.inr (2, y2))))), (3, .inl y3)], [], (I, J, G, fm_P (1, 0) pb)) (fm_Zr E none (fmC_callFunction_L14_f n I J G pb y1 y2 y3, J, G, fm_P (1, 0) pb)) := by
  have O := fmC_callFunction_o.1
  induction n with
  | zero => intro I J G pb y1 y2 y3 hp; exact hp.elim
  | succ n ih =>
    intro I J G pb y1 y2 y3 hp
    rw [fmC_callFunction_L14_q] at hp
    have he := fmC_callFunction_L14_e n I J G pb y1 y2 y3
    refine fm_gr O 1 (C' := (15, [(0, .inr (.inr (.inr (.inr (13, 0))))), (1, .inl y1), (2, .inr (.inr (.inr (.inr (2, y2))))), (3, .inl y3)], [.inl y3], (I, J, G, fm_P (1, 0) pb))) rfl ?_
    refine fm_gb O rfl (fun h => ?_) (fun h => ?_)
    · have h1 : y3 < 0 := h
      have he := he.trans (if_pos h1)
      have hp := hp.1 h1
      refine fm_gr O 3 (C' := (39, [(0, .inr (.inr (.inr (.inr (13, 0))))), (1, .inl y1), (2, .inr (.inr (.inr (.inr (2, y2))))), (3, .inl y3)], [.inl y1, .inl 29, .inr (.inr (.inr (.inr (13, 0))))], (I, J, G, fm_P (1, 0) pb))) rfl ?_
      have hc := hp.1
      have hp := hp.2
      have K := fmC_addRow_c (d := d) hl (by omega) I J G pb 29 y1 hc
      generalize er1 : fmC_addRow_f I 29 y1 = r1 at he hp
      have he := he.trans (fm_letE _ _)
      have hp := fm_letP hp
      rw [er1] at K
      refine fm_cV0 O fmC_addRow_o (i := 0) (as := [.inl 29, .inl y1]) (rest := []) (v := some (.inl r1.1)) rfl fk_1_100 rfl (by decide) fn_C_addRow (Nat.le_of_ble_eq_true rfl) (K) ?_
      refine fm_gr O 4 (C' := (48, [(0, .inr (.inr (.inr (.inr (13, 0))))), (1, .inl y1), (2, .inr (.inr (.inr (.inr (2, y2))))), (3, .inl y3)], [.inl (r1.2 2 y2 3), .inr (.inr (.inr (.inr (13, 0))))], (r1.2, J, G, fm_P (1, 0) pb))) rfl ?_
      have K := fmC_put_c (d := d) hl (by omega) r1.2 J G pb (r1.2 2 y2 3) hp
      generalize er2 : fmC_put_f r1.2 (r1.2 2 y2 3) = r2 at he
      have he := he.trans (fm_letE _ _)
      rw [er2] at K
      refine fm_cV0 O fmC_put_o (i := 0) (as := [.inl (r1.2 2 y2 3)]) (rest := []) (v := none) rfl fk_1_105 rfl (by decide) fn_C_put (Nat.le_of_ble_eq_true rfl) (K) ?_
      exact fm_gRe O rfl trivial (by first | (rw [he]; done) | (rw [he]; rfl) | rfl) (by first | (rw [he]; done) | (rw [he]; rfl) | rfl)
    · have h1 : ¬ y3 < 0 := h
      have he := he.trans (if_neg h1)
      have hp := hp.2 h1
      refine fm_gr O 4 (C' := (24, [(0, .inr (.inr (.inr (.inr (13, 0))))), (1, .inl y1), (2, .inr (.inr (.inr (.inr (2, y2))))), (3, .inl y3)], [.inl y3, .inr (.inr (.inr (.inr (3, y2)))), .inr (.inr (.inr (.inr (13, 0))))], (I, J, G, fm_P (1, 0) pb))) rfl ?_
      refine fm_gg O rfl hp.1 ?_
      have hp := hp.2
      have hc := hp.1
      have hp := hp.2
      have K := fmC_take_c (d := d) hl (by omega) I J G pb (I 3 y2 y3.toNatClampNeg) hc
      generalize er3 : fmC_take_f I (I 3 y2 y3.toNatClampNeg) = r3 at he hp
      have he := he.trans (fm_letE _ _)
      have hp := fm_letP hp
      rw [er3] at K
      refine fm_cV0 O fmC_take_o (i := 0) (as := [.inl (I 3 y2 y3.toNatClampNeg)]) (rest := []) (v := some (.inl r3.1)) rfl fk_1_109 rfl (by decide) fn_C_take (Nat.le_of_ble_eq_true rfl) (K) ?_
      refine fm_gr O 3 (C' := (14, [(3, .inl (y3 + (-1))), (0, .inr (.inr (.inr (.inr (13, 0))))), (1, .inl y1), (2, .inr (.inr (.inr (.inr (2, y2)))))], [], (r3.2, J, G, fm_P (1, 0) pb))) rfl ?_
      refine fm_gL O [1, 2, 3, 0] rfl ?_
      rw [he]
      exact ih r3.2 J G pb y1 y2 (y3 + (-1)) hp
def fmC_callFunction_f (I : fm_MI) (J : fm_MJ) (G : fm_MG) (pb : Nat × Nat) (aa : Int32) : fm_MI :=
  fmC_callFunction_L14_f 4 I J G pb aa aa.toNatClampNeg ((I 2 aa.toNatClampNeg 1) - 1)
theorem fmC_callFunction_e (I : fm_MI) (J : fm_MJ) (G : fm_MG) (pb : Nat × Nat) (aa : Int32) : fmC_callFunction_f I J G pb aa = fmC_callFunction_L14_f 4 I J G pb aa aa.toNatClampNeg ((I 2 aa.toNatClampNeg 1) - 1) := rfl
def fmC_callFunction_p (I : fm_MI) (J : fm_MJ) (G : fm_MG) (pb : Nat × Nat) (aa : Int32) : Prop :=
  (vp_in aa 4) ∧ (fmC_callFunction_L14_p 4 I J G pb aa aa.toNatClampNeg ((I 2 aa.toNatClampNeg 1) - 1))
set_option maxRecDepth 100000 in
set_option maxHeartbeats 4000000 in
theorem fmC_callFunction_c {E : fm_Ev} (hl : E.1.stackTraces = false) {d : Nat} (hd : 2 ≤ d) (I : fm_MI) (J : fm_MJ) (G : fm_MG) (pb : Nat × Nat) (aa : Int32) (hp : fmC_callFunction_p I J G pb aa) : fm_Ct E d fmC_callFunction 0 [.inr (.inr (.inr (.inr (13, 0)))), .inl aa] (I, J, G, fm_P (1, 0) pb) none (fmC_callFunction_f I J G pb aa, J, G, fm_P (1, 0) pb) := by
  obtain ⟨d, rfl⟩ : ∃ d', d = d' + 1 := ⟨d - 1, by omega⟩
  refine fm_ct fmC_callFunction_o hl (Nat.le_of_ble_eq_true rfl) ?_
  have O := fmC_callFunction_o.1
  unfold fmC_callFunction_p at hp
  have he := fmC_callFunction_e I J G pb aa
  refine fm_gr O 3 (C' := (5, [(0, .inr (.inr (.inr (.inr (13, 0))))), (1, .inl aa)], [.inl aa, .inr (.inr (.inr (.inr (1, 0))))], (I, J, G, fm_P (1, 0) pb))) rfl ?_
  refine fm_gg O rfl hp.1 ?_
  have hp := hp.2
  refine fm_gr O 6 (C' := (14, [(3, .inl ((I 2 aa.toNatClampNeg 1) - 1)), (2, .inr (.inr (.inr (.inr (2, aa.toNatClampNeg))))), (0, .inr (.inr (.inr (.inr (13, 0))))), (1, .inl aa)], [], (I, J, G, fm_P (1, 0) pb))) rfl ?_
  refine fm_gL O [2, 3, 1, 0] rfl ?_
  rw [he]
  exact fmC_callFunction_L14_c hl hd 4 I J G pb aa aa.toNatClampNeg ((I 2 aa.toNatClampNeg 1) - 1) hp
