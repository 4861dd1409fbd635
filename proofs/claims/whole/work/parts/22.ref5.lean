/-! THE REFERENCE, by program (wip/tools/walk.py, gen_c3.py) -/
def fmD_perform_f (I : fm_MI) (J : fm_MJ) (G : fm_MG) (pa : Nat × Nat) (pb : Nat × Nat) (f : Int32) (o : Int32) (aa : Int32) (ati : Int32) : fm_MI × fm_MJ × fm_MG :=
  if o = 0 then (fm_let (fmD_push_f I J G o aa.toInt64 FP.dconst0) (fun (r1 : fm_MI × fm_MJ × fm_MG) => (r1.1, r1.2.1, r1.2.2))) else (if o = 1 then (fm_let (fmD_push_f I J G o aa.toInt64 FP.dconst0) (fun (r2 : fm_MI × fm_MJ × fm_MG) => (r2.1, r2.2.1, r2.2.2))) else (if o = 2 then (fm_let (fmD_push_f I J G 2 0 (FP.f2d (FP.fmul (FP.i2f aa) 1040187392))) (fun (r3 : fm_MI × fm_MJ × fm_MG) => (r3.1, r3.2.1, r3.2.2))) else (if o = 3 then (fm_let (fmD_push_f I J G 3 0 (FP.dmul (FP.i2d aa) 4593671619917905920)) (fun (r4 : fm_MI × fm_MJ × fm_MG) => (r4.1, r4.2.1, r4.2.2))) else (if o = 4 then (fm_let (fmD_push_f I J G (I 30 0 (((f * 6) + aa).toNatClampNeg)) (J 40 0 (((I 44 0 (((I 24 0 29) - 1).toNatClampNeg)) + aa).toNatClampNeg)) (G 41 0 (((I 44 0 (((I 24 0 29) - 1).toNatClampNeg)) + aa).toNatClampNeg))) (fun (r5 : fm_MI × fm_MJ × fm_MG) => (r5.1, r5.2.1, r5.2.2))) else (if o = 5 then ((fm_u I 24 0 28 ((I 24 0 28) - (6 - o)), fm_u J 40 0 (((I 44 0 (((I 24 0 29) - 1).toNatClampNeg)) + aa).toNatClampNeg) (J 40 0 (((I 24 0 28) - 1).toNatClampNeg)), fm_u G 41 0 (((I 44 0 (((I 24 0 29) - 1).toNatClampNeg)) + aa).toNatClampNeg) (G 41 0 (((I 24 0 28) - 1).toNatClampNeg)))) else (if o = 6 then ((fm_u I 24 0 28 ((I 24 0 28) - (6 - o)), fm_u J 40 0 (((I 44 0 (((I 24 0 29) - 1).toNatClampNeg)) + aa).toNatClampNeg) (J 40 0 (((I 24 0 28) - 1).toNatClampNeg)), fm_u G 41 0 (((I 44 0 (((I 24 0 29) - 1).toNatClampNeg)) + aa).toNatClampNeg) (G 41 0 (((I 24 0 28) - 1).toNatClampNeg)))) else (if o = 7 then (fm_let (fmD_push_f I J G aa (J 33 0 aa.toNatClampNeg) (G 34 0 aa.toNatClampNeg)) (fun (r6 : fm_MI × fm_MJ × fm_MG) => (r6.1, r6.2.1, r6.2.2))) else (if o = 8 then ((fm_u I 24 0 28 ((I 24 0 28) - 1), fm_u J 33 0 aa.toNatClampNeg (J 40 0 (((I 24 0 28) - 1).toNatClampNeg)), fm_u G 34 0 aa.toNatClampNeg (G 41 0 (((I 24 0 28) - 1).toNatClampNeg)))) else (if o = 9 then ((fm_u I 24 0 28 ((I 24 0 28) - 1), J, G)) else (if o = 10 then (fm_let (fmD_choice_f I J G) (fun (r7 : fm_MI × fm_MJ × fm_MG) => (r7.1, r7.2.1, r7.2.2))) else (if o = 11 then (fm_let (fmD_arithmetic_f I J G o aa) (fun (r8 : fm_MI × fm_MJ × fm_MG) => (r8.1, r8.2.1, r8.2.2))) else (if o = 12 then (fm_let (fmD_arithmetic_f I J G o aa) (fun (r9 : fm_MI × fm_MJ × fm_MG) => (r9.1, r9.2.1, r9.2.2))) else (if o = 13 then (fm_let (fmD_arithmetic_f I J G o aa) (fun (r10 : fm_MI × fm_MJ × fm_MG) => (r10.1, r10.2.1, r10.2.2))) else (if o = 14 then (fm_let (fmD_arithmetic_f I J G o aa) (fun (r11 : fm_MI × fm_MJ × fm_MG) => (r11.1, r11.2.1, r11.2.2))) else (if o = 15 then (fm_let (fmD_arithmetic_f I J G o aa) (fun (r12 : fm_MI × fm_MJ × fm_MG) => (r12.1, r12.2.1, r12.2.2))) else (if o = 16 then (fm_let (fmD_arithmetic_f I J G o aa) (fun (r13 : fm_MI × fm_MJ × fm_MG) => (r13.1, r13.2.1, r13.2.2))) else (if o = 17 then (fm_let (fmD_arithmetic_f I J G o aa) (fun (r14 : fm_MI × fm_MJ × fm_MG) => (r14.1, r14.2.1, r14.2.2))) else (if o = 18 then (fm_let (fmD_arithmetic_f I J G o aa) (fun (r15 : fm_MI × fm_MJ × fm_MG) => (r15.1, r15.2.1, r15.2.2))) else (if o = 19 then (fm_let (fmD_arithmetic_f I J G o aa) (fun (r16 : fm_MI × fm_MJ × fm_MG) => (r16.1, r16.2.1, r16.2.2))) else (if o = 20 then (fm_let (fmD_convert_f I J G (aa / 4) (aa - aa / 4 * 4)) (fun (r17 : fm_MI × fm_MJ × fm_MG) => (r17.1, r17.2.1, r17.2.2))) else (if o = 21 then (fm_let (fmD_openFrame_f I ati) (fun (r18 : fm_MI) => (r18, J, G))) else (if o = 22 then (fm_let (fmD_openFrame_f I ati) (fun (r19 : fm_MI) => (r19, J, G))) else (if o = 23 then (fm_let (fmD_openFrame_f (fm_u I 24 0 28 ((I 24 0 28) - 1)) ati) (fun (r20 : fm_MI) => if (lg_cmp (J 40 0 ((r20 24 0 28).toNatClampNeg)) 0) = 0 then (fm_let (fmD_endOf_f r20 J G pa pb f ati 1) (fun (r21 : Int32) => if (r20 25 0 (((f * 40) + r21).toNatClampNeg)) = 25 then ((fm_u (fm_u r20 43 0 (((I 24 0 29) - 1).toNatClampNeg) (r21 + 1)) 24 0 30 ((r20 24 0 30) - 1), J, G)) else ((fm_u r20 43 0 (((I 24 0 29) - 1).toNatClampNeg) (r21 + 1), J, G)))) else ((r20, J, G)))) else (if o = 24 then (fm_let (fmD_endOf_f (fm_u I 24 0 30 ((I 24 0 30) - 1)) J G pa pb f ati 0) (fun (r22 : Int32) => (fm_u (fm_u I 24 0 30 ((I 24 0 30) - 1)) 43 0 (((I 24 0 29) - 1).toNatClampNeg) (r22 + 1), J, G))) else (if o = 25 then ((fm_u I 24 0 30 ((I 24 0 30) - 1), J, G)) else (if o = 26 then (fm_let (fmD_jumpTo_f I J G pa pb f aa) (fun (r23 : fm_MI × fm_MJ × fm_MG) => (r23.1, r23.2.1, r23.2.2))) else (if o = 27 then (if (lg_cmp (J 40 0 (((I 24 0 28) - 1).toNatClampNeg)) 0) = 0 then ((fm_u I 24 0 28 ((I 24 0 28) - 1), J, G)) else (fm_let (fmD_jumpTo_f (fm_u I 24 0 28 ((I 24 0 28) - 1)) J G pa pb f aa) (fun (r24 : fm_MI × fm_MJ × fm_MG) => (r24.1, r24.2.1, r24.2.2)))) else (if o = 28 then (fm_let (fmD_leave_f I J G f) (fun (r25 : fm_MI × fm_MJ × fm_MG) => (r25.1, r25.2.1, r25.2.2))) else (if o = 29 then (fm_let (fmD_enter_f I J G pa pb aa) (fun (r26 : fm_MI × fm_MJ × fm_MG) => (r26.1, r26.2.1, r26.2.2))) else (if o = 30 then ((fm_u I 24 0 18 4, J, G)) else (fm_let (fmD_arithmetic_f I J G o aa) (fun (r27 : fm_MI × fm_MJ × fm_MG) => (r27.1, r27.2.1, r27.2.2)))))))))))))))))))))))))))))))))
theorem fmD_perform_e (I : fm_MI) (J : fm_MJ) (G : fm_MG) (pa : Nat × Nat) (pb : Nat × Nat) (f : Int32) (o : Int32) (aa : Int32) (ati : Int32) : fmD_perform_f I J G pa pb f o aa ati = if o = 0 then (fm_let (fmD_push_f I J G o aa.toInt64 FP.dconst0) (fun (r1 : fm_MI × fm_MJ × fm_MG) => (r1.1, r1.2.1, r1.2.2))) else (if o = 1 then (fm_let (fmD_push_f I J G o aa.toInt64 FP.dconst0) (fun (r2 : fm_MI × fm_MJ × fm_MG) => (r2.1, r2.2.1, r2.2.2))) else (if o = 2 then (fm_let (fmD_push_f I J G 2 0 (FP.f2d (FP.fmul (FP.i2f aa) 1040187392))) (fun (r3 : fm_MI × fm_MJ × fm_MG) => (r3.1, r3.2.1, r3.2.2))) else (if o = 3 then (fm_let (fmD_push_f I J G 3 0 (FP.dmul (FP.i2d aa) 4593671619917905920)) (fun (r4 : fm_MI × fm_MJ × fm_MG) => (r4.1, r4.2.1, r4.2.2))) else (if o = 4 then (fm_let (fmD_push_f I J G (I 30 0 (((f * 6) + aa).toNatClampNeg)) (J 40 0 (((I 44 0 (((I 24 0 29) - 1).toNatClampNeg)) + aa).toNatClampNeg)) (G 41 0 (((I 44 0 (((I 24 0 29) - 1).toNatClampNeg)) + aa).toNatClampNeg))) (fun (r5 : fm_MI × fm_MJ × fm_MG) => (r5.1, r5.2.1, r5.2.2))) else (if o = 5 then ((fm_u I 24 0 28 ((I 24 0 28) - (6 - o)), fm_u J 40 0 (((I 44 0 (((I 24 0 29) - 1).toNatClampNeg)) + aa).toNatClampNeg) (J 40 0 (((I 24 0 28) - 1).toNatClampNeg)), fm_u G 41 0 (((I 44 0 (((I 24 0 29) - 1).toNatClampNeg)) + aa).toNatClampNeg) (G 41 0 (((I 24 0 28) - 1).toNatClampNeg)))) else (if o = 6 then ((fm_u I 24 0 28 ((I 24 0 28) - (6 - o)), fm_u J 40 0 (((I 44 0 (((I 24 0 29) - 1).toNatClampNeg)) + aa).toNatClampNeg) (J 40 0 (((I 24 0 28) - 1).toNatClampNeg)), fm_u G 41 0 (((I 44 0 (((I 24 0 29) - 1).toNatClampNeg)) + aa).toNatClampNeg) (G 41 0 (((I 24 0 28) - 1).toNatClampNeg)))) else (if o = 7 then (fm_let (fmD_push_f I J G aa (J 33 0 aa.toNatClampNeg) (G 34 0 aa.toNatClampNeg)) (fun (r6 : fm_MI × fm_MJ × fm_MG) => (r6.1, r6.2.1, r6.2.2))) else (if o = 8 then ((fm_u I 24 0 28 ((I 24 0 28) - 1), fm_u J 33 0 aa.toNatClampNeg (J 40 0 (((I 24 0 28) - 1).toNatClampNeg)), fm_u G 34 0 aa.toNatClampNeg (G 41 0 (((I 24 0 28) - 1).toNatClampNeg)))) else (if o = 9 then ((fm_u I 24 0 28 ((I 24 0 28) - 1), J, G)) else (if o = 10 then (fm_let (fmD_choice_f I J G) (fun (r7 : fm_MI × fm_MJ × fm_MG) => (r7.1, r7.2.1, r7.2.2))) else (if o = 11 then (fm_let (fmD_arithmetic_f I J G o aa) (fun (r8 : fm_MI × fm_MJ × fm_MG) => (r8.1, r8.2.1, r8.2.2))) else (if o = 12 then (fm_let (fmD_arithmetic_f I J G o aa) (fun (r9 : fm_MI × fm_MJ × fm_MG) => (r9.1, r9.2.1, r9.2.2))) else (if o = 13 then (fm_let (fmD_arithmetic_f I J G o aa) (fun (r10 : fm_MI × fm_MJ × fm_MG) => (r10.1, r10.2.1, r10.2.2))) else (if o = 14 then (fm_let (fmD_arithmetic_f I J G o aa) (fun (r11 : fm_MI × fm_MJ × fm_MG) => (r11.1, r11.2.1, r11.2.2))) else (if o = 15 then (fm_let (fmD_arithmetic_f I J G o aa) (fun (r12 : fm_MI × fm_MJ × fm_MG) => (r12.1, r12.2.1, r12.2.2))) else (if o = 16 then (fm_let (fmD_arithmetic_f I J G o aa) (fun (r13 : fm_MI × fm_MJ × fm_MG) => (r13.1, r13.2.1, r13.2.2))) else (if o = 17 then (fm_let (fmD_arithmetic_f I J G o aa) (fun (r14 : fm_MI × fm_MJ × fm_MG) => (r14.1, r14.2.1, r14.2.2))) else (if o = 18 then (fm_let (fmD_arithmetic_f I J G o aa) (fun (r15 : fm_MI × fm_MJ × fm_MG) => (r15.1, r15.2.1, r15.2.2))) else (if o = 19 then (fm_let (fmD_arithmetic_f I J G o aa) (fun (r16 : fm_MI × fm_MJ × fm_MG) => (r16.1, r16.2.1, r16.2.2))) else (if o = 20 then (fm_let (fmD_convert_f I J G (aa / 4) (aa - aa / 4 * 4)) (fun (r17 : fm_MI × fm_MJ × fm_MG) => (r17.1, r17.2.1, r17.2.2))) else (if o = 21 then (fm_let (fmD_openFrame_f I ati) (fun (r18 : fm_MI) => (r18, J, G))) else (if o = 22 then (fm_let (fmD_openFrame_f I ati) (fun (r19 : fm_MI) => (r19, J, G))) else (if o = 23 then (fm_let (fmD_openFrame_f (fm_u I 24 0 28 ((I 24 0 28) - 1)) ati) (fun (r20 : fm_MI) => if (lg_cmp (J 40 0 ((r20 24 0 28).toNatClampNeg)) 0) = 0 then (fm_let (fmD_endOf_f r20 J G pa pb f ati 1) (fun (r21 : Int32) => if (r20 25 0 (((f * 40) + r21).toNatClampNeg)) = 25 then ((fm_u (fm_u r20 43 0 (((I 24 0 29) - 1).toNatClampNeg) (r21 + 1)) 24 0 30 ((r20 24 0 30) - 1), J, G)) else ((fm_u r20 43 0 (((I 24 0 29) - 1).toNatClampNeg) (r21 + 1), J, G)))) else ((r20, J, G)))) else (if o = 24 then (fm_let (fmD_endOf_f (fm_u I 24 0 30 ((I 24 0 30) - 1)) J G pa pb f ati 0) (fun (r22 : Int32) => (fm_u (fm_u I 24 0 30 ((I 24 0 30) - 1)) 43 0 (((I 24 0 29) - 1).toNatClampNeg) (r22 + 1), J, G))) else (if o = 25 then ((fm_u I 24 0 30 ((I 24 0 30) - 1), J, G)) else (if o = 26 then (fm_let (fmD_jumpTo_f I J G pa pb f aa) (fun (r23 : fm_MI × fm_MJ × fm_MG) => (r23.1, r23.2.1, r23.2.2))) else (if o = 27 then (if (lg_cmp (J 40 0 (((I 24 0 28) - 1).toNatClampNeg)) 0) = 0 then ((fm_u I 24 0 28 ((I 24 0 28) - 1), J, G)) else (fm_let (fmD_jumpTo_f (fm_u I 24 0 28 ((I 24 0 28) - 1)) J G pa pb f aa) (fun (r24 : fm_MI × fm_MJ × fm_MG) => (r24.1, r24.2.1, r24.2.2)))) else (if o = 28 then (fm_let (fmD_leave_f I J G f) (fun (r25 : fm_MI × fm_MJ × fm_MG) => (r25.1, r25.2.1, r25.2.2))) else (if o = 29 then (fm_let (fmD_enter_f I J G pa pb aa) (fun (r26 : fm_MI × fm_MJ × fm_MG) => (r26.1, r26.2.1, r26.2.2))) else (if o = 30 then ((fm_u I 24 0 18 4, J, G)) else (fm_let (fmD_arithmetic_f I J G o aa) (fun (r27 : fm_MI × fm_MJ × fm_MG) => (r27.1, r27.2.1, r27.2.2))))))))))))))))))))))))))))))))) := rfl
def fmD_perform_p (I : fm_MI) (J : fm_MJ) (G : fm_MG) (pa : Nat × Nat) (pb : Nat × Nat) (f : Int32) (o : Int32) (aa : Int32) (ati : Int32) : Prop :=
  (vp_in ((I 24 0 29) - 1) 10) ∧ ((o = 0 → fmD_push_p I o FP.dconst0) ∧ (¬ o = 0 → (o = 1 → fmD_push_p I o FP.dconst0) ∧ (¬ o = 1 → (o = 2 → (vf_n32 (FP.fmul (FP.i2f aa) 1040187392)) ∧ ((vf_n64 (FP.f2d (FP.fmul (FP.i2f aa) 1040187392))) ∧ (fmD_push_p I 2 (FP.f2d (FP.fmul (FP.i2f aa) 1040187392))))) ∧ (¬ o = 2 → (o = 3 → (vf_n64 (FP.dmul (FP.i2d aa) 4593671619917905920)) ∧ (fmD_push_p I 3 (FP.dmul (FP.i2d aa) 4593671619917905920))) ∧ (¬ o = 3 → (o = 4 → (vp_in ((f * 6) + aa) 24) ∧ ((vp_in ((I 44 0 (((I 24 0 29) - 1).toNatClampNeg)) + aa) 260) ∧ ((vp_in ((I 44 0 (((I 24 0 29) - 1).toNatClampNeg)) + aa) 260) ∧ (fmD_push_p I (I 30 0 (((f * 6) + aa).toNatClampNeg)) (G 41 0 (((I 44 0 (((I 24 0 29) - 1).toNatClampNeg)) + aa).toNatClampNeg)))))) ∧ (¬ o = 4 → (o = 5 → (vp_in ((I 24 0 28) - 1) 260) ∧ ((vp_in ((I 44 0 (((I 24 0 29) - 1).toNatClampNeg)) + aa) 260) ∧ ((vp_in ((I 24 0 28) - 1) 260) ∧ (vp_in ((I 44 0 (((I 24 0 29) - 1).toNatClampNeg)) + aa) 260)))) ∧ (¬ o = 5 → (o = 6 → (vp_in ((I 24 0 28) - 1) 260) ∧ ((vp_in ((I 44 0 (((I 24 0 29) - 1).toNatClampNeg)) + aa) 260) ∧ ((vp_in ((I 24 0 28) - 1) 260) ∧ (vp_in ((I 44 0 (((I 24 0 29) - 1).toNatClampNeg)) + aa) 260)))) ∧ (¬ o = 6 → (o = 7 → (vp_in aa 4) ∧ ((vp_in aa 4) ∧ (fmD_push_p I aa (G 34 0 aa.toNatClampNeg)))) ∧ (¬ o = 7 → (o = 8 → (vp_in ((I 24 0 28) - 1) 260) ∧ ((vp_in aa 4) ∧ ((vp_in ((I 24 0 28) - 1) 260) ∧ (vp_in aa 4)))) ∧ (¬ o = 8 → (o = 9 → True) ∧ (¬ o = 9 → (o = 10 → fmD_choice_p I J) ∧ (¬ o = 10 → (o = 11 → fmD_arithmetic_p I J G o aa) ∧ (¬ o = 11 → (o = 12 → fmD_arithmetic_p I J G o aa) ∧ (¬ o = 12 → (o = 13 → fmD_arithmetic_p I J G o aa) ∧ (¬ o = 13 → (o = 14 → fmD_arithmetic_p I J G o aa) ∧ (¬ o = 14 → (o = 15 → fmD_arithmetic_p I J G o aa) ∧ (¬ o = 15 → (o = 16 → fmD_arithmetic_p I J G o aa) ∧ (¬ o = 16 → (o = 17 → fmD_arithmetic_p I J G o aa) ∧ (¬ o = 17 → (o = 18 → fmD_arithmetic_p I J G o aa) ∧ (¬ o = 18 → (o = 19 → fmD_arithmetic_p I J G o aa) ∧ (¬ o = 19 → (o = 20 → fmD_convert_p I J G (aa / 4) (aa - aa / 4 * 4)) ∧ (¬ o = 20 → (o = 21 → fmD_openFrame_p I) ∧ (¬ o = 21 → (o = 22 → fmD_openFrame_p I) ∧ (¬ o = 22 → (o = 23 → fmD_openFrame_p (fm_u I 24 0 28 ((I 24 0 28) - 1)) ∧ (fm_let (fmD_openFrame_f (fm_u I 24 0 28 ((I 24 0 28) - 1)) ati) (fun (r20 : fm_MI) => (vp_in (r20 24 0 28) 260) ∧ (((lg_cmp (J 40 0 ((r20 24 0 28).toNatClampNeg)) 0) = 0 → fmD_endOf_p r20 J G pa pb f ati 1 ∧ (fm_let (fmD_endOf_f r20 J G pa pb f ati 1) (fun (r21 : Int32) => (vp_in ((I 24 0 29) - 1) 10) ∧ (vp_in ((f * 40) + r21) 160)))) ∧ (¬ (lg_cmp (J 40 0 ((r20 24 0 28).toNatClampNeg)) 0) = 0 → True))))) ∧ (¬ o = 23 → (o = 24 → fmD_endOf_p (fm_u I 24 0 30 ((I 24 0 30) - 1)) J G pa pb f ati 0 ∧ (fm_let (fmD_endOf_f (fm_u I 24 0 30 ((I 24 0 30) - 1)) J G pa pb f ati 0) (fun (r22 : Int32) => vp_in ((I 24 0 29) - 1) 10))) ∧ (¬ o = 24 → (o = 25 → True) ∧ (¬ o = 25 → (o = 26 → fmD_jumpTo_p I J G pa pb f aa) ∧ (¬ o = 26 → (o = 27 → (vp_in ((I 24 0 28) - 1) 260) ∧ (((lg_cmp (J 40 0 (((I 24 0 28) - 1).toNatClampNeg)) 0) = 0 → True) ∧ (¬ (lg_cmp (J 40 0 (((I 24 0 28) - 1).toNatClampNeg)) 0) = 0 → fmD_jumpTo_p (fm_u I 24 0 28 ((I 24 0 28) - 1)) J G pa pb f aa))) ∧ (¬ o = 27 → (o = 28 → fmD_leave_p I J G f) ∧ (¬ o = 28 → (o = 29 → fmD_enter_p I J G pa pb aa) ∧ (¬ o = 29 → (o = 30 → True) ∧ (¬ o = 30 → fmD_arithmetic_p I J G o aa))))))))))))))))))))))))))))))))
set_option maxRecDepth 100000 in
set_option maxHeartbeats 4000000 in
theorem fmD_perform_c {E : fm_Ev} (hl : E.1.stackTraces = false) {d : Nat} (hd : 3 ≤ d) (I : fm_MI) (J : fm_MJ) (G : fm_MG) (pa : Nat × Nat) (pb : Nat × Nat) (f : Int32) (o : Int32) (aa : Int32) (ati : Int32) (hp : fmD_perform_p I J G pa pb f o aa ati) : fm_Ct E d fmD_perform 0 [.inr (.inr (.inr (.inr (24, 0)))), .inl f, .inl o, .inl aa, .inl ati] (I, J, G, fm_P pa pb) none ((fmD_perform_f I J G pa pb f o aa ati).1, (fmD_perform_f I J G pa pb f o aa ati).2.1, (fmD_perform_f I J G pa pb f o aa ati).2.2, fm_P pa pb) := by
  obtain ⟨d, rfl⟩ : ∃ d', d = d' + 1 := ⟨d - 1, by omega⟩
  refine fm_ct fmD_perform_o hl (Nat.le_of_ble_eq_true rfl) ?_
  have O := fmD_perform_o.1
  unfold fmD_perform_p at hp
  have he := fmD_perform_e I J G pa pb f o aa ati
  refine fm_gr O 8 (C' := (14, [(5, .inl ((I 24 0 29) - 1)), (0, .inr (.inr (.inr (.inr (24, 0))))), (1, .inl f), (2, .inl o), (3, .inl aa), (4, .inl ati)], [.inl ((I 24 0 29) - 1), .inr (.inr (.inr (.inr (44, 0))))], (I, J, G, fm_P pa pb))) rfl ?_
  refine fm_gg O rfl hp.1 ?_
  have hp := hp.2
  refine fm_gr O 2 (C' := (18, [(6, .inl (I 44 0 (((I 24 0 29) - 1).toNatClampNeg))), (5, .inl ((I 24 0 29) - 1)), (0, .inr (.inr (.inr (.inr (24, 0))))), (1, .inl f), (2, .inl o), (3, .inl aa), (4, .inl ati)], [.inl o], (I, J, G, fm_P pa pb))) rfl ?_
  by_cases h1 : o = 0
  · have he := he.trans (if_pos h1)
    have hp := hp.1 h1
    refine fm_gs O 0 rfl (show o.toInt = 0 from by rw [h1]; decide) ?_
    refine fm_gr O 5 (C' := (161, [(6, .inl (I 44 0 (((I 24 0 29) - 1).toNatClampNeg))), (5, .inl ((I 24 0 29) - 1)), (0, .inr (.inr (.inr (.inr (24, 0))))), (1, .inl f), (2, .inl o), (3, .inl aa), (4, .inl ati)], [.inr (.inr (.inr (.inl FP.dconst0))), .inr (.inl aa.toInt64), .inl o, .inr (.inr (.inr (.inr (24, 0))))], (I, J, G, fm_P pa pb))) rfl ?_
    have K := fmD_push_c (d := d) hl (by omega) I J G pa pb o aa.toInt64 FP.dconst0 hp
    generalize er1 : fmD_push_f I J G o aa.toInt64 FP.dconst0 = r1 at he
    have he := he.trans (fm_letE _ _)
    rw [er1] at K
    refine fm_cV0 O fmD_push_o (i := 0) (as := [.inl o, .inr (.inl aa.toInt64), .inr (.inr (.inr (.inl FP.dconst0)))]) (rest := []) (v := none) rfl fk_6_172 rfl (by decide) fn_D_push (Nat.le_of_ble_eq_true rfl) (K) ?_
    refine fm_gr O 1 (C' := (593, [(6, .inl (I 44 0 (((I 24 0 29) - 1).toNatClampNeg))), (5, .inl ((I 24 0 29) - 1)), (0, .inr (.inr (.inr (.inr (24, 0))))), (1, .inl f), (2, .inl o), (3, .inl aa), (4, .inl ati)], [], (r1.1, r1.2.1, r1.2.2, fm_P pa pb))) rfl ?_
    exact fm_gRe O rfl trivial (by first | (rw [he]; done) | (rw [he]; rfl) | rfl) (by first | (rw [he]; done) | (rw [he]; rfl) | rfl)
  · have he := he.trans (if_neg h1)
    have hp := hp.2 h1
    by_cases h2 : o = 1
    · have he := he.trans (if_pos h2)
      have hp := hp.1 h2
      refine fm_gs O 1 rfl (show o.toInt = 1 from by rw [h2]; decide) ?_
      refine fm_gr O 5 (C' := (161, [(6, .inl (I 44 0 (((I 24 0 29) - 1).toNatClampNeg))), (5, .inl ((I 24 0 29) - 1)), (0, .inr (.inr (.inr (.inr (24, 0))))), (1, .inl f), (2, .inl o), (3, .inl aa), (4, .inl ati)], [.inr (.inr (.inr (.inl FP.dconst0))), .inr (.inl aa.toInt64), .inl o, .inr (.inr (.inr (.inr (24, 0))))], (I, J, G, fm_P pa pb))) rfl ?_
      have K := fmD_push_c (d := d) hl (by omega) I J G pa pb o aa.toInt64 FP.dconst0 hp
      generalize er2 : fmD_push_f I J G o aa.toInt64 FP.dconst0 = r2 at he
      have he := he.trans (fm_letE _ _)
      rw [er2] at K
      refine fm_cV0 O fmD_push_o (i := 0) (as := [.inl o, .inr (.inl aa.toInt64), .inr (.inr (.inr (.inl FP.dconst0)))]) (rest := []) (v := none) rfl fk_6_172 rfl (by decide) fn_D_push (Nat.le_of_ble_eq_true rfl) (K) ?_
      refine fm_gr O 1 (C' := (593, [(6, .inl (I 44 0 (((I 24 0 29) - 1).toNatClampNeg))), (5, .inl ((I 24 0 29) - 1)), (0, .inr (.inr (.inr (.inr (24, 0))))), (1, .inl f), (2, .inl o), (3, .inl aa), (4, .inl ati)], [], (r2.1, r2.2.1, r2.2.2, fm_P pa pb))) rfl ?_
      exact fm_gRe O rfl trivial (by first | (rw [he]; done) | (rw [he]; rfl) | rfl) (by first | (rw [he]; done) | (rw [he]; rfl) | rfl)
    · have he := he.trans (if_neg h2)
      have hp := hp.2 h2
      by_cases h3 : o = 2
      · have he := he.trans (if_pos h3)
        have hp := hp.1 h3
        refine fm_gs O 2 rfl (show o.toInt = 2 from by rw [h3]; decide) ?_
        refine fm_gr O 6 (C' := (174, [(6, .inl (I 44 0 (((I 24 0 29) - 1).toNatClampNeg))), (5, .inl ((I 24 0 29) - 1)), (0, .inr (.inr (.inr (.inr (24, 0))))), (1, .inl f), (2, .inl o), (3, .inl aa), (4, .inl ati)], [.inr (.inr (.inl 1040187392)), .inr (.inr (.inl (FP.i2f aa))), .inr (.inl 0), .inl 2, .inr (.inr (.inr (.inr (24, 0))))], (I, J, G, fm_P pa pb))) rfl ?_
        refine fm_gg O rfl hp.1 ?_
        have hp := hp.2
        refine fm_gg O rfl hp.1 ?_
        have hp := hp.2
        have K := fmD_push_c (d := d) hl (by omega) I J G pa pb 2 0 (FP.f2d (FP.fmul (FP.i2f aa) 1040187392)) hp
        generalize er3 : fmD_push_f I J G 2 0 (FP.f2d (FP.fmul (FP.i2f aa) 1040187392)) = r3 at he
        have he := he.trans (fm_letE _ _)
        rw [er3] at K
        refine fm_cV0 O fmD_push_o (i := 0) (as := [.inl 2, .inr (.inl 0), .inr (.inr (.inr (.inl (FP.f2d (FP.fmul (FP.i2f aa) 1040187392)))))]) (rest := []) (v := none) rfl fk_6_172 rfl (by decide) fn_D_push (Nat.le_of_ble_eq_true rfl) (K) ?_
        refine fm_gr O 1 (C' := (593, [(6, .inl (I 44 0 (((I 24 0 29) - 1).toNatClampNeg))), (5, .inl ((I 24 0 29) - 1)), (0, .inr (.inr (.inr (.inr (24, 0))))), (1, .inl f), (2, .inl o), (3, .inl aa), (4, .inl ati)], [], (r3.1, r3.2.1, r3.2.2, fm_P pa pb))) rfl ?_
        exact fm_gRe O rfl trivial (by first | (rw [he]; done) | (rw [he]; rfl) | rfl) (by first | (rw [he]; done) | (rw [he]; rfl) | rfl)
      · have he := he.trans (if_neg h3)
        have hp := hp.2 h3
        by_cases h4 : o = 3
        · have he := he.trans (if_pos h4)
          have hp := hp.1 h4
          refine fm_gs O 3 rfl (show o.toInt = 3 from by rw [h4]; decide) ?_
          refine fm_gr O 6 (C' := (190, [(6, .inl (I 44 0 (((I 24 0 29) - 1).toNatClampNeg))), (5, .inl ((I 24 0 29) - 1)), (0, .inr (.inr (.inr (.inr (24, 0))))), (1, .inl f), (2, .inl o), (3, .inl aa), (4, .inl ati)], [.inr (.inr (.inr (.inl 4593671619917905920))), .inr (.inr (.inr (.inl (FP.i2d aa)))), .inr (.inl 0), .inl 3, .inr (.inr (.inr (.inr (24, 0))))], (I, J, G, fm_P pa pb))) rfl ?_
          refine fm_gg O rfl hp.1 ?_
          have hp := hp.2
          have K := fmD_push_c (d := d) hl (by omega) I J G pa pb 3 0 (FP.dmul (FP.i2d aa) 4593671619917905920) hp
          generalize er4 : fmD_push_f I J G 3 0 (FP.dmul (FP.i2d aa) 4593671619917905920) = r4 at he
          have he := he.trans (fm_letE _ _)
          rw [er4] at K
          refine fm_cV0 O fmD_push_o (i := 0) (as := [.inl 3, .inr (.inl 0), .inr (.inr (.inr (.inl (FP.dmul (FP.i2d aa) 4593671619917905920))))]) (rest := []) (v := none) rfl fk_6_172 rfl (by decide) fn_D_push (Nat.le_of_ble_eq_true rfl) (K) ?_
          refine fm_gr O 1 (C' := (593, [(6, .inl (I 44 0 (((I 24 0 29) - 1).toNatClampNeg))), (5, .inl ((I 24 0 29) - 1)), (0, .inr (.inr (.inr (.inr (24, 0))))), (1, .inl f), (2, .inl o), (3, .inl aa), (4, .inl ati)], [], (r4.1, r4.2.1, r4.2.2, fm_P pa pb))) rfl ?_
          exact fm_gRe O rfl trivial (by first | (rw [he]; done) | (rw [he]; rfl) | rfl) (by first | (rw [he]; done) | (rw [he]; rfl) | rfl)
        · have he := he.trans (if_neg h4)
          have hp := hp.2 h4
          by_cases h5 : o = 4
          · have he := he.trans (if_pos h5)
            have hp := hp.1 h5
            refine fm_gs O 4 rfl (show o.toInt = 4 from by rw [h5]; decide) ?_
            refine fm_gr O 8 (C' := (208, [(6, .inl (I 44 0 (((I 24 0 29) - 1).toNatClampNeg))), (5, .inl ((I 24 0 29) - 1)), (0, .inr (.inr (.inr (.inr (24, 0))))), (1, .inl f), (2, .inl o), (3, .inl aa), (4, .inl ati)], [.inl ((f * 6) + aa), .inr (.inr (.inr (.inr (30, 0)))), .inr (.inr (.inr (.inr (24, 0))))], (I, J, G, fm_P pa pb))) rfl ?_
            refine fm_gg O rfl hp.1 ?_
            have hp := hp.2
            refine fm_gr O 5 (C' := (217, [(6, .inl (I 44 0 (((I 24 0 29) - 1).toNatClampNeg))), (5, .inl ((I 24 0 29) - 1)), (0, .inr (.inr (.inr (.inr (24, 0))))), (1, .inl f), (2, .inl o), (3, .inl aa), (4, .inl ati)], [.inl ((I 44 0 (((I 24 0 29) - 1).toNatClampNeg)) + aa), .inr (.inr (.inr (.inr (40, 0)))), .inl (I 30 0 (((f * 6) + aa).toNatClampNeg)), .inr (.inr (.inr (.inr (24, 0))))], (I, J, G, fm_P pa pb))) rfl ?_
            refine fm_gg O rfl hp.1 ?_
            have hp := hp.2
            refine fm_gr O 5 (C' := (226, [(6, .inl (I 44 0 (((I 24 0 29) - 1).toNatClampNeg))), (5, .inl ((I 24 0 29) - 1)), (0, .inr (.inr (.inr (.inr (24, 0))))), (1, .inl f), (2, .inl o), (3, .inl aa), (4, .inl ati)], [.inl ((I 44 0 (((I 24 0 29) - 1).toNatClampNeg)) + aa), .inr (.inr (.inr (.inr (41, 0)))), .inr (.inl (J 40 0 (((I 44 0 (((I 24 0 29) - 1).toNatClampNeg)) + aa).toNatClampNeg))), .inl (I 30 0 (((f * 6) + aa).toNatClampNeg)), .inr (.inr (.inr (.inr (24, 0))))], (I, J, G, fm_P pa pb))) rfl ?_
            refine fm_gg O rfl hp.1 ?_
            have hp := hp.2
            have K := fmD_push_c (d := d) hl (by omega) I J G pa pb (I 30 0 (((f * 6) + aa).toNatClampNeg)) (J 40 0 (((I 44 0 (((I 24 0 29) - 1).toNatClampNeg)) + aa).toNatClampNeg)) (G 41 0 (((I 44 0 (((I 24 0 29) - 1).toNatClampNeg)) + aa).toNatClampNeg)) hp
            generalize er5 : fmD_push_f I J G (I 30 0 (((f * 6) + aa).toNatClampNeg)) (J 40 0 (((I 44 0 (((I 24 0 29) - 1).toNatClampNeg)) + aa).toNatClampNeg)) (G 41 0 (((I 44 0 (((I 24 0 29) - 1).toNatClampNeg)) + aa).toNatClampNeg)) = r5 at he
            have he := he.trans (fm_letE _ _)
            rw [er5] at K
            refine fm_cV0 O fmD_push_o (i := 0) (as := [.inl (I 30 0 (((f * 6) + aa).toNatClampNeg)), .inr (.inl (J 40 0 (((I 44 0 (((I 24 0 29) - 1).toNatClampNeg)) + aa).toNatClampNeg))), .inr (.inr (.inr (.inl (G 41 0 (((I 44 0 (((I 24 0 29) - 1).toNatClampNeg)) + aa).toNatClampNeg)))))]) (rest := []) (v := none) rfl fk_6_172 rfl (by decide) fn_D_push (Nat.le_of_ble_eq_true rfl) (K) ?_
            refine fm_gr O 1 (C' := (593, [(6, .inl (I 44 0 (((I 24 0 29) - 1).toNatClampNeg))), (5, .inl ((I 24 0 29) - 1)), (0, .inr (.inr (.inr (.inr (24, 0))))), (1, .inl f), (2, .inl o), (3, .inl aa), (4, .inl ati)], [], (r5.1, r5.2.1, r5.2.2, fm_P pa pb))) rfl ?_
            exact fm_gRe O rfl trivial (by first | (rw [he]; done) | (rw [he]; rfl) | rfl) (by first | (rw [he]; done) | (rw [he]; rfl) | rfl)
          · have he := he.trans (if_neg h5)
            have hp := hp.2 h5
            by_cases h6 : o = 5
            · have he := he.trans (if_pos h6)
              have hp := hp.1 h6
              refine fm_gs O 5 rfl (show o.toInt = 5 from by rw [h6]; decide) ?_
              refine fm_gr O 11 (C' := (251, [(6, .inl (I 44 0 (((I 24 0 29) - 1).toNatClampNeg))), (5, .inl ((I 24 0 29) - 1)), (0, .inr (.inr (.inr (.inr (24, 0))))), (1, .inl f), (2, .inl o), (3, .inl aa), (4, .inl ati)], [.inl ((I 24 0 28) - 1), .inr (.inr (.inr (.inr (40, 0)))), .inl ((I 44 0 (((I 24 0 29) - 1).toNatClampNeg)) + aa), .inr (.inr (.inr (.inr (40, 0))))], (I, J, G, fm_P pa pb))) rfl ?_
              refine fm_gg O rfl hp.1 ?_
              have hp := hp.2
              refine fm_gg O rfl hp.1 ?_
              have hp := hp.2
              refine fm_gr O 11 (C' := (271, [(6, .inl (I 44 0 (((I 24 0 29) - 1).toNatClampNeg))), (5, .inl ((I 24 0 29) - 1)), (0, .inr (.inr (.inr (.inr (24, 0))))), (1, .inl f), (2, .inl o), (3, .inl aa), (4, .inl ati)], [.inl ((I 24 0 28) - 1), .inr (.inr (.inr (.inr (41, 0)))), .inl ((I 44 0 (((I 24 0 29) - 1).toNatClampNeg)) + aa), .inr (.inr (.inr (.inr (41, 0))))], (I, fm_u J 40 0 (((I 44 0 (((I 24 0 29) - 1).toNatClampNeg)) + aa).toNatClampNeg) (J 40 0 (((I 24 0 28) - 1).toNatClampNeg)), G, fm_P pa pb))) rfl ?_
              refine fm_gg O rfl hp.1 ?_
              have hp := hp.2
              refine fm_gg O rfl hp ?_
              refine fm_gr O 9 (C' := (593, [(6, .inl (I 44 0 (((I 24 0 29) - 1).toNatClampNeg))), (5, .inl ((I 24 0 29) - 1)), (0, .inr (.inr (.inr (.inr (24, 0))))), (1, .inl f), (2, .inl o), (3, .inl aa), (4, .inl ati)], [], (fm_u I 24 0 28 ((I 24 0 28) - (6 - o)), fm_u J 40 0 (((I 44 0 (((I 24 0 29) - 1).toNatClampNeg)) + aa).toNatClampNeg) (J 40 0 (((I 24 0 28) - 1).toNatClampNeg)), fm_u G 41 0 (((I 44 0 (((I 24 0 29) - 1).toNatClampNeg)) + aa).toNatClampNeg) (G 41 0 (((I 24 0 28) - 1).toNatClampNeg)), fm_P pa pb))) rfl ?_
              exact fm_gRe O rfl trivial (by first | (rw [he]; done) | (rw [he]; rfl) | rfl) (by first | (rw [he]; done) | (rw [he]; rfl) | rfl)
            · have he := he.trans (if_neg h6)
              have hp := hp.2 h6
              by_cases h7 : o = 6
              · have he := he.trans (if_pos h7)
                have hp := hp.1 h7
                refine fm_gs O 6 rfl (show o.toInt = 6 from by rw [h7]; decide) ?_
                refine fm_gr O 11 (C' := (251, [(6, .inl (I 44 0 (((I 24 0 29) - 1).toNatClampNeg))), (5, .inl ((I 24 0 29) - 1)), (0, .inr (.inr (.inr (.inr (24, 0))))), (1, .inl f), (2, .inl o), (3, .inl aa), (4, .inl ati)], [.inl ((I 24 0 28) - 1), .inr (.inr (.inr (.inr (40, 0)))), .inl ((I 44 0 (((I 24 0 29) - 1).toNatClampNeg)) + aa), .inr (.inr (.inr (.inr (40, 0))))], (I, J, G, fm_P pa pb))) rfl ?_
                refine fm_gg O rfl hp.1 ?_
                have hp := hp.2
                refine fm_gg O rfl hp.1 ?_
                have hp := hp.2
                refine fm_gr O 11 (C' := (271, [(6, .inl (I 44 0 (((I 24 0 29) - 1).toNatClampNeg))), (5, .inl ((I 24 0 29) - 1)), (0, .inr (.inr (.inr (.inr (24, 0))))), (1, .inl f), (2, .inl o), (3, .inl aa), (4, .inl ati)], [.inl ((I 24 0 28) - 1), .inr (.inr (.inr (.inr (41, 0)))), .inl ((I 44 0 (((I 24 0 29) - 1).toNatClampNeg)) + aa), .inr (.inr (.inr (.inr (41, 0))))], (I, fm_u J 40 0 (((I 44 0 (((I 24 0 29) - 1).toNatClampNeg)) + aa).toNatClampNeg) (J 40 0 (((I 24 0 28) - 1).toNatClampNeg)), G, fm_P pa pb))) rfl ?_
                refine fm_gg O rfl hp.1 ?_
                have hp := hp.2
                refine fm_gg O rfl hp ?_
                refine fm_gr O 9 (C' := (593, [(6, .inl (I 44 0 (((I 24 0 29) - 1).toNatClampNeg))), (5, .inl ((I 24 0 29) - 1)), (0, .inr (.inr (.inr (.inr (24, 0))))), (1, .inl f), (2, .inl o), (3, .inl aa), (4, .inl ati)], [], (fm_u I 24 0 28 ((I 24 0 28) - (6 - o)), fm_u J 40 0 (((I 44 0 (((I 24 0 29) - 1).toNatClampNeg)) + aa).toNatClampNeg) (J 40 0 (((I 24 0 28) - 1).toNatClampNeg)), fm_u G 41 0 (((I 44 0 (((I 24 0 29) - 1).toNatClampNeg)) + aa).toNatClampNeg) (G 41 0 (((I 24 0 28) - 1).toNatClampNeg)), fm_P pa pb))) rfl ?_
                exact fm_gRe O rfl trivial (by first | (rw [he]; done) | (rw [he]; rfl) | rfl) (by first | (rw [he]; done) | (rw [he]; rfl) | rfl)
              · have he := he.trans (if_neg h7)
                have hp := hp.2 h7
                by_cases h8 : o = 7
                · have he := he.trans (if_pos h8)
                  have hp := hp.1 h8
                  refine fm_gs O 7 rfl (show o.toInt = 7 from by rw [h8]; decide) ?_
                  refine fm_gr O 5 (C' := (296, [(6, .inl (I 44 0 (((I 24 0 29) - 1).toNatClampNeg))), (5, .inl ((I 24 0 29) - 1)), (0, .inr (.inr (.inr (.inr (24, 0))))), (1, .inl f), (2, .inl o), (3, .inl aa), (4, .inl ati)], [.inl aa, .inr (.inr (.inr (.inr (33, 0)))), .inl aa, .inr (.inr (.inr (.inr (24, 0))))], (I, J, G, fm_P pa pb))) rfl ?_
                  refine fm_gg O rfl hp.1 ?_
                  have hp := hp.2
                  refine fm_gr O 3 (C' := (302, [(6, .inl (I 44 0 (((I 24 0 29) - 1).toNatClampNeg))), (5, .inl ((I 24 0 29) - 1)), (0, .inr (.inr (.inr (.inr (24, 0))))), (1, .inl f), (2, .inl o), (3, .inl aa), (4, .inl ati)], [.inl aa, .inr (.inr (.inr (.inr (34, 0)))), .inr (.inl (J 33 0 aa.toNatClampNeg)), .inl aa, .inr (.inr (.inr (.inr (24, 0))))], (I, J, G, fm_P pa pb))) rfl ?_
                  refine fm_gg O rfl hp.1 ?_
                  have hp := hp.2
                  have K := fmD_push_c (d := d) hl (by omega) I J G pa pb aa (J 33 0 aa.toNatClampNeg) (G 34 0 aa.toNatClampNeg) hp
                  generalize er6 : fmD_push_f I J G aa (J 33 0 aa.toNatClampNeg) (G 34 0 aa.toNatClampNeg) = r6 at he
                  have he := he.trans (fm_letE _ _)
                  rw [er6] at K
                  refine fm_cV0 O fmD_push_o (i := 0) (as := [.inl aa, .inr (.inl (J 33 0 aa.toNatClampNeg)), .inr (.inr (.inr (.inl (G 34 0 aa.toNatClampNeg))))]) (rest := []) (v := none) rfl fk_6_172 rfl (by decide) fn_D_push (Nat.le_of_ble_eq_true rfl) (K) ?_
                  refine fm_gr O 1 (C' := (593, [(6, .inl (I 44 0 (((I 24 0 29) - 1).toNatClampNeg))), (5, .inl ((I 24 0 29) - 1)), (0, .inr (.inr (.inr (.inr (24, 0))))), (1, .inl f), (2, .inl o), (3, .inl aa), (4, .inl ati)], [], (r6.1, r6.2.1, r6.2.2, fm_P pa pb))) rfl ?_
                  exact fm_gRe O rfl trivial (by first | (rw [he]; done) | (rw [he]; rfl) | rfl) (by first | (rw [he]; done) | (rw [he]; rfl) | rfl)
                · have he := he.trans (if_neg h8)
                  have hp := hp.2 h8
                  by_cases h9 : o = 8
                  · have he := he.trans (if_pos h9)
                    have hp := hp.1 h9
                    refine fm_gs O 8 rfl (show o.toInt = 8 from by rw [h9]; decide) ?_
                    refine fm_gr O 13 (C' := (332, [(6, .inl (I 44 0 (((I 24 0 29) - 1).toNatClampNeg))), (5, .inl ((I 24 0 29) - 1)), (0, .inr (.inr (.inr (.inr (24, 0))))), (1, .inl f), (2, .inl o), (3, .inl aa), (4, .inl ati)], [.inl ((I 24 0 28) - 1), .inr (.inr (.inr (.inr (40, 0)))), .inl aa, .inr (.inr (.inr (.inr (33, 0))))], (fm_u I 24 0 28 ((I 24 0 28) - 1), J, G, fm_P pa pb))) rfl ?_
                    refine fm_gg O rfl hp.1 ?_
                    have hp := hp.2
                    refine fm_gg O rfl hp.1 ?_
                    have hp := hp.2
                    refine fm_gr O 7 (C' := (347, [(6, .inl (I 44 0 (((I 24 0 29) - 1).toNatClampNeg))), (5, .inl ((I 24 0 29) - 1)), (0, .inr (.inr (.inr (.inr (24, 0))))), (1, .inl f), (2, .inl o), (3, .inl aa), (4, .inl ati)], [.inl ((I 24 0 28) - 1), .inr (.inr (.inr (.inr (41, 0)))), .inl aa, .inr (.inr (.inr (.inr (34, 0))))], (fm_u I 24 0 28 ((I 24 0 28) - 1), fm_u J 33 0 aa.toNatClampNeg (J 40 0 (((I 24 0 28) - 1).toNatClampNeg)), G, fm_P pa pb))) rfl ?_
                    refine fm_gg O rfl hp.1 ?_
                    have hp := hp.2
                    refine fm_gg O rfl hp ?_
                    refine fm_gr O 1 (C' := (593, [(6, .inl (I 44 0 (((I 24 0 29) - 1).toNatClampNeg))), (5, .inl ((I 24 0 29) - 1)), (0, .inr (.inr (.inr (.inr (24, 0))))), (1, .inl f), (2, .inl o), (3, .inl aa), (4, .inl ati)], [], (fm_u I 24 0 28 ((I 24 0 28) - 1), fm_u J 33 0 aa.toNatClampNeg (J 40 0 (((I 24 0 28) - 1).toNatClampNeg)), fm_u G 34 0 aa.toNatClampNeg (G 41 0 (((I 24 0 28) - 1).toNatClampNeg)), fm_P pa pb))) rfl ?_
                    exact fm_gRe O rfl trivial (by first | (rw [he]; done) | (rw [he]; rfl) | rfl) (by first | (rw [he]; done) | (rw [he]; rfl) | rfl)
                  · have he := he.trans (if_neg h9)
                    have hp := hp.2 h9
                    by_cases h10 : o = 9
                    · have he := he.trans (if_pos h10)
                      refine fm_gs O 9 rfl (show o.toInt = 9 from by rw [h10]; decide) ?_
                      refine fm_gr O 7 (C' := (593, [(6, .inl (I 44 0 (((I 24 0 29) - 1).toNatClampNeg))), (5, .inl ((I 24 0 29) - 1)), (0, .inr (.inr (.inr (.inr (24, 0))))), (1, .inl f), (2, .inl o), (3, .inl aa), (4, .inl ati)], [], (fm_u I 24 0 28 ((I 24 0 28) - 1), J, G, fm_P pa pb))) rfl ?_
                      exact fm_gRe O rfl trivial (by first | (rw [he]; done) | (rw [he]; rfl) | rfl) (by first | (rw [he]; done) | (rw [he]; rfl) | rfl)
                    · have he := he.trans (if_neg h10)
                      have hp := hp.2 h10
                      by_cases h11 : o = 10
                      · have he := he.trans (if_pos h11)
                        have hp := hp.1 h11
                        refine fm_gs O 10 rfl (show o.toInt = 10 from by rw [h11]; decide) ?_
                        refine fm_gr O 1 (C' := (366, [(6, .inl (I 44 0 (((I 24 0 29) - 1).toNatClampNeg))), (5, .inl ((I 24 0 29) - 1)), (0, .inr (.inr (.inr (.inr (24, 0))))), (1, .inl f), (2, .inl o), (3, .inl aa), (4, .inl ati)], [.inr (.inr (.inr (.inr (24, 0))))], (I, J, G, fm_P pa pb))) rfl ?_
                        have K := fmD_choice_c (d := d) hl (by omega) I J G pa pb hp
                        generalize er7 : fmD_choice_f I J G = r7 at he
                        have he := he.trans (fm_letE _ _)
                        rw [er7] at K
                        refine fm_cV0 O fmD_choice_o (i := 0) (as := []) (rest := []) (v := none) rfl fk_6_204 rfl (by decide) fn_D_choice (Nat.le_of_ble_eq_true rfl) (K) ?_
                        refine fm_gr O 1 (C' := (593, [(6, .inl (I 44 0 (((I 24 0 29) - 1).toNatClampNeg))), (5, .inl ((I 24 0 29) - 1)), (0, .inr (.inr (.inr (.inr (24, 0))))), (1, .inl f), (2, .inl o), (3, .inl aa), (4, .inl ati)], [], (r7.1, r7.2.1, r7.2.2, fm_P pa pb))) rfl ?_
                        exact fm_gRe O rfl trivial (by first | (rw [he]; done) | (rw [he]; rfl) | rfl) (by first | (rw [he]; done) | (rw [he]; rfl) | rfl)
                      · have he := he.trans (if_neg h11)
                        have hp := hp.2 h11
                        by_cases h12 : o = 11
                        · have he := he.trans (if_pos h12)
                          have hp := hp.1 h12
                          refine fm_gs O 11 rfl (show o.toInt = 11 from by rw [h12]; decide) ?_
                          refine fm_gr O 3 (C' := (590, [(6, .inl (I 44 0 (((I 24 0 29) - 1).toNatClampNeg))), (5, .inl ((I 24 0 29) - 1)), (0, .inr (.inr (.inr (.inr (24, 0))))), (1, .inl f), (2, .inl o), (3, .inl aa), (4, .inl ati)], [.inl aa, .inl o, .inr (.inr (.inr (.inr (24, 0))))], (I, J, G, fm_P pa pb))) rfl ?_
                          have K := fmD_arithmetic_c (d := d) hl (by omega) I J G pa pb o aa hp
                          generalize er8 : fmD_arithmetic_f I J G o aa = r8 at he
                          have he := he.trans (fm_letE _ _)
                          rw [er8] at K
                          refine fm_cV0 O fmD_arithmetic_o (i := 0) (as := [.inl o, .inl aa]) (rest := []) (v := none) rfl fk_6_222 rfl (by decide) fn_D_arithmetic (Nat.le_of_ble_eq_true rfl) (K) ?_
                          exact fm_gRe O rfl trivial (by first | (rw [he]; done) | (rw [he]; rfl) | rfl) (by first | (rw [he]; done) | (rw [he]; rfl) | rfl)
                        · have he := he.trans (if_neg h12)
                          have hp := hp.2 h12
                          by_cases h13 : o = 12
                          · have he := he.trans (if_pos h13)
                            have hp := hp.1 h13
                            refine fm_gs O 12 rfl (show o.toInt = 12 from by rw [h13]; decide) ?_
                            refine fm_gr O 3 (C' := (590, [(6, .inl (I 44 0 (((I 24 0 29) - 1).toNatClampNeg))), (5, .inl ((I 24 0 29) - 1)), (0, .inr (.inr (.inr (.inr (24, 0))))), (1, .inl f), (2, .inl o), (3, .inl aa), (4, .inl ati)], [.inl aa, .inl o, .inr (.inr (.inr (.inr (24, 0))))], (I, J, G, fm_P pa pb))) rfl ?_
                            have K := fmD_arithmetic_c (d := d) hl (by omega) I J G pa pb o aa hp
                            generalize er9 : fmD_arithmetic_f I J G o aa = r9 at he
                            have he := he.trans (fm_letE _ _)
                            rw [er9] at K
                            refine fm_cV0 O fmD_arithmetic_o (i := 0) (as := [.inl o, .inl aa]) (rest := []) (v := none) rfl fk_6_222 rfl (by decide) fn_D_arithmetic (Nat.le_of_ble_eq_true rfl) (K) ?_
                            exact fm_gRe O rfl trivial (by first | (rw [he]; done) | (rw [he]; rfl) | rfl) (by first | (rw [he]; done) | (rw [he]; rfl) | rfl)
                          · have he := he.trans (if_neg h13)
                            have hp := hp.2 h13
                            by_cases h14 : o = 13
                            · have he := he.trans (if_pos h14)
                              have hp := hp.1 h14
                              refine fm_gs O 13 rfl (show o.toInt = 13 from by rw [h14]; decide) ?_
                              refine fm_gr O 3 (C' := (590, [(6, .inl (I 44 0 (((I 24 0 29) - 1).toNatClampNeg))), (5, .inl ((I 24 0 29) - 1)), (0, .inr (.inr (.inr (.inr (24, 0))))), (1, .inl f), (2, .inl o), (3, .inl aa), (4, .inl ati)], [.inl aa, .inl o, .inr (.inr (.inr (.inr (24, 0))))], (I, J, G, fm_P pa pb))) rfl ?_
                              have K := fmD_arithmetic_c (d := d) hl (by omega) I J G pa pb o aa hp
                              generalize er10 : fmD_arithmetic_f I J G o aa = r10 at he
                              have he := he.trans (fm_letE _ _)
                              rw [er10] at K
                              refine fm_cV0 O fmD_arithmetic_o (i := 0) (as := [.inl o, .inl aa]) (rest := []) (v := none) rfl fk_6_222 rfl (by decide) fn_D_arithmetic (Nat.le_of_ble_eq_true rfl) (K) ?_
                              exact fm_gRe O rfl trivial (by first | (rw [he]; done) | (rw [he]; rfl) | rfl) (by first | (rw [he]; done) | (rw [he]; rfl) | rfl)
                            · have he := he.trans (if_neg h14)
                              have hp := hp.2 h14
                              by_cases h15 : o = 14
                              · have he := he.trans (if_pos h15)
                                have hp := hp.1 h15
                                refine fm_gs O 14 rfl (show o.toInt = 14 from by rw [h15]; decide) ?_
                                refine fm_gr O 3 (C' := (590, [(6, .inl (I 44 0 (((I 24 0 29) - 1).toNatClampNeg))), (5, .inl ((I 24 0 29) - 1)), (0, .inr (.inr (.inr (.inr (24, 0))))), (1, .inl f), (2, .inl o), (3, .inl aa), (4, .inl ati)], [.inl aa, .inl o, .inr (.inr (.inr (.inr (24, 0))))], (I, J, G, fm_P pa pb))) rfl ?_
                                have K := fmD_arithmetic_c (d := d) hl (by omega) I J G pa pb o aa hp
                                generalize er11 : fmD_arithmetic_f I J G o aa = r11 at he
                                have he := he.trans (fm_letE _ _)
                                rw [er11] at K
                                refine fm_cV0 O fmD_arithmetic_o (i := 0) (as := [.inl o, .inl aa]) (rest := []) (v := none) rfl fk_6_222 rfl (by decide) fn_D_arithmetic (Nat.le_of_ble_eq_true rfl) (K) ?_
                                exact fm_gRe O rfl trivial (by first | (rw [he]; done) | (rw [he]; rfl) | rfl) (by first | (rw [he]; done) | (rw [he]; rfl) | rfl)
                              · have he := he.trans (if_neg h15)
                                have hp := hp.2 h15
                                by_cases h16 : o = 15
                                · have he := he.trans (if_pos h16)
                                  have hp := hp.1 h16
                                  refine fm_gs O 15 rfl (show o.toInt = 15 from by rw [h16]; decide) ?_
                                  refine fm_gr O 3 (C' := (590, [(6, .inl (I 44 0 (((I 24 0 29) - 1).toNatClampNeg))), (5, .inl ((I 24 0 29) - 1)), (0, .inr (.inr (.inr (.inr (24, 0))))), (1, .inl f), (2, .inl o), (3, .inl aa), (4, .inl ati)], [.inl aa, .inl o, .inr (.inr (.inr (.inr (24, 0))))], (I, J, G, fm_P pa pb))) rfl ?_
                                  have K := fmD_arithmetic_c (d := d) hl (by omega) I J G pa pb o aa hp
                                  generalize er12 : fmD_arithmetic_f I J G o aa = r12 at he
                                  have he := he.trans (fm_letE _ _)
                                  rw [er12] at K
                                  refine fm_cV0 O fmD_arithmetic_o (i := 0) (as := [.inl o, .inl aa]) (rest := []) (v := none) rfl fk_6_222 rfl (by decide) fn_D_arithmetic (Nat.le_of_ble_eq_true rfl) (K) ?_
                                  exact fm_gRe O rfl trivial (by first | (rw [he]; done) | (rw [he]; rfl) | rfl) (by first | (rw [he]; done) | (rw [he]; rfl) | rfl)
                                · have he := he.trans (if_neg h16)
                                  have hp := hp.2 h16
                                  by_cases h17 : o = 16
                                  · have he := he.trans (if_pos h17)
                                    have hp := hp.1 h17
                                    refine fm_gs O 16 rfl (show o.toInt = 16 from by rw [h17]; decide) ?_
                                    refine fm_gr O 3 (C' := (590, [(6, .inl (I 44 0 (((I 24 0 29) - 1).toNatClampNeg))), (5, .inl ((I 24 0 29) - 1)), (0, .inr (.inr (.inr (.inr (24, 0))))), (1, .inl f), (2, .inl o), (3, .inl aa), (4, .inl ati)], [.inl aa, .inl o, .inr (.inr (.inr (.inr (24, 0))))], (I, J, G, fm_P pa pb))) rfl ?_
                                    have K := fmD_arithmetic_c (d := d) hl (by omega) I J G pa pb o aa hp
                                    generalize er13 : fmD_arithmetic_f I J G o aa = r13 at he
                                    have he := he.trans (fm_letE _ _)
                                    rw [er13] at K
                                    refine fm_cV0 O fmD_arithmetic_o (i := 0) (as := [.inl o, .inl aa]) (rest := []) (v := none) rfl fk_6_222 rfl (by decide) fn_D_arithmetic (Nat.le_of_ble_eq_true rfl) (K) ?_
                                    exact fm_gRe O rfl trivial (by first | (rw [he]; done) | (rw [he]; rfl) | rfl) (by first | (rw [he]; done) | (rw [he]; rfl) | rfl)
                                  · have he := he.trans (if_neg h17)
                                    have hp := hp.2 h17
                                    by_cases h18 : o = 17
                                    · have he := he.trans (if_pos h18)
                                      have hp := hp.1 h18
                                      refine fm_gs O 17 rfl (show o.toInt = 17 from by rw [h18]; decide) ?_
                                      refine fm_gr O 3 (C' := (590, [(6, .inl (I 44 0 (((I 24 0 29) - 1).toNatClampNeg))), (5, .inl ((I 24 0 29) - 1)), (0, .inr (.inr (.inr (.inr (24, 0))))), (1, .inl f), (2, .inl o), (3, .inl aa), (4, .inl ati)], [.inl aa, .inl o, .inr (.inr (.inr (.inr (24, 0))))], (I, J, G, fm_P pa pb))) rfl ?_
                                      have K := fmD_arithmetic_c (d := d) hl (by omega) I J G pa pb o aa hp
                                      generalize er14 : fmD_arithmetic_f I J G o aa = r14 at he
                                      have he := he.trans (fm_letE _ _)
                                      rw [er14] at K
                                      refine fm_cV0 O fmD_arithmetic_o (i := 0) (as := [.inl o, .inl aa]) (rest := []) (v := none) rfl fk_6_222 rfl (by decide) fn_D_arithmetic (Nat.le_of_ble_eq_true rfl) (K) ?_
                                      exact fm_gRe O rfl trivial (by first | (rw [he]; done) | (rw [he]; rfl) | rfl) (by first | (rw [he]; done) | (rw [he]; rfl) | rfl)
                                    · have he := he.trans (if_neg h18)
                                      have hp := hp.2 h18
                                      by_cases h19 : o = 18
                                      · have he := he.trans (if_pos h19)
                                        have hp := hp.1 h19
                                        refine fm_gs O 18 rfl (show o.toInt = 18 from by rw [h19]; decide) ?_
                                        refine fm_gr O 3 (C' := (590, [(6, .inl (I 44 0 (((I 24 0 29) - 1).toNatClampNeg))), (5, .inl ((I 24 0 29) - 1)), (0, .inr (.inr (.inr (.inr (24, 0))))), (1, .inl f), (2, .inl o), (3, .inl aa), (4, .inl ati)], [.inl aa, .inl o, .inr (.inr (.inr (.inr (24, 0))))], (I, J, G, fm_P pa pb))) rfl ?_
                                        have K := fmD_arithmetic_c (d := d) hl (by omega) I J G pa pb o aa hp
                                        generalize er15 : fmD_arithmetic_f I J G o aa = r15 at he
                                        have he := he.trans (fm_letE _ _)
                                        rw [er15] at K
                                        refine fm_cV0 O fmD_arithmetic_o (i := 0) (as := [.inl o, .inl aa]) (rest := []) (v := none) rfl fk_6_222 rfl (by decide) fn_D_arithmetic (Nat.le_of_ble_eq_true rfl) (K) ?_
                                        exact fm_gRe O rfl trivial (by first | (rw [he]; done) | (rw [he]; rfl) | rfl) (by first | (rw [he]; done) | (rw [he]; rfl) | rfl)
                                      · have he := he.trans (if_neg h19)
                                        have hp := hp.2 h19
                                        by_cases h20 : o = 19
                                        · have he := he.trans (if_pos h20)
                                          have hp := hp.1 h20
                                          refine fm_gs O 19 rfl (show o.toInt = 19 from by rw [h20]; decide) ?_
                                          refine fm_gr O 3 (C' := (590, [(6, .inl (I 44 0 (((I 24 0 29) - 1).toNatClampNeg))), (5, .inl ((I 24 0 29) - 1)), (0, .inr (.inr (.inr (.inr (24, 0))))), (1, .inl f), (2, .inl o), (3, .inl aa), (4, .inl ati)], [.inl aa, .inl o, .inr (.inr (.inr (.inr (24, 0))))], (I, J, G, fm_P pa pb))) rfl ?_
                                          have K := fmD_arithmetic_c (d := d) hl (by omega) I J G pa pb o aa hp
                                          generalize er16 : fmD_arithmetic_f I J G o aa = r16 at he
                                          have he := he.trans (fm_letE _ _)
                                          rw [er16] at K
                                          refine fm_cV0 O fmD_arithmetic_o (i := 0) (as := [.inl o, .inl aa]) (rest := []) (v := none) rfl fk_6_222 rfl (by decide) fn_D_arithmetic (Nat.le_of_ble_eq_true rfl) (K) ?_
                                          exact fm_gRe O rfl trivial (by first | (rw [he]; done) | (rw [he]; rfl) | rfl) (by first | (rw [he]; done) | (rw [he]; rfl) | rfl)
                                        · have he := he.trans (if_neg h20)
                                          have hp := hp.2 h20
                                          by_cases h21 : o = 20
                                          · have he := he.trans (if_pos h21)
                                            have hp := hp.1 h21
                                            refine fm_gs O 20 rfl (show o.toInt = 20 from by rw [h21]; decide) ?_
                                            refine fm_gr O 3 (C' := (375, [(6, .inl (I 44 0 (((I 24 0 29) - 1).toNatClampNeg))), (5, .inl ((I 24 0 29) - 1)), (0, .inr (.inr (.inr (.inr (24, 0))))), (1, .inl f), (2, .inl o), (3, .inl aa), (4, .inl ati)], [.inl 4, .inl aa, .inr (.inr (.inr (.inr (24, 0))))], (I, J, G, fm_P pa pb))) rfl ?_
                                            refine fm_gg O rfl (show ¬ (4 : Int32) = 0 by decide) ?_
                                            refine fm_gr O 2 (C' := (378, [(6, .inl (I 44 0 (((I 24 0 29) - 1).toNatClampNeg))), (5, .inl ((I 24 0 29) - 1)), (0, .inr (.inr (.inr (.inr (24, 0))))), (1, .inl f), (2, .inl o), (3, .inl aa), (4, .inl ati)], [.inl 4, .inl aa, .inl (aa / 4), .inr (.inr (.inr (.inr (24, 0))))], (I, J, G, fm_P pa pb))) rfl ?_
                                            refine fm_gg O rfl (show ¬ (4 : Int32) = 0 by decide) ?_
                                            have K := fmD_convert_c (d := d) hl (by omega) I J G pa pb (aa / 4) (aa - aa / 4 * 4) hp
                                            generalize er17 : fmD_convert_f I J G (aa / 4) (aa - aa / 4 * 4) = r17 at he
                                            have he := he.trans (fm_letE _ _)
                                            rw [er17] at K
                                            refine fm_cV0 O fmD_convert_o (i := 0) (as := [.inl (aa / 4), .inl (aa - aa / 4 * 4)]) (rest := []) (v := none) rfl fk_6_207 rfl (by decide) fn_D_convert (Nat.le_of_ble_eq_true rfl) (K) ?_
                                            refine fm_gr O 1 (C' := (593, [(6, .inl (I 44 0 (((I 24 0 29) - 1).toNatClampNeg))), (5, .inl ((I 24 0 29) - 1)), (0, .inr (.inr (.inr (.inr (24, 0))))), (1, .inl f), (2, .inl o), (3, .inl aa), (4, .inl ati)], [], (r17.1, r17.2.1, r17.2.2, fm_P pa pb))) rfl ?_
                                            exact fm_gRe O rfl trivial (by first | (rw [he]; done) | (rw [he]; rfl) | rfl) (by first | (rw [he]; done) | (rw [he]; rfl) | rfl)
                                          · have he := he.trans (if_neg h21)
                                            have hp := hp.2 h21
                                            by_cases h22 : o = 21
                                            · have he := he.trans (if_pos h22)
                                              have hp := hp.1 h22
                                              refine fm_gs O 21 rfl (show o.toInt = 21 from by rw [h22]; decide) ?_
                                              refine fm_gr O 2 (C' := (388, [(6, .inl (I 44 0 (((I 24 0 29) - 1).toNatClampNeg))), (5, .inl ((I 24 0 29) - 1)), (0, .inr (.inr (.inr (.inr (24, 0))))), (1, .inl f), (2, .inl o), (3, .inl aa), (4, .inl ati)], [.inl ati, .inr (.inr (.inr (.inr (24, 0))))], (I, J, G, fm_P pa pb))) rfl ?_
                                              have K := fmD_openFrame_c (d := d) hl (by omega) I J G pa pb ati hp
                                              generalize er18 : fmD_openFrame_f I ati = r18 at he
                                              have he := he.trans (fm_letE _ _)
                                              rw [er18] at K
                                              refine fm_cV0 O fmD_openFrame_o (i := 0) (as := [.inl ati]) (rest := []) (v := none) rfl fk_6_210 rfl (by decide) fn_D_openFrame (Nat.le_of_ble_eq_true rfl) (K) ?_
                                              refine fm_gr O 1 (C' := (593, [(6, .inl (I 44 0 (((I 24 0 29) - 1).toNatClampNeg))), (5, .inl ((I 24 0 29) - 1)), (0, .inr (.inr (.inr (.inr (24, 0))))), (1, .inl f), (2, .inl o), (3, .inl aa), (4, .inl ati)], [], (r18, J, G, fm_P pa pb))) rfl ?_
                                              exact fm_gRe O rfl trivial (by first | (rw [he]; done) | (rw [he]; rfl) | rfl) (by first | (rw [he]; done) | (rw [he]; rfl) | rfl)
                                            · have he := he.trans (if_neg h22)
                                              have hp := hp.2 h22
                                              by_cases h23 : o = 22
                                              · have he := he.trans (if_pos h23)
                                                have hp := hp.1 h23
                                                refine fm_gs O 22 rfl (show o.toInt = 22 from by rw [h23]; decide) ?_
                                                refine fm_gr O 2 (C' := (388, [(6, .inl (I 44 0 (((I 24 0 29) - 1).toNatClampNeg))), (5, .inl ((I 24 0 29) - 1)), (0, .inr (.inr (.inr (.inr (24, 0))))), (1, .inl f), (2, .inl o), (3, .inl aa), (4, .inl ati)], [.inl ati, .inr (.inr (.inr (.inr (24, 0))))], (I, J, G, fm_P pa pb))) rfl ?_
                                                have K := fmD_openFrame_c (d := d) hl (by omega) I J G pa pb ati hp
                                                generalize er19 : fmD_openFrame_f I ati = r19 at he
                                                have he := he.trans (fm_letE _ _)
                                                rw [er19] at K
                                                refine fm_cV0 O fmD_openFrame_o (i := 0) (as := [.inl ati]) (rest := []) (v := none) rfl fk_6_210 rfl (by decide) fn_D_openFrame (Nat.le_of_ble_eq_true rfl) (K) ?_
                                                refine fm_gr O 1 (C' := (593, [(6, .inl (I 44 0 (((I 24 0 29) - 1).toNatClampNeg))), (5, .inl ((I 24 0 29) - 1)), (0, .inr (.inr (.inr (.inr (24, 0))))), (1, .inl f), (2, .inl o), (3, .inl aa), (4, .inl ati)], [], (r19, J, G, fm_P pa pb))) rfl ?_
                                                exact fm_gRe O rfl trivial (by first | (rw [he]; done) | (rw [he]; rfl) | rfl) (by first | (rw [he]; done) | (rw [he]; rfl) | rfl)
                                              · have he := he.trans (if_neg h23)
                                                have hp := hp.2 h23
                                                by_cases h24 : o = 23
                                                · have he := he.trans (if_pos h24)
                                                  have hp := hp.1 h24
                                                  refine fm_gs O 23 rfl (show o.toInt = 23 from by rw [h24]; decide) ?_
                                                  refine fm_gr O 8 (C' := (407, [(6, .inl (I 44 0 (((I 24 0 29) - 1).toNatClampNeg))), (5, .inl ((I 24 0 29) - 1)), (0, .inr (.inr (.inr (.inr (24, 0))))), (1, .inl f), (2, .inl o), (3, .inl aa), (4, .inl ati)], [.inl ati, .inr (.inr (.inr (.inr (24, 0))))], (fm_u I 24 0 28 ((I 24 0 28) - 1), J, G, fm_P pa pb))) rfl ?_
                                                  have hc := hp.1
                                                  have hp := hp.2
                                                  have K := fmD_openFrame_c (d := d) hl (by omega) (fm_u I 24 0 28 ((I 24 0 28) - 1)) J G pa pb ati hc
                                                  generalize er20 : fmD_openFrame_f (fm_u I 24 0 28 ((I 24 0 28) - 1)) ati = r20 at he hp
                                                  have he := he.trans (fm_letE _ _)
                                                  have hp := fm_letP hp
                                                  rw [er20] at K
                                                  refine fm_cV0 O fmD_openFrame_o (i := 0) (as := [.inl ati]) (rest := []) (v := none) rfl fk_6_210 rfl (by decide) fn_D_openFrame (Nat.le_of_ble_eq_true rfl) (K) ?_
                                                  refine fm_gr O 4 (C' := (418, [(6, .inl (I 44 0 (((I 24 0 29) - 1).toNatClampNeg))), (5, .inl ((I 24 0 29) - 1)), (0, .inr (.inr (.inr (.inr (24, 0))))), (1, .inl f), (2, .inl o), (3, .inl aa), (4, .inl ati)], [.inl (r20 24 0 28), .inr (.inr (.inr (.inr (40, 0))))], (r20, J, G, fm_P pa pb))) rfl ?_
                                                  refine fm_gg O rfl hp.1 ?_
                                                  have hp := hp.2
                                                  refine fm_gr O 2 (C' := (421, [(6, .inl (I 44 0 (((I 24 0 29) - 1).toNatClampNeg))), (5, .inl ((I 24 0 29) - 1)), (0, .inr (.inr (.inr (.inr (24, 0))))), (1, .inl f), (2, .inl o), (3, .inl aa), (4, .inl ati)], [.inl (lg_cmp (J 40 0 ((r20 24 0 28).toNatClampNeg)) 0)], (r20, J, G, fm_P pa pb))) rfl ?_
                                                  refine fm_gb O rfl (fun h => ?_) (fun h => ?_)
                                                  · have h25 : (lg_cmp (J 40 0 ((r20 24 0 28).toNatClampNeg)) 0) = 0 := h
                                                    have he := he.trans (if_pos h25)
                                                    have hp := hp.1 h25
                                                    refine fm_gr O 4 (C' := (432, [(6, .inl (I 44 0 (((I 24 0 29) - 1).toNatClampNeg))), (5, .inl ((I 24 0 29) - 1)), (0, .inr (.inr (.inr (.inr (24, 0))))), (1, .inl f), (2, .inl o), (3, .inl aa), (4, .inl ati)], [.inl 1, .inl ati, .inl f, .inr (.inr (.inr (.inr (24, 0))))], (r20, J, G, fm_P pa pb))) rfl ?_
                                                    have hc := hp.1
                                                    have hp := hp.2
                                                    have K := fmD_endOf_c (d := d) hl (by omega) r20 J G pa pb f ati 1 hc
                                                    generalize er21 : fmD_endOf_f r20 J G pa pb f ati 1 = r21 at he hp
                                                    have he := he.trans (fm_letE _ _)
                                                    have hp := fm_letP hp
                                                    rw [er21] at K
                                                    refine fm_cV0 O fmD_endOf_o (i := 0) (as := [.inl f, .inl ati, .inl 1]) (rest := []) (v := some (.inl r21)) rfl fk_6_194 rfl (by decide) fn_D_endOf (Nat.le_of_ble_eq_true rfl) (K) ?_
                                                    refine fm_gr O 7 (C' := (447, [(7, .inl r21), (6, .inl (I 44 0 (((I 24 0 29) - 1).toNatClampNeg))), (5, .inl ((I 24 0 29) - 1)), (0, .inr (.inr (.inr (.inr (24, 0))))), (1, .inl f), (2, .inl o), (3, .inl aa), (4, .inl ati)], [.inl (r21 + 1), .inl ((I 24 0 29) - 1), .inr (.inr (.inr (.inr (43, 0))))], (r20, J, G, fm_P pa pb))) rfl ?_
                                                    refine fm_gg O rfl hp.1 ?_
                                                    have hp := hp.2
                                                    refine fm_gr O 7 (C' := (459, [(7, .inl r21), (6, .inl (I 44 0 (((I 24 0 29) - 1).toNatClampNeg))), (5, .inl ((I 24 0 29) - 1)), (0, .inr (.inr (.inr (.inr (24, 0))))), (1, .inl f), (2, .inl o), (3, .inl aa), (4, .inl ati)], [.inl ((f * 40) + r21), .inr (.inr (.inr (.inr (25, 0))))], (fm_u r20 43 0 (((I 24 0 29) - 1).toNatClampNeg) (r21 + 1), J, G, fm_P pa pb))) rfl ?_
                                                    refine fm_gg O rfl hp ?_
                                                    refine fm_gr O 1 (C' := (462, [(7, .inl r21), (6, .inl (I 44 0 (((I 24 0 29) - 1).toNatClampNeg))), (5, .inl ((I 24 0 29) - 1)), (0, .inr (.inr (.inr (.inr (24, 0))))), (1, .inl f), (2, .inl o), (3, .inl aa), (4, .inl ati)], [.inl 25, .inl (r20 25 0 (((f * 40) + r21).toNatClampNeg))], (fm_u r20 43 0 (((I 24 0 29) - 1).toNatClampNeg) (r21 + 1), J, G, fm_P pa pb))) rfl ?_
                                                    refine fm_gb O rfl (fun h => ?_) (fun h => ?_)
                                                    · have h26 : (r20 25 0 (((f * 40) + r21).toNatClampNeg)) = 25 := h
                                                      have he := he.trans (if_pos h26)
                                                      refine fm_gr O 7 (C' := (593, [(7, .inl r21), (6, .inl (I 44 0 (((I 24 0 29) - 1).toNatClampNeg))), (5, .inl ((I 24 0 29) - 1)), (0, .inr (.inr (.inr (.inr (24, 0))))), (1, .inl f), (2, .inl o), (3, .inl aa), (4, .inl ati)], [], (fm_u (fm_u r20 43 0 (((I 24 0 29) - 1).toNatClampNeg) (r21 + 1)) 24 0 30 ((r20 24 0 30) - 1), J, G, fm_P pa pb))) rfl ?_
                                                      exact fm_gRe O rfl trivial (by first | (rw [he]; done) | (rw [he]; rfl) | rfl) (by first | (rw [he]; done) | (rw [he]; rfl) | rfl)
                                                    · have h26 : ¬ (r20 25 0 (((f * 40) + r21).toNatClampNeg)) = 25 := h
                                                      have he := he.trans (if_neg h26)
                                                      exact fm_gRe O rfl trivial (by first | (rw [he]; done) | (rw [he]; rfl) | rfl) (by first | (rw [he]; done) | (rw [he]; rfl) | rfl)
                                                  · have h25 : ¬ (lg_cmp (J 40 0 ((r20 24 0 28).toNatClampNeg)) 0) = 0 := h
                                                    have he := he.trans (if_neg h25)
                                                    refine fm_gr O 1 (C' := (593, [(6, .inl (I 44 0 (((I 24 0 29) - 1).toNatClampNeg))), (5, .inl ((I 24 0 29) - 1)), (0, .inr (.inr (.inr (.inr (24, 0))))), (1, .inl f), (2, .inl o), (3, .inl aa), (4, .inl ati)], [], (r20, J, G, fm_P pa pb))) rfl ?_
                                                    exact fm_gRe O rfl trivial (by first | (rw [he]; done) | (rw [he]; rfl) | rfl) (by first | (rw [he]; done) | (rw [he]; rfl) | rfl)
                                                · have he := he.trans (if_neg h24)
                                                  have hp := hp.2 h24
                                                  by_cases h25 : o = 24
                                                  · have he := he.trans (if_pos h25)
                                                    have hp := hp.1 h25
                                                    refine fm_gs O 24 rfl (show o.toInt = 24 from by rw [h25]; decide) ?_
                                                    refine fm_gr O 13 (C' := (499, [(6, .inl (I 44 0 (((I 24 0 29) - 1).toNatClampNeg))), (5, .inl ((I 24 0 29) - 1)), (0, .inr (.inr (.inr (.inr (24, 0))))), (1, .inl f), (2, .inl o), (3, .inl aa), (4, .inl ati)], [.inl 0, .inl ati, .inl f, .inr (.inr (.inr (.inr (24, 0)))), .inl ((I 24 0 29) - 1), .inr (.inr (.inr (.inr (43, 0))))], (fm_u I 24 0 30 ((I 24 0 30) - 1), J, G, fm_P pa pb))) rfl ?_
                                                    have hc := hp.1
                                                    have hp := hp.2
                                                    have K := fmD_endOf_c (d := d) hl (by omega) (fm_u I 24 0 30 ((I 24 0 30) - 1)) J G pa pb f ati 0 hc
                                                    generalize er22 : fmD_endOf_f (fm_u I 24 0 30 ((I 24 0 30) - 1)) J G pa pb f ati 0 = r22 at he hp
                                                    have he := he.trans (fm_letE _ _)
                                                    have hp := fm_letP hp
                                                    rw [er22] at K
                                                    refine fm_cV0 O fmD_endOf_o (i := 0) (as := [.inl f, .inl ati, .inl 0]) (rest := [.inl ((I 24 0 29) - 1), .inr (.inr (.inr (.inr (43, 0))))]) (v := some (.inl r22)) rfl fk_6_194 rfl (by decide) fn_D_endOf (Nat.le_of_ble_eq_true rfl) (K) ?_
                                                    refine fm_gr O 2 (C' := (504, [(6, .inl (I 44 0 (((I 24 0 29) - 1).toNatClampNeg))), (5, .inl ((I 24 0 29) - 1)), (0, .inr (.inr (.inr (.inr (24, 0))))), (1, .inl f), (2, .inl o), (3, .inl aa), (4, .inl ati)], [.inl (r22 + 1), .inl ((I 24 0 29) - 1), .inr (.inr (.inr (.inr (43, 0))))], (fm_u I 24 0 30 ((I 24 0 30) - 1), J, G, fm_P pa pb))) rfl ?_
                                                    refine fm_gg O rfl hp ?_
                                                    refine fm_gr O 1 (C' := (593, [(6, .inl (I 44 0 (((I 24 0 29) - 1).toNatClampNeg))), (5, .inl ((I 24 0 29) - 1)), (0, .inr (.inr (.inr (.inr (24, 0))))), (1, .inl f), (2, .inl o), (3, .inl aa), (4, .inl ati)], [], (fm_u (fm_u I 24 0 30 ((I 24 0 30) - 1)) 43 0 (((I 24 0 29) - 1).toNatClampNeg) (r22 + 1), J, G, fm_P pa pb))) rfl ?_
                                                    exact fm_gRe O rfl trivial (by first | (rw [he]; done) | (rw [he]; rfl) | rfl) (by first | (rw [he]; done) | (rw [he]; rfl) | rfl)
                                                  · have he := he.trans (if_neg h25)
                                                    have hp := hp.2 h25
                                                    by_cases h26 : o = 25
                                                    · have he := he.trans (if_pos h26)
                                                      refine fm_gs O 25 rfl (show o.toInt = 25 from by rw [h26]; decide) ?_
                                                      refine fm_gr O 7 (C' := (593, [(6, .inl (I 44 0 (((I 24 0 29) - 1).toNatClampNeg))), (5, .inl ((I 24 0 29) - 1)), (0, .inr (.inr (.inr (.inr (24, 0))))), (1, .inl f), (2, .inl o), (3, .inl aa), (4, .inl ati)], [], (fm_u I 24 0 30 ((I 24 0 30) - 1), J, G, fm_P pa pb))) rfl ?_
                                                      exact fm_gRe O rfl trivial (by first | (rw [he]; done) | (rw [he]; rfl) | rfl) (by first | (rw [he]; done) | (rw [he]; rfl) | rfl)
                                                    · have he := he.trans (if_neg h26)
                                                      have hp := hp.2 h26
                                                      by_cases h27 : o = 26
                                                      · have he := he.trans (if_pos h27)
                                                        have hp := hp.1 h27
                                                        refine fm_gs O 26 rfl (show o.toInt = 26 from by rw [h27]; decide) ?_
                                                        refine fm_gr O 3 (C' := (524, [(6, .inl (I 44 0 (((I 24 0 29) - 1).toNatClampNeg))), (5, .inl ((I 24 0 29) - 1)), (0, .inr (.inr (.inr (.inr (24, 0))))), (1, .inl f), (2, .inl o), (3, .inl aa), (4, .inl ati)], [.inl aa, .inl f, .inr (.inr (.inr (.inr (24, 0))))], (I, J, G, fm_P pa pb))) rfl ?_
                                                        have K := fmD_jumpTo_c (d := d) hl (by omega) I J G pa pb f aa hp
                                                        generalize er23 : fmD_jumpTo_f I J G pa pb f aa = r23 at he
                                                        have he := he.trans (fm_letE _ _)
                                                        rw [er23] at K
                                                        refine fm_cV0 O fmD_jumpTo_o (i := 0) (as := [.inl f, .inl aa]) (rest := []) (v := none) rfl fk_6_213 rfl (by decide) fn_D_jumpTo (Nat.le_of_ble_eq_true rfl) (K) ?_
                                                        refine fm_gr O 1 (C' := (593, [(6, .inl (I 44 0 (((I 24 0 29) - 1).toNatClampNeg))), (5, .inl ((I 24 0 29) - 1)), (0, .inr (.inr (.inr (.inr (24, 0))))), (1, .inl f), (2, .inl o), (3, .inl aa), (4, .inl ati)], [], (r23.1, r23.2.1, r23.2.2, fm_P pa pb))) rfl ?_
                                                        exact fm_gRe O rfl trivial (by first | (rw [he]; done) | (rw [he]; rfl) | rfl) (by first | (rw [he]; done) | (rw [he]; rfl) | rfl)
                                                      · have he := he.trans (if_neg h27)
                                                        have hp := hp.2 h27
                                                        by_cases h28 : o = 27
                                                        · have he := he.trans (if_pos h28)
                                                          have hp := hp.1 h28
                                                          refine fm_gs O 27 rfl (show o.toInt = 27 from by rw [h28]; decide) ?_
                                                          refine fm_gr O 10 (C' := (548, [(6, .inl (I 44 0 (((I 24 0 29) - 1).toNatClampNeg))), (5, .inl ((I 24 0 29) - 1)), (0, .inr (.inr (.inr (.inr (24, 0))))), (1, .inl f), (2, .inl o), (3, .inl aa), (4, .inl ati)], [.inl ((I 24 0 28) - 1), .inr (.inr (.inr (.inr (40, 0))))], (fm_u I 24 0 28 ((I 24 0 28) - 1), J, G, fm_P pa pb))) rfl ?_
                                                          refine fm_gg O rfl hp.1 ?_
                                                          have hp := hp.2
                                                          refine fm_gr O 2 (C' := (551, [(6, .inl (I 44 0 (((I 24 0 29) - 1).toNatClampNeg))), (5, .inl ((I 24 0 29) - 1)), (0, .inr (.inr (.inr (.inr (24, 0))))), (1, .inl f), (2, .inl o), (3, .inl aa), (4, .inl ati)], [.inl (lg_cmp (J 40 0 (((I 24 0 28) - 1).toNatClampNeg)) 0)], (fm_u I 24 0 28 ((I 24 0 28) - 1), J, G, fm_P pa pb))) rfl ?_
                                                          refine fm_gb O rfl (fun h => ?_) (fun h => ?_)
                                                          · have h29 : (lg_cmp (J 40 0 (((I 24 0 28) - 1).toNatClampNeg)) 0) = 0 := h
                                                            have he := he.trans (if_pos h29)
                                                            exact fm_gRe O rfl trivial (by first | (rw [he]; done) | (rw [he]; rfl) | rfl) (by first | (rw [he]; done) | (rw [he]; rfl) | rfl)
                                                          · have h29 : ¬ (lg_cmp (J 40 0 (((I 24 0 28) - 1).toNatClampNeg)) 0) = 0 := h
                                                            have he := he.trans (if_neg h29)
                                                            have hp := hp.2 h29
                                                            refine fm_gr O 3 (C' := (557, [(6, .inl (I 44 0 (((I 24 0 29) - 1).toNatClampNeg))), (5, .inl ((I 24 0 29) - 1)), (0, .inr (.inr (.inr (.inr (24, 0))))), (1, .inl f), (2, .inl o), (3, .inl aa), (4, .inl ati)], [.inl aa, .inl f, .inr (.inr (.inr (.inr (24, 0))))], (fm_u I 24 0 28 ((I 24 0 28) - 1), J, G, fm_P pa pb))) rfl ?_
                                                            have K := fmD_jumpTo_c (d := d) hl (by omega) (fm_u I 24 0 28 ((I 24 0 28) - 1)) J G pa pb f aa hp
                                                            generalize er24 : fmD_jumpTo_f (fm_u I 24 0 28 ((I 24 0 28) - 1)) J G pa pb f aa = r24 at he
                                                            have he := he.trans (fm_letE _ _)
                                                            rw [er24] at K
                                                            refine fm_cV0 O fmD_jumpTo_o (i := 0) (as := [.inl f, .inl aa]) (rest := []) (v := none) rfl fk_6_213 rfl (by decide) fn_D_jumpTo (Nat.le_of_ble_eq_true rfl) (K) ?_
                                                            refine fm_gr O 1 (C' := (593, [(6, .inl (I 44 0 (((I 24 0 29) - 1).toNatClampNeg))), (5, .inl ((I 24 0 29) - 1)), (0, .inr (.inr (.inr (.inr (24, 0))))), (1, .inl f), (2, .inl o), (3, .inl aa), (4, .inl ati)], [], (r24.1, r24.2.1, r24.2.2, fm_P pa pb))) rfl ?_
                                                            exact fm_gRe O rfl trivial (by first | (rw [he]; done) | (rw [he]; rfl) | rfl) (by first | (rw [he]; done) | (rw [he]; rfl) | rfl)
                                                        · have he := he.trans (if_neg h28)
                                                          have hp := hp.2 h28
                                                          by_cases h29 : o = 28
                                                          · have he := he.trans (if_pos h29)
                                                            have hp := hp.1 h29
                                                            refine fm_gs O 28 rfl (show o.toInt = 28 from by rw [h29]; decide) ?_
                                                            refine fm_gr O 2 (C' := (565, [(6, .inl (I 44 0 (((I 24 0 29) - 1).toNatClampNeg))), (5, .inl ((I 24 0 29) - 1)), (0, .inr (.inr (.inr (.inr (24, 0))))), (1, .inl f), (2, .inl o), (3, .inl aa), (4, .inl ati)], [.inl f, .inr (.inr (.inr (.inr (24, 0))))], (I, J, G, fm_P pa pb))) rfl ?_
                                                            have K := fmD_leave_c (d := d) hl (by omega) I J G pa pb f hp
                                                            generalize er25 : fmD_leave_f I J G f = r25 at he
                                                            have he := he.trans (fm_letE _ _)
                                                            rw [er25] at K
                                                            refine fm_cV0 O fmD_leave_o (i := 0) (as := [.inl f]) (rest := []) (v := none) rfl fk_6_216 rfl (by decide) fn_D_leave (Nat.le_of_ble_eq_true rfl) (K) ?_
                                                            refine fm_gr O 1 (C' := (593, [(6, .inl (I 44 0 (((I 24 0 29) - 1).toNatClampNeg))), (5, .inl ((I 24 0 29) - 1)), (0, .inr (.inr (.inr (.inr (24, 0))))), (1, .inl f), (2, .inl o), (3, .inl aa), (4, .inl ati)], [], (r25.1, r25.2.1, r25.2.2, fm_P pa pb))) rfl ?_
                                                            exact fm_gRe O rfl trivial (by first | (rw [he]; done) | (rw [he]; rfl) | rfl) (by first | (rw [he]; done) | (rw [he]; rfl) | rfl)
                                                          · have he := he.trans (if_neg h29)
                                                            have hp := hp.2 h29
                                                            by_cases h30 : o = 29
                                                            · have he := he.trans (if_pos h30)
                                                              have hp := hp.1 h30
                                                              refine fm_gs O 29 rfl (show o.toInt = 29 from by rw [h30]; decide) ?_
                                                              refine fm_gr O 2 (C' := (573, [(6, .inl (I 44 0 (((I 24 0 29) - 1).toNatClampNeg))), (5, .inl ((I 24 0 29) - 1)), (0, .inr (.inr (.inr (.inr (24, 0))))), (1, .inl f), (2, .inl o), (3, .inl aa), (4, .inl ati)], [.inl aa, .inr (.inr (.inr (.inr (24, 0))))], (I, J, G, fm_P pa pb))) rfl ?_
                                                              have K := fmD_enter_c (d := d) hl (by omega) I J G pa pb aa hp
                                                              generalize er26 : fmD_enter_f I J G pa pb aa = r26 at he
                                                              have he := he.trans (fm_letE _ _)
                                                              rw [er26] at K
                                                              refine fm_cV0 O fmD_enter_o (i := 0) (as := [.inl aa]) (rest := []) (v := none) rfl fk_6_219 rfl (by decide) fn_D_enter (Nat.le_of_ble_eq_true rfl) (K) ?_
                                                              refine fm_gr O 1 (C' := (593, [(6, .inl (I 44 0 (((I 24 0 29) - 1).toNatClampNeg))), (5, .inl ((I 24 0 29) - 1)), (0, .inr (.inr (.inr (.inr (24, 0))))), (1, .inl f), (2, .inl o), (3, .inl aa), (4, .inl ati)], [], (r26.1, r26.2.1, r26.2.2, fm_P pa pb))) rfl ?_
                                                              exact fm_gRe O rfl trivial (by first | (rw [he]; done) | (rw [he]; rfl) | rfl) (by first | (rw [he]; done) | (rw [he]; rfl) | rfl)
                                                            · have he := he.trans (if_neg h30)
                                                              have hp := hp.2 h30
                                                              by_cases h31 : o = 30
                                                              · have he := he.trans (if_pos h31)
                                                                refine fm_gs O 30 rfl (show o.toInt = 30 from by rw [h31]; decide) ?_
                                                                refine fm_gr O 4 (C' := (593, [(6, .inl (I 44 0 (((I 24 0 29) - 1).toNatClampNeg))), (5, .inl ((I 24 0 29) - 1)), (0, .inr (.inr (.inr (.inr (24, 0))))), (1, .inl f), (2, .inl o), (3, .inl aa), (4, .inl ati)], [], (fm_u I 24 0 18 4, J, G, fm_P pa pb))) rfl ?_
                                                                exact fm_gRe O rfl trivial (by first | (rw [he]; done) | (rw [he]; rfl) | rfl) (by first | (rw [he]; done) | (rw [he]; rfl) | rfl)
                                                              · have he := he.trans (if_neg h31)
                                                                have hp := hp.2 h31
                                                                refine fm_gt O rfl (by
                                                                    show o.toInt < 0 ∨ 30 < o.toInt
                                                                    have := lv_neT h1 (show (0 : Int32).toInt = 0 from by decide)
                                                                    have := lv_neT h2 (show (1 : Int32).toInt = 1 from by decide)
                                                                    have := lv_neT h3 (show (2 : Int32).toInt = 2 from by decide)
                                                                    have := lv_neT h4 (show (3 : Int32).toInt = 3 from by decide)
                                                                    have := lv_neT h5 (show (4 : Int32).toInt = 4 from by decide)
                                                                    have := lv_neT h6 (show (5 : Int32).toInt = 5 from by decide)
                                                                    have := lv_neT h7 (show (6 : Int32).toInt = 6 from by decide)
                                                                    have := lv_neT h8 (show (7 : Int32).toInt = 7 from by decide)
                                                                    have := lv_neT h9 (show (8 : Int32).toInt = 8 from by decide)
                                                                    have := lv_neT h10 (show (9 : Int32).toInt = 9 from by decide)
                                                                    have := lv_neT h11 (show (10 : Int32).toInt = 10 from by decide)
                                                                    have := lv_neT h12 (show (11 : Int32).toInt = 11 from by decide)
                                                                    have := lv_neT h13 (show (12 : Int32).toInt = 12 from by decide)
                                                                    have := lv_neT h14 (show (13 : Int32).toInt = 13 from by decide)
                                                                    have := lv_neT h15 (show (14 : Int32).toInt = 14 from by decide)
                                                                    have := lv_neT h16 (show (15 : Int32).toInt = 15 from by decide)
                                                                    have := lv_neT h17 (show (16 : Int32).toInt = 16 from by decide)
                                                                    have := lv_neT h18 (show (17 : Int32).toInt = 17 from by decide)
                                                                    have := lv_neT h19 (show (18 : Int32).toInt = 18 from by decide)
                                                                    have := lv_neT h20 (show (19 : Int32).toInt = 19 from by decide)
                                                                    have := lv_neT h21 (show (20 : Int32).toInt = 20 from by decide)
                                                                    have := lv_neT h22 (show (21 : Int32).toInt = 21 from by decide)
                                                                    have := lv_neT h23 (show (22 : Int32).toInt = 22 from by decide)
                                                                    have := lv_neT h24 (show (23 : Int32).toInt = 23 from by decide)
                                                                    have := lv_neT h25 (show (24 : Int32).toInt = 24 from by decide)
                                                                    have := lv_neT h26 (show (25 : Int32).toInt = 25 from by decide)
                                                                    have := lv_neT h27 (show (26 : Int32).toInt = 26 from by decide)
                                                                    have := lv_neT h28 (show (27 : Int32).toInt = 27 from by decide)
                                                                    have := lv_neT h29 (show (28 : Int32).toInt = 28 from by decide)
                                                                    have := lv_neT h30 (show (29 : Int32).toInt = 29 from by decide)
                                                                    have := lv_neT h31 (show (30 : Int32).toInt = 30 from by decide)
                                                                    omega) ?_
                                                                refine fm_gr O 3 (C' := (590, [(6, .inl (I 44 0 (((I 24 0 29) - 1).toNatClampNeg))), (5, .inl ((I 24 0 29) - 1)), (0, .inr (.inr (.inr (.inr (24, 0))))), (1, .inl f), (2, .inl o), (3, .inl aa), (4, .inl ati)], [.inl aa, .inl o, .inr (.inr (.inr (.inr (24, 0))))], (I, J, G, fm_P pa pb))) rfl ?_
                                                                have K := fmD_arithmetic_c (d := d) hl (by omega) I J G pa pb o aa hp
                                                                generalize er27 : fmD_arithmetic_f I J G o aa = r27 at he
                                                                have he := he.trans (fm_letE _ _)
                                                                rw [er27] at K
                                                                refine fm_cV0 O fmD_arithmetic_o (i := 0) (as := [.inl o, .inl aa]) (rest := []) (v := none) rfl fk_6_222 rfl (by decide) fn_D_arithmetic (Nat.le_of_ble_eq_true rfl) (K) ?_
                                                                exact fm_gRe O rfl trivial (by first | (rw [he]; done) | (rw [he]; rfl) | rfl) (by first | (rw [he]; done) | (rw [he]; rfl) | rfl)
def fmD_go_L0_f : Nat → fm_MI → fm_MJ → fm_MG → (Nat × Nat) → (Nat × Nat) → Int32 → fm_MI × fm_MJ × fm_MG
  | 0, I, J, G, pa, pb, y1 => (I, J, G)
  | n + 1, I, J, G, pa, pb, y1 => if (I 24 0 29) ≤ 0 then ((I, J, G)) else (if (I 24 0 18) = 0 then (if (I 43 0 (((I 24 0 29) - 1).toNatClampNeg)) < (I 27 0 ((I 42 0 (((I 24 0 29) - 1).toNatClampNeg)).toNatClampNeg)) then (if (I 25 0 ((((I 42 0 (((I 24 0 29) - 1).toNatClampNeg)) * 40) + (I 43 0 (((I 24 0 29) - 1).toNatClampNeg))).toNatClampNeg)) = 21 then (fm_let (fmD_perform_f (fm_u I 43 0 (((I 24 0 29) - 1).toNatClampNeg) ((I 43 0 (((I 24 0 29) - 1).toNatClampNeg)) + 1)) J G pa pb (I 42 0 (((I 24 0 29) - 1).toNatClampNeg)) (I 25 0 ((((I 42 0 (((I 24 0 29) - 1).toNatClampNeg)) * 40) + (I 43 0 (((I 24 0 29) - 1).toNatClampNeg))).toNatClampNeg)) (I 26 0 ((((I 42 0 (((I 24 0 29) - 1).toNatClampNeg)) * 40) + (I 43 0 (((I 24 0 29) - 1).toNatClampNeg))).toNatClampNeg)) (I 43 0 (((I 24 0 29) - 1).toNatClampNeg))) (fun (r1 : fm_MI × fm_MJ × fm_MG) => fmD_go_L0_f n r1.1 r1.2.1 r1.2.2 pa pb y1)) else (if (I 25 0 ((((I 42 0 (((I 24 0 29) - 1).toNatClampNeg)) * 40) + (I 43 0 (((I 24 0 29) - 1).toNatClampNeg))).toNatClampNeg)) = 22 then (fm_let (fmD_perform_f (fm_u I 43 0 (((I 24 0 29) - 1).toNatClampNeg) ((I 43 0 (((I 24 0 29) - 1).toNatClampNeg)) + 1)) J G pa pb (I 42 0 (((I 24 0 29) - 1).toNatClampNeg)) (I 25 0 ((((I 42 0 (((I 24 0 29) - 1).toNatClampNeg)) * 40) + (I 43 0 (((I 24 0 29) - 1).toNatClampNeg))).toNatClampNeg)) (I 26 0 ((((I 42 0 (((I 24 0 29) - 1).toNatClampNeg)) * 40) + (I 43 0 (((I 24 0 29) - 1).toNatClampNeg))).toNatClampNeg)) (I 43 0 (((I 24 0 29) - 1).toNatClampNeg))) (fun (r2 : fm_MI × fm_MJ × fm_MG) => fmD_go_L0_f n r2.1 r2.2.1 r2.2.2 pa pb y1)) else (if (I 25 0 ((((I 42 0 (((I 24 0 29) - 1).toNatClampNeg)) * 40) + (I 43 0 (((I 24 0 29) - 1).toNatClampNeg))).toNatClampNeg)) = 25 then (fm_let (fmD_perform_f (fm_u I 43 0 (((I 24 0 29) - 1).toNatClampNeg) ((I 43 0 (((I 24 0 29) - 1).toNatClampNeg)) + 1)) J G pa pb (I 42 0 (((I 24 0 29) - 1).toNatClampNeg)) (I 25 0 ((((I 42 0 (((I 24 0 29) - 1).toNatClampNeg)) * 40) + (I 43 0 (((I 24 0 29) - 1).toNatClampNeg))).toNatClampNeg)) (I 26 0 ((((I 42 0 (((I 24 0 29) - 1).toNatClampNeg)) * 40) + (I 43 0 (((I 24 0 29) - 1).toNatClampNeg))).toNatClampNeg)) (I 43 0 (((I 24 0 29) - 1).toNatClampNeg))) (fun (r3 : fm_MI × fm_MJ × fm_MG) => fmD_go_L0_f n r3.1 r3.2.1 r3.2.2 pa pb y1)) else (if (I 24 0 31) = y1 then ((fm_u I 24 0 18 2, J, G)) else (fm_let (fmD_perform_f (fm_u (fm_u I 24 0 31 ((I 24 0 31) + 1)) 43 0 (((I 24 0 29) - 1).toNatClampNeg) ((I 43 0 (((I 24 0 29) - 1).toNatClampNeg)) + 1)) J G pa pb (I 42 0 (((I 24 0 29) - 1).toNatClampNeg)) (I 25 0 ((((I 42 0 (((I 24 0 29) - 1).toNatClampNeg)) * 40) + (I 43 0 (((I 24 0 29) - 1).toNatClampNeg))).toNatClampNeg)) (I 26 0 ((((I 42 0 (((I 24 0 29) - 1).toNatClampNeg)) * 40) + (I 43 0 (((I 24 0 29) - 1).toNatClampNeg))).toNatClampNeg)) (I 43 0 (((I 24 0 29) - 1).toNatClampNeg))) (fun (r4 : fm_MI × fm_MJ × fm_MG) => fmD_go_L0_f n r4.1 r4.2.1 r4.2.2 pa pb y1)))))) else (fm_let (fmD_leave_f I J G (I 42 0 (((I 24 0 29) - 1).toNatClampNeg))) (fun (r5 : fm_MI × fm_MJ × fm_MG) => fmD_go_L0_f n r5.1 r5.2.1 r5.2.2 pa pb y1))) else ((I, J, G)))
theorem fmD_go_L0_e (n : Nat) (I : fm_MI) (J : fm_MJ) (G : fm_MG) (pa : Nat × Nat) (pb : Nat × Nat) (y1 : Int32) : fmD_go_L0_f (n + 1) I J G pa pb y1 = if (I 24 0 29) ≤ 0 then ((I, J, G)) else (if (I 24 0 18) = 0 then (if (I 43 0 (((I 24 0 29) - 1).toNatClampNeg)) < (I 27 0 ((I 42 0 (((I 24 0 29) - 1).toNatClampNeg)).toNatClampNeg)) then (if (I 25 0 ((((I 42 0 (((I 24 0 29) - 1).toNatClampNeg)) * 40) + (I 43 0 (((I 24 0 29) - 1).toNatClampNeg))).toNatClampNeg)) = 21 then (fm_let (fmD_perform_f (fm_u I 43 0 (((I 24 0 29) - 1).toNatClampNeg) ((I 43 0 (((I 24 0 29) - 1).toNatClampNeg)) + 1)) J G pa pb (I 42 0 (((I 24 0 29) - 1).toNatClampNeg)) (I 25 0 ((((I 42 0 (((I 24 0 29) - 1).toNatClampNeg)) * 40) + (I 43 0 (((I 24 0 29) - 1).toNatClampNeg))).toNatClampNeg)) (I 26 0 ((((I 42 0 (((I 24 0 29) - 1).toNatClampNeg)) * 40) + (I 43 0 (((I 24 0 29) - 1).toNatClampNeg))).toNatClampNeg)) (I 43 0 (((I 24 0 29) - 1).toNatClampNeg))) (fun (r1 : fm_MI × fm_MJ × fm_MG) => fmD_go_L0_f n r1.1 r1.2.1 r1.2.2 pa pb y1)) else (if (I 25 0 ((((I 42 0 (((I 24 0 29) - 1).toNatClampNeg)) * 40) + (I 43 0 (((I 24 0 29) - 1).toNatClampNeg))).toNatClampNeg)) = 22 then (fm_let (fmD_perform_f (fm_u I 43 0 (((I 24 0 29) - 1).toNatClampNeg) ((I 43 0 (((I 24 0 29) - 1).toNatClampNeg)) + 1)) J G pa pb (I 42 0 (((I 24 0 29) - 1).toNatClampNeg)) (I 25 0 ((((I 42 0 (((I 24 0 29) - 1).toNatClampNeg)) * 40) + (I 43 0 (((I 24 0 29) - 1).toNatClampNeg))).toNatClampNeg)) (I 26 0 ((((I 42 0 (((I 24 0 29) - 1).toNatClampNeg)) * 40) + (I 43 0 (((I 24 0 29) - 1).toNatClampNeg))).toNatClampNeg)) (I 43 0 (((I 24 0 29) - 1).toNatClampNeg))) (fun (r2 : fm_MI × fm_MJ × fm_MG) => fmD_go_L0_f n r2.1 r2.2.1 r2.2.2 pa pb y1)) else (if (I 25 0 ((((I 42 0 (((I 24 0 29) - 1).toNatClampNeg)) * 40) + (I 43 0 (((I 24 0 29) - 1).toNatClampNeg))).toNatClampNeg)) = 25 then (fm_let (fmD_perform_f (fm_u I 43 0 (((I 24 0 29) - 1).toNatClampNeg) ((I 43 0 (((I 24 0 29) - 1).toNatClampNeg)) + 1)) J G pa pb (I 42 0 (((I 24 0 29) - 1).toNatClampNeg)) (I 25 0 ((((I 42 0 (((I 24 0 29) - 1).toNatClampNeg)) * 40) + (I 43 0 (((I 24 0 29) - 1).toNatClampNeg))).toNatClampNeg)) (I 26 0 ((((I 42 0 (((I 24 0 29) - 1).toNatClampNeg)) * 40) + (I 43 0 (((I 24 0 29) - 1).toNatClampNeg))).toNatClampNeg)) (I 43 0 (((I 24 0 29) - 1).toNatClampNeg))) (fun (r3 : fm_MI × fm_MJ × fm_MG) => fmD_go_L0_f n r3.1 r3.2.1 r3.2.2 pa pb y1)) else (if (I 24 0 31) = y1 then ((fm_u I 24 0 18 2, J, G)) else (fm_let (fmD_perform_f (fm_u (fm_u I 24 0 31 ((I 24 0 31) + 1)) 43 0 (((I 24 0 29) - 1).toNatClampNeg) ((I 43 0 (((I 24 0 29) - 1).toNatClampNeg)) + 1)) J G pa pb (I 42 0 (((I 24 0 29) - 1).toNatClampNeg)) (I 25 0 ((((I 42 0 (((I 24 0 29) - 1).toNatClampNeg)) * 40) + (I 43 0 (((I 24 0 29) - 1).toNatClampNeg))).toNatClampNeg)) (I 26 0 ((((I 42 0 (((I 24 0 29) - 1).toNatClampNeg)) * 40) + (I 43 0 (((I 24 0 29) - 1).toNatClampNeg))).toNatClampNeg)) (I 43 0 (((I 24 0 29) - 1).toNatClampNeg))) (fun (r4 : fm_MI × fm_MJ × fm_MG) => fmD_go_L0_f n r4.1 r4.2.1 r4.2.2 pa pb y1)))))) else (fm_let (fmD_leave_f I J G (I 42 0 (((I 24 0 29) - 1).toNatClampNeg))) (fun (r5 : fm_MI × fm_MJ × fm_MG) => fmD_go_L0_f n r5.1 r5.2.1 r5.2.2 pa pb y1))) else ((I, J, G))) := rfl
def fmD_go_L0_p : Nat → fm_MI → fm_MJ → fm_MG → (Nat × Nat) → (Nat × Nat) → Int32 → Prop
  | 0, I, J, G, pa, pb, y1 => False
  | n + 1, I, J, G, pa, pb, y1 => ((I 24 0 29) ≤ 0 → True) ∧ (¬ (I 24 0 29) ≤ 0 → ((I 24 0 18) = 0 → (vp_in ((I 24 0 29) - 1) 10) ∧ ((vp_in ((I 24 0 29) - 1) 10) ∧ ((vp_in (I 42 0 (((I 24 0 29) - 1).toNatClampNeg)) 4) ∧ (((I 43 0 (((I 24 0 29) - 1).toNatClampNeg)) < (I 27 0 ((I 42 0 (((I 24 0 29) - 1).toNatClampNeg)).toNatClampNeg)) → (vp_in (((I 42 0 (((I 24 0 29) - 1).toNatClampNeg)) * 40) + (I 43 0 (((I 24 0 29) - 1).toNatClampNeg))) 160) ∧ (((I 25 0 ((((I 42 0 (((I 24 0 29) - 1).toNatClampNeg)) * 40) + (I 43 0 (((I 24 0 29) - 1).toNatClampNeg))).toNatClampNeg)) = 21 → (vp_in ((I 24 0 29) - 1) 10) ∧ ((vp_in ((I 24 0 29) - 1) 10) ∧ ((vp_in (((I 42 0 (((I 24 0 29) - 1).toNatClampNeg)) * 40) + (I 43 0 (((I 24 0 29) - 1).toNatClampNeg))) 160) ∧ (fmD_perform_p (fm_u I 43 0 (((I 24 0 29) - 1).toNatClampNeg) ((I 43 0 (((I 24 0 29) - 1).toNatClampNeg)) + 1)) J G pa pb (I 42 0 (((I 24 0 29) - 1).toNatClampNeg)) (I 25 0 ((((I 42 0 (((I 24 0 29) - 1).toNatClampNeg)) * 40) + (I 43 0 (((I 24 0 29) - 1).toNatClampNeg))).toNatClampNeg)) (I 26 0 ((((I 42 0 (((I 24 0 29) - 1).toNatClampNeg)) * 40) + (I 43 0 (((I 24 0 29) - 1).toNatClampNeg))).toNatClampNeg)) (I 43 0 (((I 24 0 29) - 1).toNatClampNeg)) ∧ (fm_let (fmD_perform_f (fm_u I 43 0 (((I 24 0 29) - 1).toNatClampNeg) ((I 43 0 (((I 24 0 29) - 1).toNatClampNeg)) + 1)) J G pa pb (I 42 0 (((I 24 0 29) - 1).toNatClampNeg)) (I 25 0 ((((I 42 0 (((I 24 0 29) - 1).toNatClampNeg)) * 40) + (I 43 0 (((I 24 0 29) - 1).toNatClampNeg))).toNatClampNeg)) (I 26 0 ((((I 42 0 (((I 24 0 29) - 1).toNatClampNeg)) * 40) + (I 43 0 (((I 24 0 29) - 1).toNatClampNeg))).toNatClampNeg)) (I 43 0 (((I 24 0 29) - 1).toNatClampNeg))) (fun (r1 : fm_MI × fm_MJ × fm_MG) => fmD_go_L0_p n r1.1 r1.2.1 r1.2.2 pa pb y1)))))) ∧ (¬ (I 25 0 ((((I 42 0 (((I 24 0 29) - 1).toNatClampNeg)) * 40) + (I 43 0 (((I 24 0 29) - 1).toNatClampNeg))).toNatClampNeg)) = 21 → ((I 25 0 ((((I 42 0 (((I 24 0 29) - 1).toNatClampNeg)) * 40) + (I 43 0 (((I 24 0 29) - 1).toNatClampNeg))).toNatClampNeg)) = 22 → (vp_in ((I 24 0 29) - 1) 10) ∧ ((vp_in ((I 24 0 29) - 1) 10) ∧ ((vp_in (((I 42 0 (((I 24 0 29) - 1).toNatClampNeg)) * 40) + (I 43 0 (((I 24 0 29) - 1).toNatClampNeg))) 160) ∧ (fmD_perform_p (fm_u I 43 0 (((I 24 0 29) - 1).toNatClampNeg) ((I 43 0 (((I 24 0 29) - 1).toNatClampNeg)) + 1)) J G pa pb (I 42 0 (((I 24 0 29) - 1).toNatClampNeg)) (I 25 0 ((((I 42 0 (((I 24 0 29) - 1).toNatClampNeg)) * 40) + (I 43 0 (((I 24 0 29) - 1).toNatClampNeg))).toNatClampNeg)) (I 26 0 ((((I 42 0 (((I 24 0 29) - 1).toNatClampNeg)) * 40) + (I 43 0 (((I 24 0 29) - 1).toNatClampNeg))).toNatClampNeg)) (I 43 0 (((I 24 0 29) - 1).toNatClampNeg)) ∧ (fm_let (fmD_perform_f (fm_u I 43 0 (((I 24 0 29) - 1).toNatClampNeg) ((I 43 0 (((I 24 0 29) - 1).toNatClampNeg)) + 1)) J G pa pb (I 42 0 (((I 24 0 29) - 1).toNatClampNeg)) (I 25 0 ((((I 42 0 (((I 24 0 29) - 1).toNatClampNeg)) * 40) + (I 43 0 (((I 24 0 29) - 1).toNatClampNeg))).toNatClampNeg)) (I 26 0 ((((I 42 0 (((I 24 0 29) - 1).toNatClampNeg)) * 40) + (I 43 0 (((I 24 0 29) - 1).toNatClampNeg))).toNatClampNeg)) (I 43 0 (((I 24 0 29) - 1).toNatClampNeg))) (fun (r2 : fm_MI × fm_MJ × fm_MG) => fmD_go_L0_p n r2.1 r2.2.1 r2.2.2 pa pb y1)))))) ∧ (¬ (I 25 0 ((((I 42 0 (((I 24 0 29) - 1).toNatClampNeg)) * 40) + (I 43 0 (((I 24 0 29) - 1).toNatClampNeg))).toNatClampNeg)) = 22 → ((I 25 0 ((((I 42 0 (((I 24 0 29) - 1).toNatClampNeg)) * 40) + (I 43 0 (((I 24 0 29) - 1).toNatClampNeg))).toNatClampNeg)) = 25 → (vp_in ((I 24 0 29) - 1) 10) ∧ ((vp_in ((I 24 0 29) - 1) 10) ∧ ((vp_in (((I 42 0 (((I 24 0 29) - 1).toNatClampNeg)) * 40) + (I 43 0 (((I 24 0 29) - 1).toNatClampNeg))) 160) ∧ (fmD_perform_p (fm_u I 43 0 (((I 24 0 29) - 1).toNatClampNeg) ((I 43 0 (((I 24 0 29) - 1).toNatClampNeg)) + 1)) J G pa pb (I 42 0 (((I 24 0 29) - 1).toNatClampNeg)) (I 25 0 ((((I 42 0 (((I 24 0 29) - 1).toNatClampNeg)) * 40) + (I 43 0 (((I 24 0 29) - 1).toNatClampNeg))).toNatClampNeg)) (I 26 0 ((((I 42 0 (((I 24 0 29) - 1).toNatClampNeg)) * 40) + (I 43 0 (((I 24 0 29) - 1).toNatClampNeg))).toNatClampNeg)) (I 43 0 (((I 24 0 29) - 1).toNatClampNeg)) ∧ (fm_let (fmD_perform_f (fm_u I 43 0 (((I 24 0 29) - 1).toNatClampNeg) ((I 43 0 (((I 24 0 29) - 1).toNatClampNeg)) + 1)) J G pa pb (I 42 0 (((I 24 0 29) - 1).toNatClampNeg)) (I 25 0 ((((I 42 0 (((I 24 0 29) - 1).toNatClampNeg)) * 40) + (I 43 0 (((I 24 0 29) - 1).toNatClampNeg))).toNatClampNeg)) (I 26 0 ((((I 42 0 (((I 24 0 29) - 1).toNatClampNeg)) * 40) + (I 43 0 (((I 24 0 29) - 1).toNatClampNeg))).toNatClampNeg)) (I 43 0 (((I 24 0 29) - 1).toNatClampNeg))) (fun (r3 : fm_MI × fm_MJ × fm_MG) => fmD_go_L0_p n r3.1 r3.2.1 r3.2.2 pa pb y1)))))) ∧ (¬ (I 25 0 ((((I 42 0 (((I 24 0 29) - 1).toNatClampNeg)) * 40) + (I 43 0 (((I 24 0 29) - 1).toNatClampNeg))).toNatClampNeg)) = 25 → ((I 24 0 31) = y1 → True) ∧ (¬ (I 24 0 31) = y1 → (vp_in ((I 24 0 29) - 1) 10) ∧ ((vp_in ((I 24 0 29) - 1) 10) ∧ ((vp_in (((I 42 0 (((I 24 0 29) - 1).toNatClampNeg)) * 40) + (I 43 0 (((I 24 0 29) - 1).toNatClampNeg))) 160) ∧ (fmD_perform_p (fm_u (fm_u I 24 0 31 ((I 24 0 31) + 1)) 43 0 (((I 24 0 29) - 1).toNatClampNeg) ((I 43 0 (((I 24 0 29) - 1).toNatClampNeg)) + 1)) J G pa pb (I 42 0 (((I 24 0 29) - 1).toNatClampNeg)) (I 25 0 ((((I 42 0 (((I 24 0 29) - 1).toNatClampNeg)) * 40) + (I 43 0 (((I 24 0 29) - 1).toNatClampNeg))).toNatClampNeg)) (I 26 0 ((((I 42 0 (((I 24 0 29) - 1).toNatClampNeg)) * 40) + (I 43 0 (((I 24 0 29) - 1).toNatClampNeg))).toNatClampNeg)) (I 43 0 (((I 24 0 29) - 1).toNatClampNeg)) ∧ (fm_let (fmD_perform_f (fm_u (fm_u I 24 0 31 ((I 24 0 31) + 1)) 43 0 (((I 24 0 29) - 1).toNatClampNeg) ((I 43 0 (((I 24 0 29) - 1).toNatClampNeg)) + 1)) J G pa pb (I 42 0 (((I 24 0 29) - 1).toNatClampNeg)) (I 25 0 ((((I 42 0 (((I 24 0 29) - 1).toNatClampNeg)) * 40) + (I 43 0 (((I 24 0 29) - 1).toNatClampNeg))).toNatClampNeg)) (I 26 0 ((((I 42 0 (((I 24 0 29) - 1).toNatClampNeg)) * 40) + (I 43 0 (((I 24 0 29) - 1).toNatClampNeg))).toNatClampNeg)) (I 43 0 (((I 24 0 29) - 1).toNatClampNeg))) (fun (r4 : fm_MI × fm_MJ × fm_MG) => fmD_go_L0_p n r4.1 r4.2.1 r4.2.2 pa pb y1))))))))))) ∧ (¬ (I 43 0 (((I 24 0 29) - 1).toNatClampNeg)) < (I 27 0 ((I 42 0 (((I 24 0 29) - 1).toNatClampNeg)).toNatClampNeg)) → fmD_leave_p I J G (I 42 0 (((I 24 0 29) - 1).toNatClampNeg)) ∧ (fm_let (fmD_leave_f I J G (I 42 0 (((I 24 0 29) - 1).toNatClampNeg))) (fun (r5 : fm_MI × fm_MJ × fm_MG) => fmD_go_L0_p n r5.1 r5.2.1 r5.2.2 pa pb y1))))))) ∧ (¬ (I 24 0 18) = 0 → True))
theorem fmD_go_L0_q (n : Nat) (I : fm_MI) (J : fm_MJ) (G : fm_MG) (pa : Nat × Nat) (pb : Nat × Nat) (y1 : Int32) : fmD_go_L0_p (n + 1) I J G pa pb y1 = (((I 24 0 29) ≤ 0 → True) ∧ (¬ (I 24 0 29) ≤ 0 → ((I 24 0 18) = 0 → (vp_in ((I 24 0 29) - 1) 10) ∧ ((vp_in ((I 24 0 29) - 1) 10) ∧ ((vp_in (I 42 0 (((I 24 0 29) - 1).toNatClampNeg)) 4) ∧ (((I 43 0 (((I 24 0 29) - 1).toNatClampNeg)) < (I 27 0 ((I 42 0 (((I 24 0 29) - 1).toNatClampNeg)).toNatClampNeg)) → (vp_in (((I 42 0 (((I 24 0 29) - 1).toNatClampNeg)) * 40) + (I 43 0 (((I 24 0 29) - 1).toNatClampNeg))) 160) ∧ (((I 25 0 ((((I 42 0 (((I 24 0 29) - 1).toNatClampNeg)) * 40) + (I 43 0 (((I 24 0 29) - 1).toNatClampNeg))).toNatClampNeg)) = 21 → (vp_in ((I 24 0 29) - 1) 10) ∧ ((vp_in ((I 24 0 29) - 1) 10) ∧ ((vp_in (((I 42 0 (((I 24 0 29) - 1).toNatClampNeg)) * 40) + (I 43 0 (((I 24 0 29) - 1).toNatClampNeg))) 160) ∧ (fmD_perform_p (fm_u I 43 0 (((I 24 0 29) - 1).toNatClampNeg) ((I 43 0 (((I 24 0 29) - 1).toNatClampNeg)) + 1)) J G pa pb (I 42 0 (((I 24 0 29) - 1).toNatClampNeg)) (I 25 0 ((((I 42 0 (((I 24 0 29) - 1).toNatClampNeg)) * 40) + (I 43 0 (((I 24 0 29) - 1).toNatClampNeg))).toNatClampNeg)) (I 26 0 ((((I 42 0 (((I 24 0 29) - 1).toNatClampNeg)) * 40) + (I 43 0 (((I 24 0 29) - 1).toNatClampNeg))).toNatClampNeg)) (I 43 0 (((I 24 0 29) - 1).toNatClampNeg)) ∧ (fm_let (fmD_perform_f (fm_u I 43 0 (((I 24 0 29) - 1).toNatClampNeg) ((I 43 0 (((I 24 0 29) - 1).toNatClampNeg)) + 1)) J G pa pb (I 42 0 (((I 24 0 29) - 1).toNatClampNeg)) (I 25 0 ((((I 42 0 (((I 24 0 29) - 1).toNatClampNeg)) * 40) + (I 43 0 (((I 24 0 29) - 1).toNatClampNeg))).toNatClampNeg)) (I 26 0 ((((I 42 0 (((I 24 0 29) - 1).toNatClampNeg)) * 40) + (I 43 0 (((I 24 0 29) - 1).toNatClampNeg))).toNatClampNeg)) (I 43 0 (((I 24 0 29) - 1).toNatClampNeg))) (fun (r1 : fm_MI × fm_MJ × fm_MG) => fmD_go_L0_p n r1.1 r1.2.1 r1.2.2 pa pb y1)))))) ∧ (¬ (I 25 0 ((((I 42 0 (((I 24 0 29) - 1).toNatClampNeg)) * 40) + (I 43 0 (((I 24 0 29) - 1).toNatClampNeg))).toNatClampNeg)) = 21 → ((I 25 0 ((((I 42 0 (((I 24 0 29) - 1).toNatClampNeg)) * 40) + (I 43 0 (((I 24 0 29) - 1).toNatClampNeg))).toNatClampNeg)) = 22 → (vp_in ((I 24 0 29) - 1) 10) ∧ ((vp_in ((I 24 0 29) - 1) 10) ∧ ((vp_in (((I 42 0 (((I 24 0 29) - 1).toNatClampNeg)) * 40) + (I 43 0 (((I 24 0 29) - 1).toNatClampNeg))) 160) ∧ (fmD_perform_p (fm_u I 43 0 (((I 24 0 29) - 1).toNatClampNeg) ((I 43 0 (((I 24 0 29) - 1).toNatClampNeg)) + 1)) J G pa pb (I 42 0 (((I 24 0 29) - 1).toNatClampNeg)) (I 25 0 ((((I 42 0 (((I 24 0 29) - 1).toNatClampNeg)) * 40) + (I 43 0 (((I 24 0 29) - 1).toNatClampNeg))).toNatClampNeg)) (I 26 0 ((((I 42 0 (((I 24 0 29) - 1).toNatClampNeg)) * 40) + (I 43 0 (((I 24 0 29) - 1).toNatClampNeg))).toNatClampNeg)) (I 43 0 (((I 24 0 29) - 1).toNatClampNeg)) ∧ (fm_let (fmD_perform_f (fm_u I 43 0 (((I 24 0 29) - 1).toNatClampNeg) ((I 43 0 (((I 24 0 29) - 1).toNatClampNeg)) + 1)) J G pa pb (I 42 0 (((I 24 0 29) - 1).toNatClampNeg)) (I 25 0 ((((I 42 0 (((I 24 0 29) - 1).toNatClampNeg)) * 40) + (I 43 0 (((I 24 0 29) - 1).toNatClampNeg))).toNatClampNeg)) (I 26 0 ((((I 42 0 (((I 24 0 29) - 1).toNatClampNeg)) * 40) + (I 43 0 (((I 24 0 29) - 1).toNatClampNeg))).toNatClampNeg)) (I 43 0 (((I 24 0 29) - 1).toNatClampNeg))) (fun (r2 : fm_MI × fm_MJ × fm_MG) => fmD_go_L0_p n r2.1 r2.2.1 r2.2.2 pa pb y1)))))) ∧ (¬ (I 25 0 ((((I 42 0 (((I 24 0 29) - 1).toNatClampNeg)) * 40) + (I 43 0 (((I 24 0 29) - 1).toNatClampNeg))).toNatClampNeg)) = 22 → ((I 25 0 ((((I 42 0 (((I 24 0 29) - 1).toNatClampNeg)) * 40) + (I 43 0 (((I 24 0 29) - 1).toNatClampNeg))).toNatClampNeg)) = 25 → (vp_in ((I 24 0 29) - 1) 10) ∧ ((vp_in ((I 24 0 29) - 1) 10) ∧ ((vp_in (((I 42 0 (((I 24 0 29) - 1).toNatClampNeg)) * 40) + (I 43 0 (((I 24 0 29) - 1).toNatClampNeg))) 160) ∧ (fmD_perform_p (fm_u I 43 0 (((I 24 0 29) - 1).toNatClampNeg) ((I 43 0 (((I 24 0 29) - 1).toNatClampNeg)) + 1)) J G pa pb (I 42 0 (((I 24 0 29) - 1).toNatClampNeg)) (I 25 0 ((((I 42 0 (((I 24 0 29) - 1).toNatClampNeg)) * 40) + (I 43 0 (((I 24 0 29) - 1).toNatClampNeg))).toNatClampNeg)) (I 26 0 ((((I 42 0 (((I 24 0 29) - 1).toNatClampNeg)) * 40) + (I 43 0 (((I 24 0 29) - 1).toNatClampNeg))).toNatClampNeg)) (I 43 0 (((I 24 0 29) - 1).toNatClampNeg)) ∧ (fm_let (fmD_perform_f (fm_u I 43 0 (((I 24 0 29) - 1).toNatClampNeg) ((I 43 0 (((I 24 0 29) - 1).toNatClampNeg)) + 1)) J G pa pb (I 42 0 (((I 24 0 29) - 1).toNatClampNeg)) (I 25 0 ((((I 42 0 (((I 24 0 29) - 1).toNatClampNeg)) * 40) + (I 43 0 (((I 24 0 29) - 1).toNatClampNeg))).toNatClampNeg)) (I 26 0 ((((I 42 0 (((I 24 0 29) - 1).toNatClampNeg)) * 40) + (I 43 0 (((I 24 0 29) - 1).toNatClampNeg))).toNatClampNeg)) (I 43 0 (((I 24 0 29) - 1).toNatClampNeg))) (fun (r3 : fm_MI × fm_MJ × fm_MG) => fmD_go_L0_p n r3.1 r3.2.1 r3.2.2 pa pb y1)))))) ∧ (¬ (I 25 0 ((((I 42 0 (((I 24 0 29) - 1).toNatClampNeg)) * 40) + (I 43 0 (((I 24 0 29) - 1).toNatClampNeg))).toNatClampNeg)) = 25 → ((I 24 0 31) = y1 → True) ∧ (¬ (I 24 0 31) = y1 → (vp_in ((I 24 0 29) - 1) 10) ∧ ((vp_in ((I 24 0 29) - 1) 10) ∧ ((vp_in (((I 42 0 (((I 24 0 29) - 1).toNatClampNeg)) * 40) + (I 43 0 (((I 24 0 29) - 1).toNatClampNeg))) 160) ∧ (fmD_perform_p (fm_u (fm_u I 24 0 31 ((I 24 0 31) + 1)) 43 0 (((I 24 0 29) - 1).toNatClampNeg) ((I 43 0 (((I 24 0 29) - 1).toNatClampNeg)) + 1)) J G pa pb (I 42 0 (((I 24 0 29) - 1).toNatClampNeg)) (I 25 0 ((((I 42 0 (((I 24 0 29) - 1).toNatClampNeg)) * 40) + (I 43 0 (((I 24 0 29) - 1).toNatClampNeg))).toNatClampNeg)) (I 26 0 ((((I 42 0 (((I 24 0 29) - 1).toNatClampNeg)) * 40) + (I 43 0 (((I 24 0 29) - 1).toNatClampNeg))).toNatClampNeg)) (I 43 0 (((I 24 0 29) - 1).toNatClampNeg)) ∧ (fm_let (fmD_perform_f (fm_u (fm_u I 24 0 31 ((I 24 0 31) + 1)) 43 0 (((I 24 0 29) - 1).toNatClampNeg) ((I 43 0 (((I 24 0 29) - 1).toNatClampNeg)) + 1)) J G pa pb (I 42 0 (((I 24 0 29) - 1).toNatClampNeg)) (I 25 0 ((((I 42 0 (((I 24 0 29) - 1).toNatClampNeg)) * 40) + (I 43 0 (((I 24 0 29) - 1).toNatClampNeg))).toNatClampNeg)) (I 26 0 ((((I 42 0 (((I 24 0 29) - 1).toNatClampNeg)) * 40) + (I 43 0 (((I 24 0 29) - 1).toNatClampNeg))).toNatClampNeg)) (I 43 0 (((I 24 0 29) - 1).toNatClampNeg))) (fun (r4 : fm_MI × fm_MJ × fm_MG) => fmD_go_L0_p n r4.1 r4.2.1 r4.2.2 pa pb y1))))))))))) ∧ (¬ (I 43 0 (((I 24 0 29) - 1).toNatClampNeg)) < (I 27 0 ((I 42 0 (((I 24 0 29) - 1).toNatClampNeg)).toNatClampNeg)) → fmD_leave_p I J G (I 42 0 (((I 24 0 29) - 1).toNatClampNeg)) ∧ (fm_let (fmD_leave_f I J G (I 42 0 (((I 24 0 29) - 1).toNatClampNeg))) (fun (r5 : fm_MI × fm_MJ × fm_MG) => fmD_go_L0_p n r5.1 r5.2.1 r5.2.2 pa pb y1))))))) ∧ (¬ (I 24 0 18) = 0 → True))) := rfl
set_option maxRecDepth 100000 in
set_option maxHeartbeats 4000000 in
theorem fmD_go_L0_c {E : fm_Ev} (hl : E.1.stackTraces = false) {d : Nat} (hd : 4 ≤ d + 1) (n : Nat) : ∀ (I : fm_MI) (J : fm_MJ) (G : fm_MG) (pa : Nat × Nat) (pb : Nat × Nat) (y1 : Int32), fmD_go_L0_p n I J G pa pb y1 → fm_Go E (d + 1) fmD_go 0 (0, [(0, .inr (.inr (.inr (.inr (24, 0))))), (1, .inl y1)], [], (I, J, G, fm_P pa pb)) (fm_Zr E none ((fmD_go_L0_f n I J G pa pb y1).1, (fmD_go_L0_f n I J G pa pb y1).2.1, (fmD_go_L0_f n I J G pa pb y1).2.2, fm_P pa pb)) := by
  have O := fmD_go_o.1
  induction n with
  | zero => intro I J G pa pb y1 hp; exact hp.elim
  | succ n ih =>
    intro I J G pa pb y1 hp
    rw [fmD_go_L0_q] at hp
    have he := fmD_go_L0_e n I J G pa pb y1
    refine fm_gr O 2 (C' := (4, [(0, .inr (.inr (.inr (.inr (24, 0))))), (1, .inl y1)], [.inl (I 24 0 29)], (I, J, G, fm_P pa pb))) rfl ?_
    refine fm_gb O rfl (fun h => ?_) (fun h => ?_)
    · have h1 : (I 24 0 29) ≤ 0 := h
      have he := he.trans (if_pos h1)
      exact fm_gRe O rfl trivial (by first | (rw [he]; done) | (rw [he]; rfl) | rfl) (by first | (rw [he]; done) | (rw [he]; rfl) | rfl)
    · have h1 : ¬ (I 24 0 29) ≤ 0 := h
      have he := he.trans (if_neg h1)
      have hp := hp.2 h1
      refine fm_gr O 2 (C' := (11, [(0, .inr (.inr (.inr (.inr (24, 0))))), (1, .inl y1)], [.inl (I 24 0 18)], (I, J, G, fm_P pa pb))) rfl ?_
      refine fm_gb O rfl (fun h => ?_) (fun h => ?_)
      · have h2 : (I 24 0 18) = 0 := h
        have he := he.trans (if_pos h2)
        have hp := hp.1 h2
        refine fm_gr O 8 (C' := (26, [(2, .inl ((I 24 0 29) - 1)), (0, .inr (.inr (.inr (.inr (24, 0))))), (1, .inl y1)], [.inl ((I 24 0 29) - 1), .inr (.inr (.inr (.inr (42, 0))))], (I, J, G, fm_P pa pb))) rfl ?_
        refine fm_gg O rfl hp.1 ?_
        have hp := hp.2
        refine fm_gr O 4 (C' := (33, [(3, .inl (I 42 0 (((I 24 0 29) - 1).toNatClampNeg))), (2, .inl ((I 24 0 29) - 1)), (0, .inr (.inr (.inr (.inr (24, 0))))), (1, .inl y1)], [.inl ((I 24 0 29) - 1), .inr (.inr (.inr (.inr (43, 0))))], (I, J, G, fm_P pa pb))) rfl ?_
        refine fm_gg O rfl hp.1 ?_
        have hp := hp.2
        refine fm_gr O 5 (C' := (43, [(4, .inl (I 43 0 (((I 24 0 29) - 1).toNatClampNeg))), (3, .inl (I 42 0 (((I 24 0 29) - 1).toNatClampNeg))), (2, .inl ((I 24 0 29) - 1)), (0, .inr (.inr (.inr (.inr (24, 0))))), (1, .inl y1)], [.inl (I 42 0 (((I 24 0 29) - 1).toNatClampNeg)), .inr (.inr (.inr (.inr (27, 0)))), .inl (I 43 0 (((I 24 0 29) - 1).toNatClampNeg))], (I, J, G, fm_P pa pb))) rfl ?_
        refine fm_gg O rfl hp.1 ?_
        have hp := hp.2
        refine fm_gb O rfl (fun h => ?_) (fun h => ?_)
        · have h3 : (I 43 0 (((I 24 0 29) - 1).toNatClampNeg)) < (I 27 0 ((I 42 0 (((I 24 0 29) - 1).toNatClampNeg)).toNatClampNeg)) := h
          have he := he.trans (if_pos h3)
          have hp := hp.1 h3
          refine fm_gr O 7 (C' := (66, [(4, .inl (I 43 0 (((I 24 0 29) - 1).toNatClampNeg))), (3, .inl (I 42 0 (((I 24 0 29) - 1).toNatClampNeg))), (2, .inl ((I 24 0 29) - 1)), (0, .inr (.inr (.inr (.inr (24, 0))))), (1, .inl y1)], [.inl (((I 42 0 (((I 24 0 29) - 1).toNatClampNeg)) * 40) + (I 43 0 (((I 24 0 29) - 1).toNatClampNeg))), .inr (.inr (.inr (.inr (25, 0))))], (I, J, G, fm_P pa pb))) rfl ?_
          refine fm_gg O rfl hp.1 ?_
          have hp := hp.2
          refine fm_gr O 3 (C' := (73, [(5, .inl (I 25 0 ((((I 42 0 (((I 24 0 29) - 1).toNatClampNeg)) * 40) + (I 43 0 (((I 24 0 29) - 1).toNatClampNeg))).toNatClampNeg))), (4, .inl (I 43 0 (((I 24 0 29) - 1).toNatClampNeg))), (3, .inl (I 42 0 (((I 24 0 29) - 1).toNatClampNeg))), (2, .inl ((I 24 0 29) - 1)), (0, .inr (.inr (.inr (.inr (24, 0))))), (1, .inl y1)], [.inl 21, .inl (I 25 0 ((((I 42 0 (((I 24 0 29) - 1).toNatClampNeg)) * 40) + (I 43 0 (((I 24 0 29) - 1).toNatClampNeg))).toNatClampNeg))], (I, J, G, fm_P pa pb))) rfl ?_
          refine fm_gb O rfl (fun h => ?_) (fun h => ?_)
          · have h4 : (I 25 0 ((((I 42 0 (((I 24 0 29) - 1).toNatClampNeg)) * 40) + (I 43 0 (((I 24 0 29) - 1).toNatClampNeg))).toNatClampNeg)) = 21 := h
            have he := he.trans (if_pos h4)
            have hp := hp.1 h4
            refine fm_gr O 4 (C' := (99, [(6, .inl 1), (5, .inl (I 25 0 ((((I 42 0 (((I 24 0 29) - 1).toNatClampNeg)) * 40) + (I 43 0 (((I 24 0 29) - 1).toNatClampNeg))).toNatClampNeg))), (4, .inl (I 43 0 (((I 24 0 29) - 1).toNatClampNeg))), (3, .inl (I 42 0 (((I 24 0 29) - 1).toNatClampNeg))), (2, .inl ((I 24 0 29) - 1)), (0, .inr (.inr (.inr (.inr (24, 0))))), (1, .inl y1)], [.inl 1], (I, J, G, fm_P pa pb))) rfl ?_
            refine fm_gb O rfl (fun h => ?_) (fun h => ?_)
            · exact absurd h (show ¬ (1 : Int32) = 0 by decide)
            · refine fm_gr O 1 (C' := (118, [(6, .inl 1), (5, .inl (I 25 0 ((((I 42 0 (((I 24 0 29) - 1).toNatClampNeg)) * 40) + (I 43 0 (((I 24 0 29) - 1).toNatClampNeg))).toNatClampNeg))), (4, .inl (I 43 0 (((I 24 0 29) - 1).toNatClampNeg))), (3, .inl (I 42 0 (((I 24 0 29) - 1).toNatClampNeg))), (2, .inl ((I 24 0 29) - 1)), (0, .inr (.inr (.inr (.inr (24, 0))))), (1, .inl y1)], [.inl 1], (I, J, G, fm_P pa pb))) rfl ?_
              refine fm_gb O rfl (fun h => ?_) (fun h => ?_)
              · exact absurd h (show ¬ (1 : Int32) = 0 by decide)
              · refine fm_gr O 4 (C' := (137, [(6, .inl 1), (5, .inl (I 25 0 ((((I 42 0 (((I 24 0 29) - 1).toNatClampNeg)) * 40) + (I 43 0 (((I 24 0 29) - 1).toNatClampNeg))).toNatClampNeg))), (4, .inl (I 43 0 (((I 24 0 29) - 1).toNatClampNeg))), (3, .inl (I 42 0 (((I 24 0 29) - 1).toNatClampNeg))), (2, .inl ((I 24 0 29) - 1)), (0, .inr (.inr (.inr (.inr (24, 0))))), (1, .inl y1)], [.inl ((I 24 0 29) - 1), .inr (.inr (.inr (.inr (43, 0)))), .inl ((I 24 0 29) - 1), .inr (.inr (.inr (.inr (43, 0))))], (I, J, G, fm_P pa pb))) rfl ?_
                refine fm_gg O rfl hp.1 ?_
                have hp := hp.2
                refine fm_gr O 2 (C' := (140, [(6, .inl 1), (5, .inl (I 25 0 ((((I 42 0 (((I 24 0 29) - 1).toNatClampNeg)) * 40) + (I 43 0 (((I 24 0 29) - 1).toNatClampNeg))).toNatClampNeg))), (4, .inl (I 43 0 (((I 24 0 29) - 1).toNatClampNeg))), (3, .inl (I 42 0 (((I 24 0 29) - 1).toNatClampNeg))), (2, .inl ((I 24 0 29) - 1)), (0, .inr (.inr (.inr (.inr (24, 0))))), (1, .inl y1)], [.inl ((I 43 0 (((I 24 0 29) - 1).toNatClampNeg)) + 1), .inl ((I 24 0 29) - 1), .inr (.inr (.inr (.inr (43, 0))))], (I, J, G, fm_P pa pb))) rfl ?_
                refine fm_gg O rfl hp.1 ?_
                have hp := hp.2
                refine fm_gr O 10 (C' := (156, [(6, .inl 1), (5, .inl (I 25 0 ((((I 42 0 (((I 24 0 29) - 1).toNatClampNeg)) * 40) + (I 43 0 (((I 24 0 29) - 1).toNatClampNeg))).toNatClampNeg))), (4, .inl (I 43 0 (((I 24 0 29) - 1).toNatClampNeg))), (3, .inl (I 42 0 (((I 24 0 29) - 1).toNatClampNeg))), (2, .inl ((I 24 0 29) - 1)), (0, .inr (.inr (.inr (.inr (24, 0))))), (1, .inl y1)], [.inl (((I 42 0 (((I 24 0 29) - 1).toNatClampNeg)) * 40) + (I 43 0 (((I 24 0 29) - 1).toNatClampNeg))), .inr (.inr (.inr (.inr (26, 0)))), .inl (I 25 0 ((((I 42 0 (((I 24 0 29) - 1).toNatClampNeg)) * 40) + (I 43 0 (((I 24 0 29) - 1).toNatClampNeg))).toNatClampNeg)), .inl (I 42 0 (((I 24 0 29) - 1).toNatClampNeg)), .inr (.inr (.inr (.inr (24, 0))))], (fm_u I 43 0 (((I 24 0 29) - 1).toNatClampNeg) ((I 43 0 (((I 24 0 29) - 1).toNatClampNeg)) + 1), J, G, fm_P pa pb))) rfl ?_
                refine fm_gg O rfl hp.1 ?_
                have hp := hp.2
                refine fm_gr O 1 (C' := (159, [(6, .inl 1), (5, .inl (I 25 0 ((((I 42 0 (((I 24 0 29) - 1).toNatClampNeg)) * 40) + (I 43 0 (((I 24 0 29) - 1).toNatClampNeg))).toNatClampNeg))), (4, .inl (I 43 0 (((I 24 0 29) - 1).toNatClampNeg))), (3, .inl (I 42 0 (((I 24 0 29) - 1).toNatClampNeg))), (2, .inl ((I 24 0 29) - 1)), (0, .inr (.inr (.inr (.inr (24, 0))))), (1, .inl y1)], [.inl (I 43 0 (((I 24 0 29) - 1).toNatClampNeg)), .inl (I 26 0 ((((I 42 0 (((I 24 0 29) - 1).toNatClampNeg)) * 40) + (I 43 0 (((I 24 0 29) - 1).toNatClampNeg))).toNatClampNeg)), .inl (I 25 0 ((((I 42 0 (((I 24 0 29) - 1).toNatClampNeg)) * 40) + (I 43 0 (((I 24 0 29) - 1).toNatClampNeg))).toNatClampNeg)), .inl (I 42 0 (((I 24 0 29) - 1).toNatClampNeg)), .inr (.inr (.inr (.inr (24, 0))))], (fm_u I 43 0 (((I 24 0 29) - 1).toNatClampNeg) ((I 43 0 (((I 24 0 29) - 1).toNatClampNeg)) + 1), J, G, fm_P pa pb))) rfl ?_
                have hc := hp.1
                have hp := hp.2
                have K := fmD_perform_c (d := d) hl (by omega) (fm_u I 43 0 (((I 24 0 29) - 1).toNatClampNeg) ((I 43 0 (((I 24 0 29) - 1).toNatClampNeg)) + 1)) J G pa pb (I 42 0 (((I 24 0 29) - 1).toNatClampNeg)) (I 25 0 ((((I 42 0 (((I 24 0 29) - 1).toNatClampNeg)) * 40) + (I 43 0 (((I 24 0 29) - 1).toNatClampNeg))).toNatClampNeg)) (I 26 0 ((((I 42 0 (((I 24 0 29) - 1).toNatClampNeg)) * 40) + (I 43 0 (((I 24 0 29) - 1).toNatClampNeg))).toNatClampNeg)) (I 43 0 (((I 24 0 29) - 1).toNatClampNeg)) hc
                generalize er1 : fmD_perform_f (fm_u I 43 0 (((I 24 0 29) - 1).toNatClampNeg) ((I 43 0 (((I 24 0 29) - 1).toNatClampNeg)) + 1)) J G pa pb (I 42 0 (((I 24 0 29) - 1).toNatClampNeg)) (I 25 0 ((((I 42 0 (((I 24 0 29) - 1).toNatClampNeg)) * 40) + (I 43 0 (((I 24 0 29) - 1).toNatClampNeg))).toNatClampNeg)) (I 26 0 ((((I 42 0 (((I 24 0 29) - 1).toNatClampNeg)) * 40) + (I 43 0 (((I 24 0 29) - 1).toNatClampNeg))).toNatClampNeg)) (I 43 0 (((I 24 0 29) - 1).toNatClampNeg)) = r1 at he hp
                have he := he.trans (fm_letE _ _)
                have hp := fm_letP hp
                rw [er1] at K
                refine fm_cV0 O fmD_perform_o (i := 0) (as := [.inl (I 42 0 (((I 24 0 29) - 1).toNatClampNeg)), .inl (I 25 0 ((((I 42 0 (((I 24 0 29) - 1).toNatClampNeg)) * 40) + (I 43 0 (((I 24 0 29) - 1).toNatClampNeg))).toNatClampNeg)), .inl (I 26 0 ((((I 42 0 (((I 24 0 29) - 1).toNatClampNeg)) * 40) + (I 43 0 (((I 24 0 29) - 1).toNatClampNeg))).toNatClampNeg)), .inl (I 43 0 (((I 24 0 29) - 1).toNatClampNeg))]) (rest := []) (v := none) rfl fk_6_228 rfl (by decide) fn_D_perform (Nat.le_of_ble_eq_true rfl) (K) ?_
                refine fm_gr O 1 (C' := (0, [(6, .inl 1), (5, .inl (I 25 0 ((((I 42 0 (((I 24 0 29) - 1).toNatClampNeg)) * 40) + (I 43 0 (((I 24 0 29) - 1).toNatClampNeg))).toNatClampNeg))), (4, .inl (I 43 0 (((I 24 0 29) - 1).toNatClampNeg))), (3, .inl (I 42 0 (((I 24 0 29) - 1).toNatClampNeg))), (2, .inl ((I 24 0 29) - 1)), (0, .inr (.inr (.inr (.inr (24, 0))))), (1, .inl y1)], [], (r1.1, r1.2.1, r1.2.2, fm_P pa pb))) rfl ?_
                refine fm_gL O [5, 6] rfl ?_
                rw [he]
                exact ih r1.1 r1.2.1 r1.2.2 pa pb y1 hp
          · have h4 : ¬ (I 25 0 ((((I 42 0 (((I 24 0 29) - 1).toNatClampNeg)) * 40) + (I 43 0 (((I 24 0 29) - 1).toNatClampNeg))).toNatClampNeg)) = 21 := h
            have he := he.trans (if_neg h4)
            have hp := hp.2 h4
            refine fm_gr O 2 (C' := (80, [(5, .inl (I 25 0 ((((I 42 0 (((I 24 0 29) - 1).toNatClampNeg)) * 40) + (I 43 0 (((I 24 0 29) - 1).toNatClampNeg))).toNatClampNeg))), (4, .inl (I 43 0 (((I 24 0 29) - 1).toNatClampNeg))), (3, .inl (I 42 0 (((I 24 0 29) - 1).toNatClampNeg))), (2, .inl ((I 24 0 29) - 1)), (0, .inr (.inr (.inr (.inr (24, 0))))), (1, .inl y1)], [.inl 22, .inl (I 25 0 ((((I 42 0 (((I 24 0 29) - 1).toNatClampNeg)) * 40) + (I 43 0 (((I 24 0 29) - 1).toNatClampNeg))).toNatClampNeg))], (I, J, G, fm_P pa pb))) rfl ?_
            refine fm_gb O rfl (fun h => ?_) (fun h => ?_)
            · have h5 : (I 25 0 ((((I 42 0 (((I 24 0 29) - 1).toNatClampNeg)) * 40) + (I 43 0 (((I 24 0 29) - 1).toNatClampNeg))).toNatClampNeg)) = 22 := h
              have he := he.trans (if_pos h5)
              have hp := hp.1 h5
              refine fm_gr O 4 (C' := (99, [(6, .inl 1), (5, .inl (I 25 0 ((((I 42 0 (((I 24 0 29) - 1).toNatClampNeg)) * 40) + (I 43 0 (((I 24 0 29) - 1).toNatClampNeg))).toNatClampNeg))), (4, .inl (I 43 0 (((I 24 0 29) - 1).toNatClampNeg))), (3, .inl (I 42 0 (((I 24 0 29) - 1).toNatClampNeg))), (2, .inl ((I 24 0 29) - 1)), (0, .inr (.inr (.inr (.inr (24, 0))))), (1, .inl y1)], [.inl 1], (I, J, G, fm_P pa pb))) rfl ?_
              refine fm_gb O rfl (fun h => ?_) (fun h => ?_)
              · exact absurd h (show ¬ (1 : Int32) = 0 by decide)
              · refine fm_gr O 1 (C' := (118, [(6, .inl 1), (5, .inl (I 25 0 ((((I 42 0 (((I 24 0 29) - 1).toNatClampNeg)) * 40) + (I 43 0 (((I 24 0 29) - 1).toNatClampNeg))).toNatClampNeg))), (4, .inl (I 43 0 (((I 24 0 29) - 1).toNatClampNeg))), (3, .inl (I 42 0 (((I 24 0 29) - 1).toNatClampNeg))), (2, .inl ((I 24 0 29) - 1)), (0, .inr (.inr (.inr (.inr (24, 0))))), (1, .inl y1)], [.inl 1], (I, J, G, fm_P pa pb))) rfl ?_
                refine fm_gb O rfl (fun h => ?_) (fun h => ?_)
                · exact absurd h (show ¬ (1 : Int32) = 0 by decide)
                · refine fm_gr O 4 (C' := (137, [(6, .inl 1), (5, .inl (I 25 0 ((((I 42 0 (((I 24 0 29) - 1).toNatClampNeg)) * 40) + (I 43 0 (((I 24 0 29) - 1).toNatClampNeg))).toNatClampNeg))), (4, .inl (I 43 0 (((I 24 0 29) - 1).toNatClampNeg))), (3, .inl (I 42 0 (((I 24 0 29) - 1).toNatClampNeg))), (2, .inl ((I 24 0 29) - 1)), (0, .inr (.inr (.inr (.inr (24, 0))))), (1, .inl y1)], [.inl ((I 24 0 29) - 1), .inr (.inr (.inr (.inr (43, 0)))), .inl ((I 24 0 29) - 1), .inr (.inr (.inr (.inr (43, 0))))], (I, J, G, fm_P pa pb))) rfl ?_
                  refine fm_gg O rfl hp.1 ?_
                  have hp := hp.2
                  refine fm_gr O 2 (C' := (140, [(6, .inl 1), (5, .inl (I 25 0 ((((I 42 0 (((I 24 0 29) - 1).toNatClampNeg)) * 40) + (I 43 0 (((I 24 0 29) - 1).toNatClampNeg))).toNatClampNeg))), (4, .inl (I 43 0 (((I 24 0 29) - 1).toNatClampNeg))), (3, .inl (I 42 0 (((I 24 0 29) - 1).toNatClampNeg))), (2, .inl ((I 24 0 29) - 1)), (0, .inr (.inr (.inr (.inr (24, 0))))), (1, .inl y1)], [.inl ((I 43 0 (((I 24 0 29) - 1).toNatClampNeg)) + 1), .inl ((I 24 0 29) - 1), .inr (.inr (.inr (.inr (43, 0))))], (I, J, G, fm_P pa pb))) rfl ?_
                  refine fm_gg O rfl hp.1 ?_
                  have hp := hp.2
                  refine fm_gr O 10 (C' := (156, [(6, .inl 1), (5, .inl (I 25 0 ((((I 42 0 (((I 24 0 29) - 1).toNatClampNeg)) * 40) + (I 43 0 (((I 24 0 29) - 1).toNatClampNeg))).toNatClampNeg))), (4, .inl (I 43 0 (((I 24 0 29) - 1).toNatClampNeg))), (3, .inl (I 42 0 (((I 24 0 29) - 1).toNatClampNeg))), (2, .inl ((I 24 0 29) - 1)), (0, .inr (.inr (.inr (.inr (24, 0))))), (1, .inl y1)], [.inl (((I 42 0 (((I 24 0 29) - 1).toNatClampNeg)) * 40) + (I 43 0 (((I 24 0 29) - 1).toNatClampNeg))), .inr (.inr (.inr (.inr (26, 0)))), .inl (I 25 0 ((((I 42 0 (((I 24 0 29) - 1).toNatClampNeg)) * 40) + (I 43 0 (((I 24 0 29) - 1).toNatClampNeg))).toNatClampNeg)), .inl (I 42 0 (((I 24 0 29) - 1).toNatClampNeg)), .inr (.inr (.inr (.inr (24, 0))))], (fm_u I 43 0 (((I 24 0 29) - 1).toNatClampNeg) ((I 43 0 (((I 24 0 29) - 1).toNatClampNeg)) + 1), J, G, fm_P pa pb))) rfl ?_
                  refine fm_gg O rfl hp.1 ?_
                  have hp := hp.2
                  refine fm_gr O 1 (C' := (159, [(6, .inl 1), (5, .inl (I 25 0 ((((I 42 0 (((I 24 0 29) - 1).toNatClampNeg)) * 40) + (I 43 0 (((I 24 0 29) - 1).toNatClampNeg))).toNatClampNeg))), (4, .inl (I 43 0 (((I 24 0 29) - 1).toNatClampNeg))), (3, .inl (I 42 0 (((I 24 0 29) - 1).toNatClampNeg))), (2, .inl ((I 24 0 29) - 1)), (0, .inr (.inr (.inr (.inr (24, 0))))), (1, .inl y1)], [.inl (I 43 0 (((I 24 0 29) - 1).toNatClampNeg)), .inl (I 26 0 ((((I 42 0 (((I 24 0 29) - 1).toNatClampNeg)) * 40) + (I 43 0 (((I 24 0 29) - 1).toNatClampNeg))).toNatClampNeg)), .inl (I 25 0 ((((I 42 0 (((I 24 0 29) - 1).toNatClampNeg)) * 40) + (I 43 0 (((I 24 0 29) - 1).toNatClampNeg))).toNatClampNeg)), .inl (I 42 0 (((I 24 0 29) - 1).toNatClampNeg)), .inr (.inr (.inr (.inr (24, 0))))], (fm_u I 43 0 (((I 24 0 29) - 1).toNatClampNeg) ((I 43 0 (((I 24 0 29) - 1).toNatClampNeg)) + 1), J, G, fm_P pa pb))) rfl ?_
                  have hc := hp.1
                  have hp := hp.2
                  have K := fmD_perform_c (d := d) hl (by omega) (fm_u I 43 0 (((I 24 0 29) - 1).toNatClampNeg) ((I 43 0 (((I 24 0 29) - 1).toNatClampNeg)) + 1)) J G pa pb (I 42 0 (((I 24 0 29) - 1).toNatClampNeg)) (I 25 0 ((((I 42 0 (((I 24 0 29) - 1).toNatClampNeg)) * 40) + (I 43 0 (((I 24 0 29) - 1).toNatClampNeg))).toNatClampNeg)) (I 26 0 ((((I 42 0 (((I 24 0 29) - 1).toNatClampNeg)) * 40) + (I 43 0 (((I 24 0 29) - 1).toNatClampNeg))).toNatClampNeg)) (I 43 0 (((I 24 0 29) - 1).toNatClampNeg)) hc
                  generalize er2 : fmD_perform_f (fm_u I 43 0 (((I 24 0 29) - 1).toNatClampNeg) ((I 43 0 (((I 24 0 29) - 1).toNatClampNeg)) + 1)) J G pa pb (I 42 0 (((I 24 0 29) - 1).toNatClampNeg)) (I 25 0 ((((I 42 0 (((I 24 0 29) - 1).toNatClampNeg)) * 40) + (I 43 0 (((I 24 0 29) - 1).toNatClampNeg))).toNatClampNeg)) (I 26 0 ((((I 42 0 (((I 24 0 29) - 1).toNatClampNeg)) * 40) + (I 43 0 (((I 24 0 29) - 1).toNatClampNeg))).toNatClampNeg)) (I 43 0 (((I 24 0 29) - 1).toNatClampNeg)) = r2 at he hp
                  have he := he.trans (fm_letE _ _)
                  have hp := fm_letP hp
                  rw [er2] at K
                  refine fm_cV0 O fmD_perform_o (i := 0) (as := [.inl (I 42 0 (((I 24 0 29) - 1).toNatClampNeg)), .inl (I 25 0 ((((I 42 0 (((I 24 0 29) - 1).toNatClampNeg)) * 40) + (I 43 0 (((I 24 0 29) - 1).toNatClampNeg))).toNatClampNeg)), .inl (I 26 0 ((((I 42 0 (((I 24 0 29) - 1).toNatClampNeg)) * 40) + (I 43 0 (((I 24 0 29) - 1).toNatClampNeg))).toNatClampNeg)), .inl (I 43 0 (((I 24 0 29) - 1).toNatClampNeg))]) (rest := []) (v := none) rfl fk_6_228 rfl (by decide) fn_D_perform (Nat.le_of_ble_eq_true rfl) (K) ?_
                  refine fm_gr O 1 (C' := (0, [(6, .inl 1), (5, .inl (I 25 0 ((((I 42 0 (((I 24 0 29) - 1).toNatClampNeg)) * 40) + (I 43 0 (((I 24 0 29) - 1).toNatClampNeg))).toNatClampNeg))), (4, .inl (I 43 0 (((I 24 0 29) - 1).toNatClampNeg))), (3, .inl (I 42 0 (((I 24 0 29) - 1).toNatClampNeg))), (2, .inl ((I 24 0 29) - 1)), (0, .inr (.inr (.inr (.inr (24, 0))))), (1, .inl y1)], [], (r2.1, r2.2.1, r2.2.2, fm_P pa pb))) rfl ?_
                  refine fm_gL O [5, 6] rfl ?_
                  rw [he]
                  exact ih r2.1 r2.2.1 r2.2.2 pa pb y1 hp
            · have h5 : ¬ (I 25 0 ((((I 42 0 (((I 24 0 29) - 1).toNatClampNeg)) * 40) + (I 43 0 (((I 24 0 29) - 1).toNatClampNeg))).toNatClampNeg)) = 22 := h
              have he := he.trans (if_neg h5)
              have hp := hp.2 h5
              refine fm_gr O 2 (C' := (87, [(5, .inl (I 25 0 ((((I 42 0 (((I 24 0 29) - 1).toNatClampNeg)) * 40) + (I 43 0 (((I 24 0 29) - 1).toNatClampNeg))).toNatClampNeg))), (4, .inl (I 43 0 (((I 24 0 29) - 1).toNatClampNeg))), (3, .inl (I 42 0 (((I 24 0 29) - 1).toNatClampNeg))), (2, .inl ((I 24 0 29) - 1)), (0, .inr (.inr (.inr (.inr (24, 0))))), (1, .inl y1)], [.inl 25, .inl (I 25 0 ((((I 42 0 (((I 24 0 29) - 1).toNatClampNeg)) * 40) + (I 43 0 (((I 24 0 29) - 1).toNatClampNeg))).toNatClampNeg))], (I, J, G, fm_P pa pb))) rfl ?_
              refine fm_gb O rfl (fun h => ?_) (fun h => ?_)
              · have h6 : (I 25 0 ((((I 42 0 (((I 24 0 29) - 1).toNatClampNeg)) * 40) + (I 43 0 (((I 24 0 29) - 1).toNatClampNeg))).toNatClampNeg)) = 25 := h
                have he := he.trans (if_pos h6)
                have hp := hp.1 h6
                refine fm_gr O 4 (C' := (99, [(6, .inl 1), (5, .inl (I 25 0 ((((I 42 0 (((I 24 0 29) - 1).toNatClampNeg)) * 40) + (I 43 0 (((I 24 0 29) - 1).toNatClampNeg))).toNatClampNeg))), (4, .inl (I 43 0 (((I 24 0 29) - 1).toNatClampNeg))), (3, .inl (I 42 0 (((I 24 0 29) - 1).toNatClampNeg))), (2, .inl ((I 24 0 29) - 1)), (0, .inr (.inr (.inr (.inr (24, 0))))), (1, .inl y1)], [.inl 1], (I, J, G, fm_P pa pb))) rfl ?_
                refine fm_gb O rfl (fun h => ?_) (fun h => ?_)
                · exact absurd h (show ¬ (1 : Int32) = 0 by decide)
                · refine fm_gr O 1 (C' := (118, [(6, .inl 1), (5, .inl (I 25 0 ((((I 42 0 (((I 24 0 29) - 1).toNatClampNeg)) * 40) + (I 43 0 (((I 24 0 29) - 1).toNatClampNeg))).toNatClampNeg))), (4, .inl (I 43 0 (((I 24 0 29) - 1).toNatClampNeg))), (3, .inl (I 42 0 (((I 24 0 29) - 1).toNatClampNeg))), (2, .inl ((I 24 0 29) - 1)), (0, .inr (.inr (.inr (.inr (24, 0))))), (1, .inl y1)], [.inl 1], (I, J, G, fm_P pa pb))) rfl ?_
                  refine fm_gb O rfl (fun h => ?_) (fun h => ?_)
                  · exact absurd h (show ¬ (1 : Int32) = 0 by decide)
                  · refine fm_gr O 4 (C' := (137, [(6, .inl 1), (5, .inl (I 25 0 ((((I 42 0 (((I 24 0 29) - 1).toNatClampNeg)) * 40) + (I 43 0 (((I 24 0 29) - 1).toNatClampNeg))).toNatClampNeg))), (4, .inl (I 43 0 (((I 24 0 29) - 1).toNatClampNeg))), (3, .inl (I 42 0 (((I 24 0 29) - 1).toNatClampNeg))), (2, .inl ((I 24 0 29) - 1)), (0, .inr (.inr (.inr (.inr (24, 0))))), (1, .inl y1)], [.inl ((I 24 0 29) - 1), .inr (.inr (.inr (.inr (43, 0)))), .inl ((I 24 0 29) - 1), .inr (.inr (.inr (.inr (43, 0))))], (I, J, G, fm_P pa pb))) rfl ?_
                    refine fm_gg O rfl hp.1 ?_
                    have hp := hp.2
                    refine fm_gr O 2 (C' := (140, [(6, .inl 1), (5, .inl (I 25 0 ((((I 42 0 (((I 24 0 29) - 1).toNatClampNeg)) * 40) + (I 43 0 (((I 24 0 29) - 1).toNatClampNeg))).toNatClampNeg))), (4, .inl (I 43 0 (((I 24 0 29) - 1).toNatClampNeg))), (3, .inl (I 42 0 (((I 24 0 29) - 1).toNatClampNeg))), (2, .inl ((I 24 0 29) - 1)), (0, .inr (.inr (.inr (.inr (24, 0))))), (1, .inl y1)], [.inl ((I 43 0 (((I 24 0 29) - 1).toNatClampNeg)) + 1), .inl ((I 24 0 29) - 1), .inr (.inr (.inr (.inr (43, 0))))], (I, J, G, fm_P pa pb))) rfl ?_
                    refine fm_gg O rfl hp.1 ?_
                    have hp := hp.2
                    refine fm_gr O 10 (C' := (156, [(6, .inl 1), (5, .inl (I 25 0 ((((I 42 0 (((I 24 0 29) - 1).toNatClampNeg)) * 40) + (I 43 0 (((I 24 0 29) - 1).toNatClampNeg))).toNatClampNeg))), (4, .inl (I 43 0 (((I 24 0 29) - 1).toNatClampNeg))), (3, .inl (I 42 0 (((I 24 0 29) - 1).toNatClampNeg))), (2, .inl ((I 24 0 29) - 1)), (0, .inr (.inr (.inr (.inr (24, 0))))), (1, .inl y1)], [.inl (((I 42 0 (((I 24 0 29) - 1).toNatClampNeg)) * 40) + (I 43 0 (((I 24 0 29) - 1).toNatClampNeg))), .inr (.inr (.inr (.inr (26, 0)))), .inl (I 25 0 ((((I 42 0 (((I 24 0 29) - 1).toNatClampNeg)) * 40) + (I 43 0 (((I 24 0 29) - 1).toNatClampNeg))).toNatClampNeg)), .inl (I 42 0 (((I 24 0 29) - 1).toNatClampNeg)), .inr (.inr (.inr (.inr (24, 0))))], (fm_u I 43 0 (((I 24 0 29) - 1).toNatClampNeg) ((I 43 0 (((I 24 0 29) - 1).toNatClampNeg)) + 1), J, G, fm_P pa pb))) rfl ?_
                    refine fm_gg O rfl hp.1 ?_
                    have hp := hp.2
                    refine fm_gr O 1 (C' := (159, [(6, .inl 1), (5, .inl (I 25 0 ((((I 42 0 (((I 24 0 29) - 1).toNatClampNeg)) * 40) + (I 43 0 (((I 24 0 29) - 1).toNatClampNeg))).toNatClampNeg))), (4, .inl (I 43 0 (((I 24 0 29) - 1).toNatClampNeg))), (3, .inl (I 42 0 (((I 24 0 29) - 1).toNatClampNeg))), (2, .inl ((I 24 0 29) - 1)), (0, .inr (.inr (.inr (.inr (24, 0))))), (1, .inl y1)], [.inl (I 43 0 (((I 24 0 29) - 1).toNatClampNeg)), .inl (I 26 0 ((((I 42 0 (((I 24 0 29) - 1).toNatClampNeg)) * 40) + (I 43 0 (((I 24 0 29) - 1).toNatClampNeg))).toNatClampNeg)), .inl (I 25 0 ((((I 42 0 (((I 24 0 29) - 1).toNatClampNeg)) * 40) + (I 43 0 (((I 24 0 29) - 1).toNatClampNeg))).toNatClampNeg)), .inl (I 42 0 (((I 24 0 29) - 1).toNatClampNeg)), .inr (.inr (.inr (.inr (24, 0))))], (fm_u I 43 0 (((I 24 0 29) - 1).toNatClampNeg) ((I 43 0 (((I 24 0 29) - 1).toNatClampNeg)) + 1), J, G, fm_P pa pb))) rfl ?_
                    have hc := hp.1
                    have hp := hp.2
                    have K := fmD_perform_c (d := d) hl (by omega) (fm_u I 43 0 (((I 24 0 29) - 1).toNatClampNeg) ((I 43 0 (((I 24 0 29) - 1).toNatClampNeg)) + 1)) J G pa pb (I 42 0 (((I 24 0 29) - 1).toNatClampNeg)) (I 25 0 ((((I 42 0 (((I 24 0 29) - 1).toNatClampNeg)) * 40) + (I 43 0 (((I 24 0 29) - 1).toNatClampNeg))).toNatClampNeg)) (I 26 0 ((((I 42 0 (((I 24 0 29) - 1).toNatClampNeg)) * 40) + (I 43 0 (((I 24 0 29) - 1).toNatClampNeg))).toNatClampNeg)) (I 43 0 (((I 24 0 29) - 1).toNatClampNeg)) hc
                    generalize er3 : fmD_perform_f (fm_u I 43 0 (((I 24 0 29) - 1).toNatClampNeg) ((I 43 0 (((I 24 0 29) - 1).toNatClampNeg)) + 1)) J G pa pb (I 42 0 (((I 24 0 29) - 1).toNatClampNeg)) (I 25 0 ((((I 42 0 (((I 24 0 29) - 1).toNatClampNeg)) * 40) + (I 43 0 (((I 24 0 29) - 1).toNatClampNeg))).toNatClampNeg)) (I 26 0 ((((I 42 0 (((I 24 0 29) - 1).toNatClampNeg)) * 40) + (I 43 0 (((I 24 0 29) - 1).toNatClampNeg))).toNatClampNeg)) (I 43 0 (((I 24 0 29) - 1).toNatClampNeg)) = r3 at he hp
                    have he := he.trans (fm_letE _ _)
                    have hp := fm_letP hp
                    rw [er3] at K
                    refine fm_cV0 O fmD_perform_o (i := 0) (as := [.inl (I 42 0 (((I 24 0 29) - 1).toNatClampNeg)), .inl (I 25 0 ((((I 42 0 (((I 24 0 29) - 1).toNatClampNeg)) * 40) + (I 43 0 (((I 24 0 29) - 1).toNatClampNeg))).toNatClampNeg)), .inl (I 26 0 ((((I 42 0 (((I 24 0 29) - 1).toNatClampNeg)) * 40) + (I 43 0 (((I 24 0 29) - 1).toNatClampNeg))).toNatClampNeg)), .inl (I 43 0 (((I 24 0 29) - 1).toNatClampNeg))]) (rest := []) (v := none) rfl fk_6_228 rfl (by decide) fn_D_perform (Nat.le_of_ble_eq_true rfl) (K) ?_
                    refine fm_gr O 1 (C' := (0, [(6, .inl 1), (5, .inl (I 25 0 ((((I 42 0 (((I 24 0 29) - 1).toNatClampNeg)) * 40) + (I 43 0 (((I 24 0 29) - 1).toNatClampNeg))).toNatClampNeg))), (4, .inl (I 43 0 (((I 24 0 29) - 1).toNatClampNeg))), (3, .inl (I 42 0 (((I 24 0 29) - 1).toNatClampNeg))), (2, .inl ((I 24 0 29) - 1)), (0, .inr (.inr (.inr (.inr (24, 0))))), (1, .inl y1)], [], (r3.1, r3.2.1, r3.2.2, fm_P pa pb))) rfl ?_
                    refine fm_gL O [5, 6] rfl ?_
                    rw [he]
                    exact ih r3.1 r3.2.1 r3.2.2 pa pb y1 hp
              · have h6 : ¬ (I 25 0 ((((I 42 0 (((I 24 0 29) - 1).toNatClampNeg)) * 40) + (I 43 0 (((I 24 0 29) - 1).toNatClampNeg))).toNatClampNeg)) = 25 := h
                have he := he.trans (if_neg h6)
                have hp := hp.2 h6
                refine fm_gr O 3 (C' := (99, [(6, .inl 0), (5, .inl (I 25 0 ((((I 42 0 (((I 24 0 29) - 1).toNatClampNeg)) * 40) + (I 43 0 (((I 24 0 29) - 1).toNatClampNeg))).toNatClampNeg))), (4, .inl (I 43 0 (((I 24 0 29) - 1).toNatClampNeg))), (3, .inl (I 42 0 (((I 24 0 29) - 1).toNatClampNeg))), (2, .inl ((I 24 0 29) - 1)), (0, .inr (.inr (.inr (.inr (24, 0))))), (1, .inl y1)], [.inl 0], (I, J, G, fm_P pa pb))) rfl ?_
                refine fm_gb O rfl (fun h => ?_) (fun h => ?_)
                rotate_left
                · exact absurd (show (0 : Int32) = 0 by decide) h
                · refine fm_gr O 3 (C' := (107, [(6, .inl 0), (5, .inl (I 25 0 ((((I 42 0 (((I 24 0 29) - 1).toNatClampNeg)) * 40) + (I 43 0 (((I 24 0 29) - 1).toNatClampNeg))).toNatClampNeg))), (4, .inl (I 43 0 (((I 24 0 29) - 1).toNatClampNeg))), (3, .inl (I 42 0 (((I 24 0 29) - 1).toNatClampNeg))), (2, .inl ((I 24 0 29) - 1)), (0, .inr (.inr (.inr (.inr (24, 0))))), (1, .inl y1)], [.inl y1, .inl (I 24 0 31)], (I, J, G, fm_P pa pb))) rfl ?_
                  refine fm_gb O rfl (fun h => ?_) (fun h => ?_)
                  · have h7 : (I 24 0 31) = y1 := h
                    have he := he.trans (if_pos h7)
                    refine fm_gr O 3 (C' := (115, [(6, .inl 0), (5, .inl (I 25 0 ((((I 42 0 (((I 24 0 29) - 1).toNatClampNeg)) * 40) + (I 43 0 (((I 24 0 29) - 1).toNatClampNeg))).toNatClampNeg))), (4, .inl (I 43 0 (((I 24 0 29) - 1).toNatClampNeg))), (3, .inl (I 42 0 (((I 24 0 29) - 1).toNatClampNeg))), (2, .inl ((I 24 0 29) - 1)), (0, .inr (.inr (.inr (.inr (24, 0))))), (1, .inl y1)], [], (fm_u I 24 0 18 2, J, G, fm_P pa pb))) rfl ?_
                    exact fm_gRe O rfl trivial (by first | (rw [he]; done) | (rw [he]; rfl) | rfl) (by first | (rw [he]; done) | (rw [he]; rfl) | rfl)
                  · have h7 : ¬ (I 24 0 31) = y1 := h
                    have he := he.trans (if_neg h7)
                    have hp := hp.2 h7
                    refine fm_gr O 1 (C' := (118, [(6, .inl 0), (5, .inl (I 25 0 ((((I 42 0 (((I 24 0 29) - 1).toNatClampNeg)) * 40) + (I 43 0 (((I 24 0 29) - 1).toNatClampNeg))).toNatClampNeg))), (4, .inl (I 43 0 (((I 24 0 29) - 1).toNatClampNeg))), (3, .inl (I 42 0 (((I 24 0 29) - 1).toNatClampNeg))), (2, .inl ((I 24 0 29) - 1)), (0, .inr (.inr (.inr (.inr (24, 0))))), (1, .inl y1)], [.inl 0], (I, J, G, fm_P pa pb))) rfl ?_
                    refine fm_gb O rfl (fun h => ?_) (fun h => ?_)
                    rotate_left
                    · exact absurd (show (0 : Int32) = 0 by decide) h
                    · refine fm_gr O 10 (C' := (137, [(6, .inl 0), (5, .inl (I 25 0 ((((I 42 0 (((I 24 0 29) - 1).toNatClampNeg)) * 40) + (I 43 0 (((I 24 0 29) - 1).toNatClampNeg))).toNatClampNeg))), (4, .inl (I 43 0 (((I 24 0 29) - 1).toNatClampNeg))), (3, .inl (I 42 0 (((I 24 0 29) - 1).toNatClampNeg))), (2, .inl ((I 24 0 29) - 1)), (0, .inr (.inr (.inr (.inr (24, 0))))), (1, .inl y1)], [.inl ((I 24 0 29) - 1), .inr (.inr (.inr (.inr (43, 0)))), .inl ((I 24 0 29) - 1), .inr (.inr (.inr (.inr (43, 0))))], (fm_u I 24 0 31 ((I 24 0 31) + 1), J, G, fm_P pa pb))) rfl ?_
                      refine fm_gg O rfl hp.1 ?_
                      have hp := hp.2
                      refine fm_gr O 2 (C' := (140, [(6, .inl 0), (5, .inl (I 25 0 ((((I 42 0 (((I 24 0 29) - 1).toNatClampNeg)) * 40) + (I 43 0 (((I 24 0 29) - 1).toNatClampNeg))).toNatClampNeg))), (4, .inl (I 43 0 (((I 24 0 29) - 1).toNatClampNeg))), (3, .inl (I 42 0 (((I 24 0 29) - 1).toNatClampNeg))), (2, .inl ((I 24 0 29) - 1)), (0, .inr (.inr (.inr (.inr (24, 0))))), (1, .inl y1)], [.inl ((I 43 0 (((I 24 0 29) - 1).toNatClampNeg)) + 1), .inl ((I 24 0 29) - 1), .inr (.inr (.inr (.inr (43, 0))))], (fm_u I 24 0 31 ((I 24 0 31) + 1), J, G, fm_P pa pb))) rfl ?_
                      refine fm_gg O rfl hp.1 ?_
                      have hp := hp.2
                      refine fm_gr O 10 (C' := (156, [(6, .inl 0), (5, .inl (I 25 0 ((((I 42 0 (((I 24 0 29) - 1).toNatClampNeg)) * 40) + (I 43 0 (((I 24 0 29) - 1).toNatClampNeg))).toNatClampNeg))), (4, .inl (I 43 0 (((I 24 0 29) - 1).toNatClampNeg))), (3, .inl (I 42 0 (((I 24 0 29) - 1).toNatClampNeg))), (2, .inl ((I 24 0 29) - 1)), (0, .inr (.inr (.inr (.inr (24, 0))))), (1, .inl y1)], [.inl (((I 42 0 (((I 24 0 29) - 1).toNatClampNeg)) * 40) + (I 43 0 (((I 24 0 29) - 1).toNatClampNeg))), .inr (.inr (.inr (.inr (26, 0)))), .inl (I 25 0 ((((I 42 0 (((I 24 0 29) - 1).toNatClampNeg)) * 40) + (I 43 0 (((I 24 0 29) - 1).toNatClampNeg))).toNatClampNeg)), .inl (I 42 0 (((I 24 0 29) - 1).toNatClampNeg)), .inr (.inr (.inr (.inr (24, 0))))], (fm_u (fm_u I 24 0 31 ((I 24 0 31) + 1)) 43 0 (((I 24 0 29) - 1).toNatClampNeg) ((I 43 0 (((I 24 0 29) - 1).toNatClampNeg)) + 1), J, G, fm_P pa pb))) rfl ?_
                      refine fm_gg O rfl hp.1 ?_
                      have hp := hp.2
                      refine fm_gr O 1 (C' := (159, [(6, .inl 0), (5, .inl (I 25 0 ((((I 42 0 (((I 24 0 29) - 1).toNatClampNeg)) * 40) + (I 43 0 (((I 24 0 29) - 1).toNatClampNeg))).toNatClampNeg))), (4, .inl (I 43 0 (((I 24 0 29) - 1).toNatClampNeg))), (3, .inl (I 42 0 (((I 24 0 29) - 1).toNatClampNeg))), (2, .inl ((I 24 0 29) - 1)), (0, .inr (.inr (.inr (.inr (24, 0))))), (1, .inl y1)], [.inl (I 43 0 (((I 24 0 29) - 1).toNatClampNeg)), .inl (I 26 0 ((((I 42 0 (((I 24 0 29) - 1).toNatClampNeg)) * 40) + (I 43 0 (((I 24 0 29) - 1).toNatClampNeg))).toNatClampNeg)), .inl (I 25 0 ((((I 42 0 (((I 24 0 29) - 1).toNatClampNeg)) * 40) + (I 43 0 (((I 24 0 29) - 1).toNatClampNeg))).toNatClampNeg)), .inl (I 42 0 (((I 24 0 29) - 1).toNatClampNeg)), .inr (.inr (.inr (.inr (24, 0))))], (fm_u (fm_u I 24 0 31 ((I 24 0 31) + 1)) 43 0 (((I 24 0 29) - 1).toNatClampNeg) ((I 43 0 (((I 24 0 29) - 1).toNatClampNeg)) + 1), J, G, fm_P pa pb))) rfl ?_
                      have hc := hp.1
                      have hp := hp.2
                      have K := fmD_perform_c (d := d) hl (by omega) (fm_u (fm_u I 24 0 31 ((I 24 0 31) + 1)) 43 0 (((I 24 0 29) - 1).toNatClampNeg) ((I 43 0 (((I 24 0 29) - 1).toNatClampNeg)) + 1)) J G pa pb (I 42 0 (((I 24 0 29) - 1).toNatClampNeg)) (I 25 0 ((((I 42 0 (((I 24 0 29) - 1).toNatClampNeg)) * 40) + (I 43 0 (((I 24 0 29) - 1).toNatClampNeg))).toNatClampNeg)) (I 26 0 ((((I 42 0 (((I 24 0 29) - 1).toNatClampNeg)) * 40) + (I 43 0 (((I 24 0 29) - 1).toNatClampNeg))).toNatClampNeg)) (I 43 0 (((I 24 0 29) - 1).toNatClampNeg)) hc
                      generalize er4 : fmD_perform_f (fm_u (fm_u I 24 0 31 ((I 24 0 31) + 1)) 43 0 (((I 24 0 29) - 1).toNatClampNeg) ((I 43 0 (((I 24 0 29) - 1).toNatClampNeg)) + 1)) J G pa pb (I 42 0 (((I 24 0 29) - 1).toNatClampNeg)) (I 25 0 ((((I 42 0 (((I 24 0 29) - 1).toNatClampNeg)) * 40) + (I 43 0 (((I 24 0 29) - 1).toNatClampNeg))).toNatClampNeg)) (I 26 0 ((((I 42 0 (((I 24 0 29) - 1).toNatClampNeg)) * 40) + (I 43 0 (((I 24 0 29) - 1).toNatClampNeg))).toNatClampNeg)) (I 43 0 (((I 24 0 29) - 1).toNatClampNeg)) = r4 at he hp
                      have he := he.trans (fm_letE _ _)
                      have hp := fm_letP hp
                      rw [er4] at K
                      refine fm_cV0 O fmD_perform_o (i := 0) (as := [.inl (I 42 0 (((I 24 0 29) - 1).toNatClampNeg)), .inl (I 25 0 ((((I 42 0 (((I 24 0 29) - 1).toNatClampNeg)) * 40) + (I 43 0 (((I 24 0 29) - 1).toNatClampNeg))).toNatClampNeg)), .inl (I 26 0 ((((I 42 0 (((I 24 0 29) - 1).toNatClampNeg)) * 40) + (I 43 0 (((I 24 0 29) - 1).toNatClampNeg))).toNatClampNeg)), .inl (I 43 0 (((I 24 0 29) - 1).toNatClampNeg))]) (rest := []) (v := none) rfl fk_6_228 rfl (by decide) fn_D_perform (Nat.le_of_ble_eq_true rfl) (K) ?_
                      refine fm_gr O 1 (C' := (0, [(6, .inl 0), (5, .inl (I 25 0 ((((I 42 0 (((I 24 0 29) - 1).toNatClampNeg)) * 40) + (I 43 0 (((I 24 0 29) - 1).toNatClampNeg))).toNatClampNeg))), (4, .inl (I 43 0 (((I 24 0 29) - 1).toNatClampNeg))), (3, .inl (I 42 0 (((I 24 0 29) - 1).toNatClampNeg))), (2, .inl ((I 24 0 29) - 1)), (0, .inr (.inr (.inr (.inr (24, 0))))), (1, .inl y1)], [], (r4.1, r4.2.1, r4.2.2, fm_P pa pb))) rfl ?_
                      refine fm_gL O [5, 6] rfl ?_
                      rw [he]
                      exact ih r4.1 r4.2.1 r4.2.2 pa pb y1 hp
        · have h3 : ¬ (I 43 0 (((I 24 0 29) - 1).toNatClampNeg)) < (I 27 0 ((I 42 0 (((I 24 0 29) - 1).toNatClampNeg)).toNatClampNeg)) := h
          have he := he.trans (if_neg h3)
          have hp := hp.2 h3
          refine fm_gr O 2 (C' := (49, [(4, .inl (I 43 0 (((I 24 0 29) - 1).toNatClampNeg))), (3, .inl (I 42 0 (((I 24 0 29) - 1).toNatClampNeg))), (2, .inl ((I 24 0 29) - 1)), (0, .inr (.inr (.inr (.inr (24, 0))))), (1, .inl y1)], [.inl (I 42 0 (((I 24 0 29) - 1).toNatClampNeg)), .inr (.inr (.inr (.inr (24, 0))))], (I, J, G, fm_P pa pb))) rfl ?_
          have hc := hp.1
          have hp := hp.2
          have K := fmD_leave_c (d := d) hl (by omega) I J G pa pb (I 42 0 (((I 24 0 29) - 1).toNatClampNeg)) hc
          generalize er5 : fmD_leave_f I J G (I 42 0 (((I 24 0 29) - 1).toNatClampNeg)) = r5 at he hp
          have he := he.trans (fm_letE _ _)
          have hp := fm_letP hp
          rw [er5] at K
          refine fm_cV0 O fmD_leave_o (i := 0) (as := [.inl (I 42 0 (((I 24 0 29) - 1).toNatClampNeg))]) (rest := []) (v := none) rfl fk_6_216 rfl (by decide) fn_D_leave (Nat.le_of_ble_eq_true rfl) (K) ?_
          refine fm_gr O 1 (C' := (0, [(4, .inl (I 43 0 (((I 24 0 29) - 1).toNatClampNeg))), (3, .inl (I 42 0 (((I 24 0 29) - 1).toNatClampNeg))), (2, .inl ((I 24 0 29) - 1)), (0, .inr (.inr (.inr (.inr (24, 0))))), (1, .inl y1)], [], (r5.1, r5.2.1, r5.2.2, fm_P pa pb))) rfl ?_
          refine fm_gL O [3, 4] rfl ?_
          rw [he]
          exact ih r5.1 r5.2.1 r5.2.2 pa pb y1 hp
      · have h2 : ¬ (I 24 0 18) = 0 := h
        have he := he.trans (if_neg h2)
        exact fm_gRe O rfl trivial (by first | (rw [he]; done) | (rw [he]; rfl) | rfl) (by first | (rw [he]; done) | (rw [he]; rfl) | rfl)
def fmD_go_f (I : fm_MI) (J : fm_MJ) (G : fm_MG) (pa : Nat × Nat) (pb : Nat × Nat) (fu : Int32) : fm_MI × fm_MJ × fm_MG :=
  fmD_go_L0_f 1000000 I J G pa pb fu
theorem fmD_go_e (I : fm_MI) (J : fm_MJ) (G : fm_MG) (pa : Nat × Nat) (pb : Nat × Nat) (fu : Int32) : fmD_go_f I J G pa pb fu = fmD_go_L0_f 1000000 I J G pa pb fu := rfl
def fmD_go_p (I : fm_MI) (J : fm_MJ) (G : fm_MG) (pa : Nat × Nat) (pb : Nat × Nat) (fu : Int32) : Prop :=
  fmD_go_L0_p 1000000 I J G pa pb fu
set_option maxRecDepth 100000 in
set_option maxHeartbeats 4000000 in
theorem fmD_go_c {E : fm_Ev} (hl : E.1.stackTraces = false) {d : Nat} (hd : 4 ≤ d) (I : fm_MI) (J : fm_MJ) (G : fm_MG) (pa : Nat × Nat) (pb : Nat × Nat) (fu : Int32) (hp : fmD_go_p I J G pa pb fu) : fm_Ct E d fmD_go 0 [.inr (.inr (.inr (.inr (24, 0)))), .inl fu] (I, J, G, fm_P pa pb) none ((fmD_go_f I J G pa pb fu).1, (fmD_go_f I J G pa pb fu).2.1, (fmD_go_f I J G pa pb fu).2.2, fm_P pa pb) := by
  obtain ⟨d, rfl⟩ : ∃ d', d = d' + 1 := ⟨d - 1, by omega⟩
  refine fm_ct fmD_go_o hl (Nat.le_of_ble_eq_true rfl) ?_
  have O := fmD_go_o.1
  unfold fmD_go_p at hp
  have he := fmD_go_e I J G pa pb fu
  refine fm_gL O [0, 1] rfl ?_
  rw [he]
  exact fmD_go_L0_c hl hd 1000000 I J G pa pb fu hp
