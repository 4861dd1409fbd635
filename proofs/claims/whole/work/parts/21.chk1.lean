/-! THE CHECKER, by program (wip/tools/walk.py, gen_c2.py) -/
def fmK_sendHereAllFor_L2_f : Nat → fm_MI → fm_MJ → fm_MG → (Nat × Nat) → (Nat × Nat) → Nat → Int32 → Int32 → fm_MI
  | 0, I, J, G, pa, pb, y0, y1, y2 => I
  | n + 1, I, J, G, pa, pb, y0, y1, y2 => if (I 6 y0 0) ≤ y2 then I else (if (I 12 y0 y2.toNatClampNeg) = y1 then (fmK_sendHereAllFor_L2_f n (fm_u (fm_u I 11 y0 y2.toNatClampNeg (I 6 y0 0)) 12 y0 y2.toNatClampNeg (-1)) J G pa pb y0 y1 (y2 + 1)) else (fmK_sendHereAllFor_L2_f n I J G pa pb y0 y1 (y2 + 1)))
theorem fmK_sendHereAllFor_L2_e (n : Nat) (I : fm_MI) (J : fm_MJ) (G : fm_MG) (pa : Nat × Nat) (pb : Nat × Nat) (y0 : Nat) (y1 : Int32) (y2 : Int32) : fmK_sendHereAllFor_L2_f (n + 1) I J G pa pb y0 y1 y2 = if (I 6 y0 0) ≤ y2 then I else (if (I 12 y0 y2.toNatClampNeg) = y1 then (fmK_sendHereAllFor_L2_f n (fm_u (fm_u I 11 y0 y2.toNatClampNeg (I 6 y0 0)) 12 y0 y2.toNatClampNeg (-1)) J G pa pb y0 y1 (y2 + 1)) else (fmK_sendHereAllFor_L2_f n I J G pa pb y0 y1 (y2 + 1))) := rfl
def fmK_sendHereAllFor_L2_p : Nat → fm_MI → fm_MJ → fm_MG → (Nat × Nat) → (Nat × Nat) → Nat → Int32 → Int32 → Prop
  | 0, I, J, G, pa, pb, y0, y1, y2 => False
  | n + 1, I, J, G, pa, pb, y0, y1, y2 => ((I 6 y0 0) ≤ y2 → True) ∧ (¬ (I 6 y0 0) ≤ y2 → (vp_in y2 40) ∧ (((I 12 y0 y2.toNatClampNeg) = y1 → (vp_in y2 40) ∧ ((vp_in y2 40) ∧ (fmK_sendHereAllFor_L2_p n (fm_u (fm_u I 11 y0 y2.toNatClampNeg (I 6 y0 0)) 12 y0 y2.toNatClampNeg (-1)) J G pa pb y0 y1 (y2 + 1)))) ∧ (¬ (I 12 y0 y2.toNatClampNeg) = y1 → fmK_sendHereAllFor_L2_p n I J G pa pb y0 y1 (y2 + 1))))
theorem fmK_sendHereAllFor_L2_q (n : Nat) (I : fm_MI) (J : fm_MJ) (G : fm_MG) (pa : Nat × Nat) (pb : Nat × Nat) (y0 : Nat) (y1 : Int32) (y2 : Int32) : fmK_sendHereAllFor_L2_p (n + 1) I J G pa pb y0 y1 y2 = (((I 6 y0 0) ≤ y2 → True) ∧ (¬ (I 6 y0 0) ≤ y2 → (vp_in y2 40) ∧ (((I 12 y0 y2.toNatClampNeg) = y1 → (vp_in y2 40) ∧ ((vp_in y2 40) ∧ (fmK_sendHereAllFor_L2_p n (fm_u (fm_u I 11 y0 y2.toNatClampNeg (I 6 y0 0)) 12 y0 y2.toNatClampNeg (-1)) J G pa pb y0 y1 (y2 + 1)))) ∧ (¬ (I 12 y0 y2.toNatClampNeg) = y1 → fmK_sendHereAllFor_L2_p n I J G pa pb y0 y1 (y2 + 1))))) := rfl
set_option maxRecDepth 100000 in
set_option maxHeartbeats 4000000 in
theorem fmK_sendHereAllFor_L2_c {E : fm_Ev} (hl : E.1.stackTraces = false) {d : Nat} (hd : 0 ≤ d) (n : Nat) : ∀ (I : fm_MI) (J : fm_MJ) (G : fm_MG) (pa : Nat × Nat) (pb : Nat × Nat) (y0 : Nat) (y1 : Int32) (y2 : Int32), fmK_sendHereAllFor_L2_p n I J G pa pb y0 y1 y2 → fm_Go E (d) fmK_sendHereAllFor 0 (2, [(0, .inr (.inr (.inr (.inr (6, y0))))), (1, .inl y1), (2, .inl y2)], [], (I, J, G, fm_P pa pb)) (fm_Zr E none (fmK_sendHereAllFor_L2_f n I J G pa pb y0 y1 y2, J, G, fm_P pa pb)) := by
  have O := fmK_sendHereAllFor_o.1
  induction n with
  | zero => intro I J G pa pb y0 y1 y2 hp; exact hp.elim
  | succ n ih =>
    intro I J G pa pb y0 y1 y2 hp
    rw [fmK_sendHereAllFor_L2_q] at hp
    have he := fmK_sendHereAllFor_L2_e n I J G pa pb y0 y1 y2
    refine fm_gr O 3 (C' := (7, [(0, .inr (.inr (.inr (.inr (6, y0))))), (1, .inl y1), (2, .inl y2)], [.inl (I 6 y0 0), .inl y2], (I, J, G, fm_P pa pb))) rfl ?_
    refine fm_gb O rfl (fun h => ?_) (fun h => ?_)
    · have h1 : (I 6 y0 0) ≤ y2 := h
      have he := he.trans (if_pos h1)
      exact fm_gRe O rfl trivial (by first | (rw [he]; done) | (rw [he]; rfl) | rfl) (by first | (rw [he]; done) | (rw [he]; rfl) | rfl)
    · have h1 : ¬ (I 6 y0 0) ≤ y2 := h
      have he := he.trans (if_neg h1)
      have hp := hp.2 h1
      refine fm_gr O 3 (C' := (15, [(0, .inr (.inr (.inr (.inr (6, y0))))), (1, .inl y1), (2, .inl y2)], [.inl y2, .inr (.inr (.inr (.inr (12, y0))))], (I, J, G, fm_P pa pb))) rfl ?_
      refine fm_gg O rfl hp.1 ?_
      have hp := hp.2
      refine fm_gr O 1 (C' := (17, [(0, .inr (.inr (.inr (.inr (6, y0))))), (1, .inl y1), (2, .inl y2)], [.inl y1, .inl (I 12 y0 y2.toNatClampNeg)], (I, J, G, fm_P pa pb))) rfl ?_
      refine fm_gb O rfl (fun h => ?_) (fun h => ?_)
      · have h2 : (I 12 y0 y2.toNatClampNeg) = y1 := h
        have he := he.trans (if_pos h2)
        have hp := hp.1 h2
        refine fm_gr O 5 (C' := (29, [(0, .inr (.inr (.inr (.inr (6, y0))))), (1, .inl y1), (2, .inl y2)], [.inl (I 6 y0 0), .inl y2, .inr (.inr (.inr (.inr (11, y0))))], (I, J, G, fm_P pa pb))) rfl ?_
        refine fm_gg O rfl hp.1 ?_
        have hp := hp.2
        refine fm_gr O 4 (C' := (36, [(0, .inr (.inr (.inr (.inr (6, y0))))), (1, .inl y1), (2, .inl y2)], [.inl (-1), .inl y2, .inr (.inr (.inr (.inr (12, y0))))], (fm_u I 11 y0 y2.toNatClampNeg (I 6 y0 0), J, G, fm_P pa pb))) rfl ?_
        refine fm_gg O rfl hp.1 ?_
        have hp := hp.2
        refine fm_gr O 2 (C' := (2, [(2, .inl (y2 + 1)), (0, .inr (.inr (.inr (.inr (6, y0))))), (1, .inl y1)], [], (fm_u (fm_u I 11 y0 y2.toNatClampNeg (I 6 y0 0)) 12 y0 y2.toNatClampNeg (-1), J, G, fm_P pa pb))) rfl ?_
        refine fm_gL O [1, 2, 0] rfl ?_
        rw [he]
        exact ih (fm_u (fm_u I 11 y0 y2.toNatClampNeg (I 6 y0 0)) 12 y0 y2.toNatClampNeg (-1)) J G pa pb y0 y1 (y2 + 1) hp
      · have h2 : ¬ (I 12 y0 y2.toNatClampNeg) = y1 := h
        have he := he.trans (if_neg h2)
        have hp := hp.2 h2
        refine fm_gr O 2 (C' := (2, [(2, .inl (y2 + 1)), (0, .inr (.inr (.inr (.inr (6, y0))))), (1, .inl y1)], [], (I, J, G, fm_P pa pb))) rfl ?_
        refine fm_gL O [1, 2, 0] rfl ?_
        rw [he]
        exact ih I J G pa pb y0 y1 (y2 + 1) hp
def fmK_sendHereAllFor_f (I : fm_MI) (J : fm_MJ) (G : fm_MG) (pa : Nat × Nat) (pb : Nat × Nat) (f : Nat) (fr : Int32) : fm_MI :=
  fmK_sendHereAllFor_L2_f 41 I J G pa pb f fr 0
theorem fmK_sendHereAllFor_e (I : fm_MI) (J : fm_MJ) (G : fm_MG) (pa : Nat × Nat) (pb : Nat × Nat) (f : Nat) (fr : Int32) : fmK_sendHereAllFor_f I J G pa pb f fr = fmK_sendHereAllFor_L2_f 41 I J G pa pb f fr 0 := rfl
def fmK_sendHereAllFor_p (I : fm_MI) (J : fm_MJ) (G : fm_MG) (pa : Nat × Nat) (pb : Nat × Nat) (f : Nat) (fr : Int32) : Prop :=
  fmK_sendHereAllFor_L2_p 41 I J G pa pb f fr 0
set_option maxRecDepth 100000 in
set_option maxHeartbeats 4000000 in
theorem fmK_sendHereAllFor_c {E : fm_Ev} (hl : E.1.stackTraces = false) {d : Nat} (hd : 0 ≤ d) (I : fm_MI) (J : fm_MJ) (G : fm_MG) (pa : Nat × Nat) (pb : Nat × Nat) (f : Nat) (fr : Int32) (hp : fmK_sendHereAllFor_p I J G pa pb f fr) : fm_Ct E d fmK_sendHereAllFor 0 [.inr (.inr (.inr (.inr (6, f)))), .inl fr] (I, J, G, fm_P pa pb) none (fmK_sendHereAllFor_f I J G pa pb f fr, J, G, fm_P pa pb) := by
  refine fm_ct fmK_sendHereAllFor_o hl (Nat.le_of_ble_eq_true rfl) ?_
  have O := fmK_sendHereAllFor_o.1
  unfold fmK_sendHereAllFor_p at hp
  have he := fmK_sendHereAllFor_e I J G pa pb f fr
  refine fm_gr O 2 (C' := (2, [(2, .inl 0), (0, .inr (.inr (.inr (.inr (6, f))))), (1, .inl fr)], [], (I, J, G, fm_P pa pb))) rfl ?_
  refine fm_gL O [1, 2, 0] rfl ?_
  rw [he]
  exact fmK_sendHereAllFor_L2_c hl hd 41 I J G pa pb f fr 0 hp
def fmC_isAsSaid_f (I : fm_MI) (op : Int32) (aa : Int32) : Int32 :=
  if op = 4 then (fm_let (fmF_isWithin_f aa ((I 2 ((I 13 0 1).toNatClampNeg) 2) - 1)) (fun (r1 : Int32) => r1)) else (if op = 5 then (fm_let (fmF_isWithin_f aa ((I 2 ((I 13 0 1).toNatClampNeg) 2) - 1)) (fun (r2 : Int32) => r2)) else (if op = 6 then (fm_let (fmF_isWithin_f aa ((I 2 ((I 13 0 1).toNatClampNeg) 2) - 1)) (fun (r3 : Int32) => r3)) else (if op = 7 then (fm_let (fmF_isWithin_f aa 3) (fun (r4 : Int32) => r4)) else (if op = 8 then (fm_let (fmF_isWithin_f aa 3) (fun (r5 : Int32) => r5)) else (if op = 9 then 1 else (if op = 10 then 1 else (if op = 11 then (fm_let (fmF_isWithin_f aa 3) (fun (r6 : Int32) => r6)) else (if op = 12 then (fm_let (fmF_isWithin_f aa 3) (fun (r7 : Int32) => r7)) else (if op = 13 then (fm_let (fmF_isWithin_f aa 3) (fun (r8 : Int32) => r8)) else (if op = 14 then (fm_let (fmF_isWithin_f aa 3) (fun (r9 : Int32) => r9)) else (if op = 15 then (fm_let (fmF_isWithin_f aa 1) (fun (r10 : Int32) => r10)) else (if op = 16 then (fm_let (fmF_isWithin_f aa 1) (fun (r11 : Int32) => r11)) else (if op = 17 then (fm_let (fmF_isWithin_f aa 1) (fun (r12 : Int32) => r12)) else (if op = 18 then (fm_let (fmF_isWithin_f aa 3) (fun (r13 : Int32) => r13)) else (if op = 19 then (fm_let (fmF_isWithin_f aa 3) (fun (r14 : Int32) => r14)) else (if op = 20 then (fm_let (fmF_isWithin_f aa 15) (fun (r15 : Int32) => r15)) else (if op = 21 then (fm_let (fmF_isWithin_f aa 4) (fun (r16 : Int32) => r16)) else (if op = 22 then (fm_let (fmF_isWithin_f aa 4) (fun (r17 : Int32) => r17)) else (if op = 23 then (fm_let (fmF_isWithin_f aa 4) (fun (r18 : Int32) => r18)) else (if op = 24 then 1 else (if op = 25 then 1 else (if op = 26 then (fm_let (fmF_isWithin_f aa (I 13 0 6)) (fun (r19 : Int32) => r19)) else (if op = 27 then (fm_let (fmF_isWithin_f aa (I 13 0 6)) (fun (r20 : Int32) => r20)) else (if op = 28 then 1 else (if op = 29 then (fm_let (fmF_isWithin_f aa ((Int32.ofNat 4) - 1)) (fun (r21 : Int32) => if r21 = 0 then 0 else (if (I 2 aa.toNatClampNeg 0) = 0 then 0 else 1))) else 1)))))))))))))))))))))))))
theorem fmC_isAsSaid_e (I : fm_MI) (op : Int32) (aa : Int32) : fmC_isAsSaid_f I op aa = if op = 4 then (fm_let (fmF_isWithin_f aa ((I 2 ((I 13 0 1).toNatClampNeg) 2) - 1)) (fun (r1 : Int32) => r1)) else (if op = 5 then (fm_let (fmF_isWithin_f aa ((I 2 ((I 13 0 1).toNatClampNeg) 2) - 1)) (fun (r2 : Int32) => r2)) else (if op = 6 then (fm_let (fmF_isWithin_f aa ((I 2 ((I 13 0 1).toNatClampNeg) 2) - 1)) (fun (r3 : Int32) => r3)) else (if op = 7 then (fm_let (fmF_isWithin_f aa 3) (fun (r4 : Int32) => r4)) else (if op = 8 then (fm_let (fmF_isWithin_f aa 3) (fun (r5 : Int32) => r5)) else (if op = 9 then 1 else (if op = 10 then 1 else (if op = 11 then (fm_let (fmF_isWithin_f aa 3) (fun (r6 : Int32) => r6)) else (if op = 12 then (fm_let (fmF_isWithin_f aa 3) (fun (r7 : Int32) => r7)) else (if op = 13 then (fm_let (fmF_isWithin_f aa 3) (fun (r8 : Int32) => r8)) else (if op = 14 then (fm_let (fmF_isWithin_f aa 3) (fun (r9 : Int32) => r9)) else (if op = 15 then (fm_let (fmF_isWithin_f aa 1) (fun (r10 : Int32) => r10)) else (if op = 16 then (fm_let (fmF_isWithin_f aa 1) (fun (r11 : Int32) => r11)) else (if op = 17 then (fm_let (fmF_isWithin_f aa 1) (fun (r12 : Int32) => r12)) else (if op = 18 then (fm_let (fmF_isWithin_f aa 3) (fun (r13 : Int32) => r13)) else (if op = 19 then (fm_let (fmF_isWithin_f aa 3) (fun (r14 : Int32) => r14)) else (if op = 20 then (fm_let (fmF_isWithin_f aa 15) (fun (r15 : Int32) => r15)) else (if op = 21 then (fm_let (fmF_isWithin_f aa 4) (fun (r16 : Int32) => r16)) else (if op = 22 then (fm_let (fmF_isWithin_f aa 4) (fun (r17 : Int32) => r17)) else (if op = 23 then (fm_let (fmF_isWithin_f aa 4) (fun (r18 : Int32) => r18)) else (if op = 24 then 1 else (if op = 25 then 1 else (if op = 26 then (fm_let (fmF_isWithin_f aa (I 13 0 6)) (fun (r19 : Int32) => r19)) else (if op = 27 then (fm_let (fmF_isWithin_f aa (I 13 0 6)) (fun (r20 : Int32) => r20)) else (if op = 28 then 1 else (if op = 29 then (fm_let (fmF_isWithin_f aa ((Int32.ofNat 4) - 1)) (fun (r21 : Int32) => if r21 = 0 then 0 else (if (I 2 aa.toNatClampNeg 0) = 0 then 0 else 1))) else 1))))))))))))))))))))))))) := rfl
def fmC_isAsSaid_p (I : fm_MI) (op : Int32) (aa : Int32) : Prop :=
  (op = 4 → fmC_subject_p I ∧ (fm_let (fmF_isWithin_f aa ((I 2 ((I 13 0 1).toNatClampNeg) 2) - 1)) (fun (r1 : Int32) => r1 = 0 ∨ r1 = 1))) ∧ (¬ op = 4 → (op = 5 → fmC_subject_p I ∧ (fm_let (fmF_isWithin_f aa ((I 2 ((I 13 0 1).toNatClampNeg) 2) - 1)) (fun (r2 : Int32) => r2 = 0 ∨ r2 = 1))) ∧ (¬ op = 5 → (op = 6 → fmC_subject_p I ∧ (fm_let (fmF_isWithin_f aa ((I 2 ((I 13 0 1).toNatClampNeg) 2) - 1)) (fun (r3 : Int32) => r3 = 0 ∨ r3 = 1))) ∧ (¬ op = 6 → (op = 7 → fm_let (fmF_isWithin_f aa 3) (fun (r4 : Int32) => r4 = 0 ∨ r4 = 1)) ∧ (¬ op = 7 → (op = 8 → fm_let (fmF_isWithin_f aa 3) (fun (r5 : Int32) => r5 = 0 ∨ r5 = 1)) ∧ (¬ op = 8 → (op = 9 → True) ∧ (¬ op = 9 → (op = 10 → True) ∧ (¬ op = 10 → (op = 11 → fm_let (fmF_isWithin_f aa 3) (fun (r6 : Int32) => r6 = 0 ∨ r6 = 1)) ∧ (¬ op = 11 → (op = 12 → fm_let (fmF_isWithin_f aa 3) (fun (r7 : Int32) => r7 = 0 ∨ r7 = 1)) ∧ (¬ op = 12 → (op = 13 → fm_let (fmF_isWithin_f aa 3) (fun (r8 : Int32) => r8 = 0 ∨ r8 = 1)) ∧ (¬ op = 13 → (op = 14 → fm_let (fmF_isWithin_f aa 3) (fun (r9 : Int32) => r9 = 0 ∨ r9 = 1)) ∧ (¬ op = 14 → (op = 15 → fm_let (fmF_isWithin_f aa 1) (fun (r10 : Int32) => r10 = 0 ∨ r10 = 1)) ∧ (¬ op = 15 → (op = 16 → fm_let (fmF_isWithin_f aa 1) (fun (r11 : Int32) => r11 = 0 ∨ r11 = 1)) ∧ (¬ op = 16 → (op = 17 → fm_let (fmF_isWithin_f aa 1) (fun (r12 : Int32) => r12 = 0 ∨ r12 = 1)) ∧ (¬ op = 17 → (op = 18 → fm_let (fmF_isWithin_f aa 3) (fun (r13 : Int32) => r13 = 0 ∨ r13 = 1)) ∧ (¬ op = 18 → (op = 19 → fm_let (fmF_isWithin_f aa 3) (fun (r14 : Int32) => r14 = 0 ∨ r14 = 1)) ∧ (¬ op = 19 → (op = 20 → fm_let (fmF_isWithin_f aa 15) (fun (r15 : Int32) => r15 = 0 ∨ r15 = 1)) ∧ (¬ op = 20 → (op = 21 → fm_let (fmF_isWithin_f aa 4) (fun (r16 : Int32) => r16 = 0 ∨ r16 = 1)) ∧ (¬ op = 21 → (op = 22 → fm_let (fmF_isWithin_f aa 4) (fun (r17 : Int32) => r17 = 0 ∨ r17 = 1)) ∧ (¬ op = 22 → (op = 23 → fm_let (fmF_isWithin_f aa 4) (fun (r18 : Int32) => r18 = 0 ∨ r18 = 1)) ∧ (¬ op = 23 → (op = 24 → True) ∧ (¬ op = 24 → (op = 25 → True) ∧ (¬ op = 25 → (op = 26 → fm_let (fmF_isWithin_f aa (I 13 0 6)) (fun (r19 : Int32) => r19 = 0 ∨ r19 = 1)) ∧ (¬ op = 26 → (op = 27 → fm_let (fmF_isWithin_f aa (I 13 0 6)) (fun (r20 : Int32) => r20 = 0 ∨ r20 = 1)) ∧ (¬ op = 27 → (op = 28 → True) ∧ (¬ op = 28 → (op = 29 → fm_let (fmF_isWithin_f aa ((Int32.ofNat 4) - 1)) (fun (r21 : Int32) => (r21 = 0 → True) ∧ (¬ r21 = 0 → vp_in aa 4))) ∧ (¬ op = 29 → True))))))))))))))))))))))))))
set_option maxRecDepth 100000 in
set_option maxHeartbeats 4000000 in
theorem fmC_isAsSaid_c {E : fm_Ev} (hl : E.1.stackTraces = false) {d : Nat} (hd : 1 ≤ d) (I : fm_MI) (J : fm_MJ) (G : fm_MG) (pb : Nat × Nat) (op : Int32) (aa : Int32) (hp : fmC_isAsSaid_p I op aa) : fm_Ct E d fmC_isAsSaid 0 [.inr (.inr (.inr (.inr (13, 0)))), .inl op, .inl aa] (I, J, G, fm_P (1, 0) pb) (some (.inl (fmC_isAsSaid_f I op aa))) (I, J, G, fm_P (1, 0) pb) := by
  obtain ⟨d, rfl⟩ : ∃ d', d = d' + 1 := ⟨d - 1, by omega⟩
  refine fm_ct fmC_isAsSaid_o hl (Nat.le_of_ble_eq_true rfl) ?_
  have O := fmC_isAsSaid_o.1
  unfold fmC_isAsSaid_p at hp
  have he := fmC_isAsSaid_e I op aa
  refine fm_gr O 1 (C' := (1, [(0, .inr (.inr (.inr (.inr (13, 0))))), (1, .inl op), (2, .inl aa)], [.inl op], (I, J, G, fm_P (1, 0) pb))) rfl ?_
  by_cases h1 : op = 4
  · have he := he.trans (if_pos h1)
    have hp := hp.1 h1
    refine fm_gs O 4 rfl (show op.toInt = 4 from by rw [h1]; decide) ?_
    refine fm_gr O 2 (C' := (122, [(0, .inr (.inr (.inr (.inr (13, 0))))), (1, .inl op), (2, .inl aa)], [.inr (.inr (.inr (.inr (13, 0)))), .inl aa], (I, J, G, fm_P (1, 0) pb))) rfl ?_
    have hc := hp.1
    have hp := hp.2
    have K := fmC_subject_c (d := d) hl (by omega) I J G pb hc
    refine fm_cV0 O fmC_subject_o (i := 0) (as := []) (rest := [.inl aa]) (v := some (.inr (.inr (.inr (.inr (2, (I 13 0 1).toNatClampNeg)))))) rfl fk_1_41 rfl (by decide) fn_C_subject (Nat.le_of_ble_eq_true rfl) (K) ?_
    refine fm_gr O 3 (C' := (130, [(0, .inr (.inr (.inr (.inr (13, 0))))), (1, .inl op), (2, .inl aa)], [.inl ((I 2 ((I 13 0 1).toNatClampNeg) 2) - 1), .inl aa], (I, J, G, fm_P (1, 0) pb))) rfl ?_
    have K := fmF_isWithin_c (d := d) hl (by omega) I J G ((1, 0)) pb aa ((I 2 ((I 13 0 1).toNatClampNeg) 2) - 1)
    generalize er1 : fmF_isWithin_f aa ((I 2 ((I 13 0 1).toNatClampNeg) 2) - 1) = r1 at he hp
    have he := he.trans (fm_letE _ _)
    have hp := fm_letP hp
    rw [er1] at K
    refine fm_cN0 O fmF_isWithin_o (as := [.inl aa, .inl ((I 2 ((I 13 0 1).toNatClampNeg) 2) - 1)]) (rest := []) (v := some (.inl r1)) rfl rfl rfl fn_F_isWithin0 fn_F_isWithin (Nat.le_of_ble_eq_true rfl) (K) ?_
    exact fm_gRe O rfl hp (by first | (rw [he]; done) | (rw [he]; rfl) | rfl) (by first | (rw [he]; done) | (rw [he]; rfl) | rfl)
  · have he := he.trans (if_neg h1)
    have hp := hp.2 h1
    by_cases h2 : op = 5
    · have he := he.trans (if_pos h2)
      have hp := hp.1 h2
      refine fm_gs O 5 rfl (show op.toInt = 5 from by rw [h2]; decide) ?_
      refine fm_gr O 2 (C' := (122, [(0, .inr (.inr (.inr (.inr (13, 0))))), (1, .inl op), (2, .inl aa)], [.inr (.inr (.inr (.inr (13, 0)))), .inl aa], (I, J, G, fm_P (1, 0) pb))) rfl ?_
      have hc := hp.1
      have hp := hp.2
      have K := fmC_subject_c (d := d) hl (by omega) I J G pb hc
      refine fm_cV0 O fmC_subject_o (i := 0) (as := []) (rest := [.inl aa]) (v := some (.inr (.inr (.inr (.inr (2, (I 13 0 1).toNatClampNeg)))))) rfl fk_1_41 rfl (by decide) fn_C_subject (Nat.le_of_ble_eq_true rfl) (K) ?_
      refine fm_gr O 3 (C' := (130, [(0, .inr (.inr (.inr (.inr (13, 0))))), (1, .inl op), (2, .inl aa)], [.inl ((I 2 ((I 13 0 1).toNatClampNeg) 2) - 1), .inl aa], (I, J, G, fm_P (1, 0) pb))) rfl ?_
      have K := fmF_isWithin_c (d := d) hl (by omega) I J G ((1, 0)) pb aa ((I 2 ((I 13 0 1).toNatClampNeg) 2) - 1)
      generalize er2 : fmF_isWithin_f aa ((I 2 ((I 13 0 1).toNatClampNeg) 2) - 1) = r2 at he hp
      have he := he.trans (fm_letE _ _)
      have hp := fm_letP hp
      rw [er2] at K
      refine fm_cN0 O fmF_isWithin_o (as := [.inl aa, .inl ((I 2 ((I 13 0 1).toNatClampNeg) 2) - 1)]) (rest := []) (v := some (.inl r2)) rfl rfl rfl fn_F_isWithin0 fn_F_isWithin (Nat.le_of_ble_eq_true rfl) (K) ?_
      exact fm_gRe O rfl hp (by first | (rw [he]; done) | (rw [he]; rfl) | rfl) (by first | (rw [he]; done) | (rw [he]; rfl) | rfl)
    · have he := he.trans (if_neg h2)
      have hp := hp.2 h2
      by_cases h3 : op = 6
      · have he := he.trans (if_pos h3)
        have hp := hp.1 h3
        refine fm_gs O 6 rfl (show op.toInt = 6 from by rw [h3]; decide) ?_
        refine fm_gr O 2 (C' := (122, [(0, .inr (.inr (.inr (.inr (13, 0))))), (1, .inl op), (2, .inl aa)], [.inr (.inr (.inr (.inr (13, 0)))), .inl aa], (I, J, G, fm_P (1, 0) pb))) rfl ?_
        have hc := hp.1
        have hp := hp.2
        have K := fmC_subject_c (d := d) hl (by omega) I J G pb hc
        refine fm_cV0 O fmC_subject_o (i := 0) (as := []) (rest := [.inl aa]) (v := some (.inr (.inr (.inr (.inr (2, (I 13 0 1).toNatClampNeg)))))) rfl fk_1_41 rfl (by decide) fn_C_subject (Nat.le_of_ble_eq_true rfl) (K) ?_
        refine fm_gr O 3 (C' := (130, [(0, .inr (.inr (.inr (.inr (13, 0))))), (1, .inl op), (2, .inl aa)], [.inl ((I 2 ((I 13 0 1).toNatClampNeg) 2) - 1), .inl aa], (I, J, G, fm_P (1, 0) pb))) rfl ?_
        have K := fmF_isWithin_c (d := d) hl (by omega) I J G ((1, 0)) pb aa ((I 2 ((I 13 0 1).toNatClampNeg) 2) - 1)
        generalize er3 : fmF_isWithin_f aa ((I 2 ((I 13 0 1).toNatClampNeg) 2) - 1) = r3 at he hp
        have he := he.trans (fm_letE _ _)
        have hp := fm_letP hp
        rw [er3] at K
        refine fm_cN0 O fmF_isWithin_o (as := [.inl aa, .inl ((I 2 ((I 13 0 1).toNatClampNeg) 2) - 1)]) (rest := []) (v := some (.inl r3)) rfl rfl rfl fn_F_isWithin0 fn_F_isWithin (Nat.le_of_ble_eq_true rfl) (K) ?_
        exact fm_gRe O rfl hp (by first | (rw [he]; done) | (rw [he]; rfl) | rfl) (by first | (rw [he]; done) | (rw [he]; rfl) | rfl)
      · have he := he.trans (if_neg h3)
        have hp := hp.2 h3
        by_cases h4 : op = 7
        · have he := he.trans (if_pos h4)
          have hp := hp.1 h4
          refine fm_gs O 7 rfl (show op.toInt = 7 from by rw [h4]; decide) ?_
          refine fm_gr O 2 (C' := (136, [(0, .inr (.inr (.inr (.inr (13, 0))))), (1, .inl op), (2, .inl aa)], [.inl 3, .inl aa], (I, J, G, fm_P (1, 0) pb))) rfl ?_
          have K := fmF_isWithin_c (d := d) hl (by omega) I J G ((1, 0)) pb aa 3
          generalize er4 : fmF_isWithin_f aa 3 = r4 at he hp
          have he := he.trans (fm_letE _ _)
          have hp := fm_letP hp
          rw [er4] at K
          refine fm_cN0 O fmF_isWithin_o (as := [.inl aa, .inl 3]) (rest := []) (v := some (.inl r4)) rfl rfl rfl fn_F_isWithin0 fn_F_isWithin (Nat.le_of_ble_eq_true rfl) (K) ?_
          exact fm_gRe O rfl hp (by first | (rw [he]; done) | (rw [he]; rfl) | rfl) (by first | (rw [he]; done) | (rw [he]; rfl) | rfl)
        · have he := he.trans (if_neg h4)
          have hp := hp.2 h4
          by_cases h5 : op = 8
          · have he := he.trans (if_pos h5)
            have hp := hp.1 h5
            refine fm_gs O 8 rfl (show op.toInt = 8 from by rw [h5]; decide) ?_
            refine fm_gr O 2 (C' := (136, [(0, .inr (.inr (.inr (.inr (13, 0))))), (1, .inl op), (2, .inl aa)], [.inl 3, .inl aa], (I, J, G, fm_P (1, 0) pb))) rfl ?_
            have K := fmF_isWithin_c (d := d) hl (by omega) I J G ((1, 0)) pb aa 3
            generalize er5 : fmF_isWithin_f aa 3 = r5 at he hp
            have he := he.trans (fm_letE _ _)
            have hp := fm_letP hp
            rw [er5] at K
            refine fm_cN0 O fmF_isWithin_o (as := [.inl aa, .inl 3]) (rest := []) (v := some (.inl r5)) rfl rfl rfl fn_F_isWithin0 fn_F_isWithin (Nat.le_of_ble_eq_true rfl) (K) ?_
            exact fm_gRe O rfl hp (by first | (rw [he]; done) | (rw [he]; rfl) | rfl) (by first | (rw [he]; done) | (rw [he]; rfl) | rfl)
          · have he := he.trans (if_neg h5)
            have hp := hp.2 h5
            by_cases h6 : op = 9
            · have he := he.trans (if_pos h6)
              refine fm_gs O 9 rfl (show op.toInt = 9 from by rw [h6]; decide) ?_
              refine fm_gr O 1 (C' := (207, [(0, .inr (.inr (.inr (.inr (13, 0))))), (1, .inl op), (2, .inl aa)], [.inl 1], (I, J, G, fm_P (1, 0) pb))) rfl ?_
              exact fm_gRe O rfl (Or.inr rfl) (by first | (rw [he]; done) | (rw [he]; rfl) | rfl) (by first | (rw [he]; done) | (rw [he]; rfl) | rfl)
            · have he := he.trans (if_neg h6)
              have hp := hp.2 h6
              by_cases h7 : op = 10
              · have he := he.trans (if_pos h7)
                refine fm_gs O 10 rfl (show op.toInt = 10 from by rw [h7]; decide) ?_
                refine fm_gr O 1 (C' := (207, [(0, .inr (.inr (.inr (.inr (13, 0))))), (1, .inl op), (2, .inl aa)], [.inl 1], (I, J, G, fm_P (1, 0) pb))) rfl ?_
                exact fm_gRe O rfl (Or.inr rfl) (by first | (rw [he]; done) | (rw [he]; rfl) | rfl) (by first | (rw [he]; done) | (rw [he]; rfl) | rfl)
              · have he := he.trans (if_neg h7)
                have hp := hp.2 h7
                by_cases h8 : op = 11
                · have he := he.trans (if_pos h8)
                  have hp := hp.1 h8
                  refine fm_gs O 11 rfl (show op.toInt = 11 from by rw [h8]; decide) ?_
                  refine fm_gr O 2 (C' := (142, [(0, .inr (.inr (.inr (.inr (13, 0))))), (1, .inl op), (2, .inl aa)], [.inl 3, .inl aa], (I, J, G, fm_P (1, 0) pb))) rfl ?_
                  have K := fmF_isWithin_c (d := d) hl (by omega) I J G ((1, 0)) pb aa 3
                  generalize er6 : fmF_isWithin_f aa 3 = r6 at he hp
                  have he := he.trans (fm_letE _ _)
                  have hp := fm_letP hp
                  rw [er6] at K
                  refine fm_cN0 O fmF_isWithin_o (as := [.inl aa, .inl 3]) (rest := []) (v := some (.inl r6)) rfl rfl rfl fn_F_isWithin0 fn_F_isWithin (Nat.le_of_ble_eq_true rfl) (K) ?_
                  exact fm_gRe O rfl hp (by first | (rw [he]; done) | (rw [he]; rfl) | rfl) (by first | (rw [he]; done) | (rw [he]; rfl) | rfl)
                · have he := he.trans (if_neg h8)
                  have hp := hp.2 h8
                  by_cases h9 : op = 12
                  · have he := he.trans (if_pos h9)
                    have hp := hp.1 h9
                    refine fm_gs O 12 rfl (show op.toInt = 12 from by rw [h9]; decide) ?_
                    refine fm_gr O 2 (C' := (142, [(0, .inr (.inr (.inr (.inr (13, 0))))), (1, .inl op), (2, .inl aa)], [.inl 3, .inl aa], (I, J, G, fm_P (1, 0) pb))) rfl ?_
                    have K := fmF_isWithin_c (d := d) hl (by omega) I J G ((1, 0)) pb aa 3
                    generalize er7 : fmF_isWithin_f aa 3 = r7 at he hp
                    have he := he.trans (fm_letE _ _)
                    have hp := fm_letP hp
                    rw [er7] at K
                    refine fm_cN0 O fmF_isWithin_o (as := [.inl aa, .inl 3]) (rest := []) (v := some (.inl r7)) rfl rfl rfl fn_F_isWithin0 fn_F_isWithin (Nat.le_of_ble_eq_true rfl) (K) ?_
                    exact fm_gRe O rfl hp (by first | (rw [he]; done) | (rw [he]; rfl) | rfl) (by first | (rw [he]; done) | (rw [he]; rfl) | rfl)
                  · have he := he.trans (if_neg h9)
                    have hp := hp.2 h9
                    by_cases h10 : op = 13
                    · have he := he.trans (if_pos h10)
                      have hp := hp.1 h10
                      refine fm_gs O 13 rfl (show op.toInt = 13 from by rw [h10]; decide) ?_
                      refine fm_gr O 2 (C' := (142, [(0, .inr (.inr (.inr (.inr (13, 0))))), (1, .inl op), (2, .inl aa)], [.inl 3, .inl aa], (I, J, G, fm_P (1, 0) pb))) rfl ?_
                      have K := fmF_isWithin_c (d := d) hl (by omega) I J G ((1, 0)) pb aa 3
                      generalize er8 : fmF_isWithin_f aa 3 = r8 at he hp
                      have he := he.trans (fm_letE _ _)
                      have hp := fm_letP hp
                      rw [er8] at K
                      refine fm_cN0 O fmF_isWithin_o (as := [.inl aa, .inl 3]) (rest := []) (v := some (.inl r8)) rfl rfl rfl fn_F_isWithin0 fn_F_isWithin (Nat.le_of_ble_eq_true rfl) (K) ?_
                      exact fm_gRe O rfl hp (by first | (rw [he]; done) | (rw [he]; rfl) | rfl) (by first | (rw [he]; done) | (rw [he]; rfl) | rfl)
                    · have he := he.trans (if_neg h10)
                      have hp := hp.2 h10
                      by_cases h11 : op = 14
                      · have he := he.trans (if_pos h11)
                        have hp := hp.1 h11
                        refine fm_gs O 14 rfl (show op.toInt = 14 from by rw [h11]; decide) ?_
                        refine fm_gr O 2 (C' := (142, [(0, .inr (.inr (.inr (.inr (13, 0))))), (1, .inl op), (2, .inl aa)], [.inl 3, .inl aa], (I, J, G, fm_P (1, 0) pb))) rfl ?_
                        have K := fmF_isWithin_c (d := d) hl (by omega) I J G ((1, 0)) pb aa 3
                        generalize er9 : fmF_isWithin_f aa 3 = r9 at he hp
                        have he := he.trans (fm_letE _ _)
                        have hp := fm_letP hp
                        rw [er9] at K
                        refine fm_cN0 O fmF_isWithin_o (as := [.inl aa, .inl 3]) (rest := []) (v := some (.inl r9)) rfl rfl rfl fn_F_isWithin0 fn_F_isWithin (Nat.le_of_ble_eq_true rfl) (K) ?_
                        exact fm_gRe O rfl hp (by first | (rw [he]; done) | (rw [he]; rfl) | rfl) (by first | (rw [he]; done) | (rw [he]; rfl) | rfl)
                      · have he := he.trans (if_neg h11)
                        have hp := hp.2 h11
                        by_cases h12 : op = 15
                        · have he := he.trans (if_pos h12)
                          have hp := hp.1 h12
                          refine fm_gs O 15 rfl (show op.toInt = 15 from by rw [h12]; decide) ?_
                          refine fm_gr O 2 (C' := (148, [(0, .inr (.inr (.inr (.inr (13, 0))))), (1, .inl op), (2, .inl aa)], [.inl 1, .inl aa], (I, J, G, fm_P (1, 0) pb))) rfl ?_
                          have K := fmF_isWithin_c (d := d) hl (by omega) I J G ((1, 0)) pb aa 1
                          generalize er10 : fmF_isWithin_f aa 1 = r10 at he hp
                          have he := he.trans (fm_letE _ _)
                          have hp := fm_letP hp
                          rw [er10] at K
                          refine fm_cN0 O fmF_isWithin_o (as := [.inl aa, .inl 1]) (rest := []) (v := some (.inl r10)) rfl rfl rfl fn_F_isWithin0 fn_F_isWithin (Nat.le_of_ble_eq_true rfl) (K) ?_
                          exact fm_gRe O rfl hp (by first | (rw [he]; done) | (rw [he]; rfl) | rfl) (by first | (rw [he]; done) | (rw [he]; rfl) | rfl)
                        · have he := he.trans (if_neg h12)
                          have hp := hp.2 h12
                          by_cases h13 : op = 16
                          · have he := he.trans (if_pos h13)
                            have hp := hp.1 h13
                            refine fm_gs O 16 rfl (show op.toInt = 16 from by rw [h13]; decide) ?_
                            refine fm_gr O 2 (C' := (148, [(0, .inr (.inr (.inr (.inr (13, 0))))), (1, .inl op), (2, .inl aa)], [.inl 1, .inl aa], (I, J, G, fm_P (1, 0) pb))) rfl ?_
                            have K := fmF_isWithin_c (d := d) hl (by omega) I J G ((1, 0)) pb aa 1
                            generalize er11 : fmF_isWithin_f aa 1 = r11 at he hp
                            have he := he.trans (fm_letE _ _)
                            have hp := fm_letP hp
                            rw [er11] at K
                            refine fm_cN0 O fmF_isWithin_o (as := [.inl aa, .inl 1]) (rest := []) (v := some (.inl r11)) rfl rfl rfl fn_F_isWithin0 fn_F_isWithin (Nat.le_of_ble_eq_true rfl) (K) ?_
                            exact fm_gRe O rfl hp (by first | (rw [he]; done) | (rw [he]; rfl) | rfl) (by first | (rw [he]; done) | (rw [he]; rfl) | rfl)
                          · have he := he.trans (if_neg h13)
                            have hp := hp.2 h13
                            by_cases h14 : op = 17
                            · have he := he.trans (if_pos h14)
                              have hp := hp.1 h14
                              refine fm_gs O 17 rfl (show op.toInt = 17 from by rw [h14]; decide) ?_
                              refine fm_gr O 2 (C' := (148, [(0, .inr (.inr (.inr (.inr (13, 0))))), (1, .inl op), (2, .inl aa)], [.inl 1, .inl aa], (I, J, G, fm_P (1, 0) pb))) rfl ?_
                              have K := fmF_isWithin_c (d := d) hl (by omega) I J G ((1, 0)) pb aa 1
                              generalize er12 : fmF_isWithin_f aa 1 = r12 at he hp
                              have he := he.trans (fm_letE _ _)
                              have hp := fm_letP hp
                              rw [er12] at K
                              refine fm_cN0 O fmF_isWithin_o (as := [.inl aa, .inl 1]) (rest := []) (v := some (.inl r12)) rfl rfl rfl fn_F_isWithin0 fn_F_isWithin (Nat.le_of_ble_eq_true rfl) (K) ?_
                              exact fm_gRe O rfl hp (by first | (rw [he]; done) | (rw [he]; rfl) | rfl) (by first | (rw [he]; done) | (rw [he]; rfl) | rfl)
                            · have he := he.trans (if_neg h14)
                              have hp := hp.2 h14
                              by_cases h15 : op = 18
                              · have he := he.trans (if_pos h15)
                                have hp := hp.1 h15
                                refine fm_gs O 18 rfl (show op.toInt = 18 from by rw [h15]; decide) ?_
                                refine fm_gr O 2 (C' := (142, [(0, .inr (.inr (.inr (.inr (13, 0))))), (1, .inl op), (2, .inl aa)], [.inl 3, .inl aa], (I, J, G, fm_P (1, 0) pb))) rfl ?_
                                have K := fmF_isWithin_c (d := d) hl (by omega) I J G ((1, 0)) pb aa 3
                                generalize er13 : fmF_isWithin_f aa 3 = r13 at he hp
                                have he := he.trans (fm_letE _ _)
                                have hp := fm_letP hp
                                rw [er13] at K
                                refine fm_cN0 O fmF_isWithin_o (as := [.inl aa, .inl 3]) (rest := []) (v := some (.inl r13)) rfl rfl rfl fn_F_isWithin0 fn_F_isWithin (Nat.le_of_ble_eq_true rfl) (K) ?_
                                exact fm_gRe O rfl hp (by first | (rw [he]; done) | (rw [he]; rfl) | rfl) (by first | (rw [he]; done) | (rw [he]; rfl) | rfl)
                              · have he := he.trans (if_neg h15)
                                have hp := hp.2 h15
                                by_cases h16 : op = 19
                                · have he := he.trans (if_pos h16)
                                  have hp := hp.1 h16
                                  refine fm_gs O 19 rfl (show op.toInt = 19 from by rw [h16]; decide) ?_
                                  refine fm_gr O 2 (C' := (142, [(0, .inr (.inr (.inr (.inr (13, 0))))), (1, .inl op), (2, .inl aa)], [.inl 3, .inl aa], (I, J, G, fm_P (1, 0) pb))) rfl ?_
                                  have K := fmF_isWithin_c (d := d) hl (by omega) I J G ((1, 0)) pb aa 3
                                  generalize er14 : fmF_isWithin_f aa 3 = r14 at he hp
                                  have he := he.trans (fm_letE _ _)
                                  have hp := fm_letP hp
                                  rw [er14] at K
                                  refine fm_cN0 O fmF_isWithin_o (as := [.inl aa, .inl 3]) (rest := []) (v := some (.inl r14)) rfl rfl rfl fn_F_isWithin0 fn_F_isWithin (Nat.le_of_ble_eq_true rfl) (K) ?_
                                  exact fm_gRe O rfl hp (by first | (rw [he]; done) | (rw [he]; rfl) | rfl) (by first | (rw [he]; done) | (rw [he]; rfl) | rfl)
                                · have he := he.trans (if_neg h16)
                                  have hp := hp.2 h16
                                  by_cases h17 : op = 20
                                  · have he := he.trans (if_pos h17)
                                    have hp := hp.1 h17
                                    refine fm_gs O 20 rfl (show op.toInt = 20 from by rw [h17]; decide) ?_
                                    refine fm_gr O 2 (C' := (155, [(0, .inr (.inr (.inr (.inr (13, 0))))), (1, .inl op), (2, .inl aa)], [.inl 15, .inl aa], (I, J, G, fm_P (1, 0) pb))) rfl ?_
                                    have K := fmF_isWithin_c (d := d) hl (by omega) I J G ((1, 0)) pb aa 15
                                    generalize er15 : fmF_isWithin_f aa 15 = r15 at he hp
                                    have he := he.trans (fm_letE _ _)
                                    have hp := fm_letP hp
                                    rw [er15] at K
                                    refine fm_cN0 O fmF_isWithin_o (as := [.inl aa, .inl 15]) (rest := []) (v := some (.inl r15)) rfl rfl rfl fn_F_isWithin0 fn_F_isWithin (Nat.le_of_ble_eq_true rfl) (K) ?_
                                    exact fm_gRe O rfl hp (by first | (rw [he]; done) | (rw [he]; rfl) | rfl) (by first | (rw [he]; done) | (rw [he]; rfl) | rfl)
                                  · have he := he.trans (if_neg h17)
                                    have hp := hp.2 h17
                                    by_cases h18 : op = 21
                                    · have he := he.trans (if_pos h18)
                                      have hp := hp.1 h18
                                      refine fm_gs O 21 rfl (show op.toInt = 21 from by rw [h18]; decide) ?_
                                      refine fm_gr O 2 (C' := (161, [(0, .inr (.inr (.inr (.inr (13, 0))))), (1, .inl op), (2, .inl aa)], [.inl 4, .inl aa], (I, J, G, fm_P (1, 0) pb))) rfl ?_
                                      have K := fmF_isWithin_c (d := d) hl (by omega) I J G ((1, 0)) pb aa 4
                                      generalize er16 : fmF_isWithin_f aa 4 = r16 at he hp
                                      have he := he.trans (fm_letE _ _)
                                      have hp := fm_letP hp
                                      rw [er16] at K
                                      refine fm_cN0 O fmF_isWithin_o (as := [.inl aa, .inl 4]) (rest := []) (v := some (.inl r16)) rfl rfl rfl fn_F_isWithin0 fn_F_isWithin (Nat.le_of_ble_eq_true rfl) (K) ?_
                                      exact fm_gRe O rfl hp (by first | (rw [he]; done) | (rw [he]; rfl) | rfl) (by first | (rw [he]; done) | (rw [he]; rfl) | rfl)
                                    · have he := he.trans (if_neg h18)
                                      have hp := hp.2 h18
                                      by_cases h19 : op = 22
                                      · have he := he.trans (if_pos h19)
                                        have hp := hp.1 h19
                                        refine fm_gs O 22 rfl (show op.toInt = 22 from by rw [h19]; decide) ?_
                                        refine fm_gr O 2 (C' := (161, [(0, .inr (.inr (.inr (.inr (13, 0))))), (1, .inl op), (2, .inl aa)], [.inl 4, .inl aa], (I, J, G, fm_P (1, 0) pb))) rfl ?_
                                        have K := fmF_isWithin_c (d := d) hl (by omega) I J G ((1, 0)) pb aa 4
                                        generalize er17 : fmF_isWithin_f aa 4 = r17 at he hp
                                        have he := he.trans (fm_letE _ _)
                                        have hp := fm_letP hp
                                        rw [er17] at K
                                        refine fm_cN0 O fmF_isWithin_o (as := [.inl aa, .inl 4]) (rest := []) (v := some (.inl r17)) rfl rfl rfl fn_F_isWithin0 fn_F_isWithin (Nat.le_of_ble_eq_true rfl) (K) ?_
                                        exact fm_gRe O rfl hp (by first | (rw [he]; done) | (rw [he]; rfl) | rfl) (by first | (rw [he]; done) | (rw [he]; rfl) | rfl)
                                      · have he := he.trans (if_neg h19)
                                        have hp := hp.2 h19
                                        by_cases h20 : op = 23
                                        · have he := he.trans (if_pos h20)
                                          have hp := hp.1 h20
                                          refine fm_gs O 23 rfl (show op.toInt = 23 from by rw [h20]; decide) ?_
                                          refine fm_gr O 2 (C' := (161, [(0, .inr (.inr (.inr (.inr (13, 0))))), (1, .inl op), (2, .inl aa)], [.inl 4, .inl aa], (I, J, G, fm_P (1, 0) pb))) rfl ?_
                                          have K := fmF_isWithin_c (d := d) hl (by omega) I J G ((1, 0)) pb aa 4
                                          generalize er18 : fmF_isWithin_f aa 4 = r18 at he hp
                                          have he := he.trans (fm_letE _ _)
                                          have hp := fm_letP hp
                                          rw [er18] at K
                                          refine fm_cN0 O fmF_isWithin_o (as := [.inl aa, .inl 4]) (rest := []) (v := some (.inl r18)) rfl rfl rfl fn_F_isWithin0 fn_F_isWithin (Nat.le_of_ble_eq_true rfl) (K) ?_
                                          exact fm_gRe O rfl hp (by first | (rw [he]; done) | (rw [he]; rfl) | rfl) (by first | (rw [he]; done) | (rw [he]; rfl) | rfl)
                                        · have he := he.trans (if_neg h20)
                                          have hp := hp.2 h20
                                          by_cases h21 : op = 24
                                          · have he := he.trans (if_pos h21)
                                            refine fm_gs O 24 rfl (show op.toInt = 24 from by rw [h21]; decide) ?_
                                            refine fm_gr O 1 (C' := (207, [(0, .inr (.inr (.inr (.inr (13, 0))))), (1, .inl op), (2, .inl aa)], [.inl 1], (I, J, G, fm_P (1, 0) pb))) rfl ?_
                                            exact fm_gRe O rfl (Or.inr rfl) (by first | (rw [he]; done) | (rw [he]; rfl) | rfl) (by first | (rw [he]; done) | (rw [he]; rfl) | rfl)
                                          · have he := he.trans (if_neg h21)
                                            have hp := hp.2 h21
                                            by_cases h22 : op = 25
                                            · have he := he.trans (if_pos h22)
                                              refine fm_gs O 25 rfl (show op.toInt = 25 from by rw [h22]; decide) ?_
                                              refine fm_gr O 1 (C' := (207, [(0, .inr (.inr (.inr (.inr (13, 0))))), (1, .inl op), (2, .inl aa)], [.inl 1], (I, J, G, fm_P (1, 0) pb))) rfl ?_
                                              exact fm_gRe O rfl (Or.inr rfl) (by first | (rw [he]; done) | (rw [he]; rfl) | rfl) (by first | (rw [he]; done) | (rw [he]; rfl) | rfl)
                                            · have he := he.trans (if_neg h22)
                                              have hp := hp.2 h22
                                              by_cases h23 : op = 26
                                              · have he := he.trans (if_pos h23)
                                                have hp := hp.1 h23
                                                refine fm_gs O 26 rfl (show op.toInt = 26 from by rw [h23]; decide) ?_
                                                refine fm_gr O 3 (C' := (170, [(0, .inr (.inr (.inr (.inr (13, 0))))), (1, .inl op), (2, .inl aa)], [.inl (I 13 0 6), .inl aa], (I, J, G, fm_P (1, 0) pb))) rfl ?_
                                                have K := fmF_isWithin_c (d := d) hl (by omega) I J G ((1, 0)) pb aa (I 13 0 6)
                                                generalize er19 : fmF_isWithin_f aa (I 13 0 6) = r19 at he hp
                                                have he := he.trans (fm_letE _ _)
                                                have hp := fm_letP hp
                                                rw [er19] at K
                                                refine fm_cN0 O fmF_isWithin_o (as := [.inl aa, .inl (I 13 0 6)]) (rest := []) (v := some (.inl r19)) rfl rfl rfl fn_F_isWithin0 fn_F_isWithin (Nat.le_of_ble_eq_true rfl) (K) ?_
                                                exact fm_gRe O rfl hp (by first | (rw [he]; done) | (rw [he]; rfl) | rfl) (by first | (rw [he]; done) | (rw [he]; rfl) | rfl)
                                              · have he := he.trans (if_neg h23)
                                                have hp := hp.2 h23
                                                by_cases h24 : op = 27
                                                · have he := he.trans (if_pos h24)
                                                  have hp := hp.1 h24
                                                  refine fm_gs O 27 rfl (show op.toInt = 27 from by rw [h24]; decide) ?_
                                                  refine fm_gr O 3 (C' := (170, [(0, .inr (.inr (.inr (.inr (13, 0))))), (1, .inl op), (2, .inl aa)], [.inl (I 13 0 6), .inl aa], (I, J, G, fm_P (1, 0) pb))) rfl ?_
                                                  have K := fmF_isWithin_c (d := d) hl (by omega) I J G ((1, 0)) pb aa (I 13 0 6)
                                                  generalize er20 : fmF_isWithin_f aa (I 13 0 6) = r20 at he hp
                                                  have he := he.trans (fm_letE _ _)
                                                  have hp := fm_letP hp
                                                  rw [er20] at K
                                                  refine fm_cN0 O fmF_isWithin_o (as := [.inl aa, .inl (I 13 0 6)]) (rest := []) (v := some (.inl r20)) rfl rfl rfl fn_F_isWithin0 fn_F_isWithin (Nat.le_of_ble_eq_true rfl) (K) ?_
                                                  exact fm_gRe O rfl hp (by first | (rw [he]; done) | (rw [he]; rfl) | rfl) (by first | (rw [he]; done) | (rw [he]; rfl) | rfl)
                                                · have he := he.trans (if_neg h24)
                                                  have hp := hp.2 h24
                                                  by_cases h25 : op = 28
                                                  · have he := he.trans (if_pos h25)
                                                    refine fm_gs O 28 rfl (show op.toInt = 28 from by rw [h25]; decide) ?_
                                                    refine fm_gr O 1 (C' := (207, [(0, .inr (.inr (.inr (.inr (13, 0))))), (1, .inl op), (2, .inl aa)], [.inl 1], (I, J, G, fm_P (1, 0) pb))) rfl ?_
                                                    exact fm_gRe O rfl (Or.inr rfl) (by first | (rw [he]; done) | (rw [he]; rfl) | rfl) (by first | (rw [he]; done) | (rw [he]; rfl) | rfl)
                                                  · have he := he.trans (if_neg h25)
                                                    have hp := hp.2 h25
                                                    by_cases h26 : op = 29
                                                    · have he := he.trans (if_pos h26)
                                                      have hp := hp.1 h26
                                                      refine fm_gs O 29 rfl (show op.toInt = 29 from by rw [h26]; decide) ?_
                                                      refine fm_gr O 6 (C' := (182, [(0, .inr (.inr (.inr (.inr (13, 0))))), (1, .inl op), (2, .inl aa)], [.inl ((Int32.ofNat 4) - 1), .inl aa], (I, J, G, fm_P (1, 0) pb))) rfl ?_
                                                      have K := fmF_isWithin_c (d := d) hl (by omega) I J G ((1, 0)) pb aa ((Int32.ofNat 4) - 1)
                                                      generalize er21 : fmF_isWithin_f aa ((Int32.ofNat 4) - 1) = r21 at he hp
                                                      have he := he.trans (fm_letE _ _)
                                                      have hp := fm_letP hp
                                                      rw [er21] at K
                                                      refine fm_cN0 O fmF_isWithin_o (as := [.inl aa, .inl ((Int32.ofNat 4) - 1)]) (rest := []) (v := some (.inl r21)) rfl rfl rfl fn_F_isWithin0 fn_F_isWithin (Nat.le_of_ble_eq_true rfl) (K) ?_
                                                      refine fm_gb O rfl (fun h => ?_) (fun h => ?_)
                                                      · have h27 : r21 = 0 := h
                                                        have he := he.trans (if_pos h27)
                                                        refine fm_gr O 1 (C' := (205, [(0, .inr (.inr (.inr (.inr (13, 0))))), (1, .inl op), (2, .inl aa)], [.inl 0], (I, J, G, fm_P (1, 0) pb))) rfl ?_
                                                        exact fm_gRe O rfl (Or.inl rfl) (by first | (rw [he]; done) | (rw [he]; rfl) | rfl) (by first | (rw [he]; done) | (rw [he]; rfl) | rfl)
                                                      · have h27 : ¬ r21 = 0 := h
                                                        have he := he.trans (if_neg h27)
                                                        have hp := hp.2 h27
                                                        refine fm_gr O 3 (C' := (193, [(0, .inr (.inr (.inr (.inr (13, 0))))), (1, .inl op), (2, .inl aa)], [.inl aa, .inr (.inr (.inr (.inr (1, 0))))], (I, J, G, fm_P (1, 0) pb))) rfl ?_
                                                        refine fm_gg O rfl hp ?_
                                                        refine fm_gr O 1 (C' := (197, [(0, .inr (.inr (.inr (.inr (13, 0))))), (1, .inl op), (2, .inl aa)], [.inl (I 2 aa.toNatClampNeg 0)], (I, J, G, fm_P (1, 0) pb))) rfl ?_
                                                        refine fm_gb O rfl (fun h => ?_) (fun h => ?_)
                                                        · have h28 : (I 2 aa.toNatClampNeg 0) = 0 := h
                                                          have he := he.trans (if_pos h28)
                                                          refine fm_gr O 1 (C' := (205, [(0, .inr (.inr (.inr (.inr (13, 0))))), (1, .inl op), (2, .inl aa)], [.inl 0], (I, J, G, fm_P (1, 0) pb))) rfl ?_
                                                          exact fm_gRe O rfl (Or.inl rfl) (by first | (rw [he]; done) | (rw [he]; rfl) | rfl) (by first | (rw [he]; done) | (rw [he]; rfl) | rfl)
                                                        · have h28 : ¬ (I 2 aa.toNatClampNeg 0) = 0 := h
                                                          have he := he.trans (if_neg h28)
                                                          refine fm_gr O 2 (C' := (205, [(0, .inr (.inr (.inr (.inr (13, 0))))), (1, .inl op), (2, .inl aa)], [.inl 1], (I, J, G, fm_P (1, 0) pb))) rfl ?_
                                                          exact fm_gRe O rfl (Or.inr rfl) (by first | (rw [he]; done) | (rw [he]; rfl) | rfl) (by first | (rw [he]; done) | (rw [he]; rfl) | rfl)
                                                    · have he := he.trans (if_neg h26)
                                                      refine fm_gt O rfl (by
                                                          show op.toInt < 4 ∨ 29 < op.toInt
                                                          have := lv_neT h1 (show (4 : Int32).toInt = 4 from by decide)
                                                          have := lv_neT h2 (show (5 : Int32).toInt = 5 from by decide)
                                                          have := lv_neT h3 (show (6 : Int32).toInt = 6 from by decide)
                                                          have := lv_neT h4 (show (7 : Int32).toInt = 7 from by decide)
                                                          have := lv_neT h5 (show (8 : Int32).toInt = 8 from by decide)
                                                          have := lv_neT h6 (show (9 : Int32).toInt = 9 from by decide)
                                                          have := lv_neT h7 (show (10 : Int32).toInt = 10 from by decide)
                                                          have := lv_neT h8 (show (11 : Int32).toInt = 11 from by decide)
                                                          have := lv_neT h9 (show (12 : Int32).toInt = 12 from by decide)
                                                          have := lv_neT h10 (show (13 : Int32).toInt = 13 from by decide)
                                                          have := lv_neT h11 (show (14 : Int32).toInt = 14 from by decide)
                                                          have := lv_neT h12 (show (15 : Int32).toInt = 15 from by decide)
                                                          have := lv_neT h13 (show (16 : Int32).toInt = 16 from by decide)
                                                          have := lv_neT h14 (show (17 : Int32).toInt = 17 from by decide)
                                                          have := lv_neT h15 (show (18 : Int32).toInt = 18 from by decide)
                                                          have := lv_neT h16 (show (19 : Int32).toInt = 19 from by decide)
                                                          have := lv_neT h17 (show (20 : Int32).toInt = 20 from by decide)
                                                          have := lv_neT h18 (show (21 : Int32).toInt = 21 from by decide)
                                                          have := lv_neT h19 (show (22 : Int32).toInt = 22 from by decide)
                                                          have := lv_neT h20 (show (23 : Int32).toInt = 23 from by decide)
                                                          have := lv_neT h21 (show (24 : Int32).toInt = 24 from by decide)
                                                          have := lv_neT h22 (show (25 : Int32).toInt = 25 from by decide)
                                                          have := lv_neT h23 (show (26 : Int32).toInt = 26 from by decide)
                                                          have := lv_neT h24 (show (27 : Int32).toInt = 27 from by decide)
                                                          have := lv_neT h25 (show (28 : Int32).toInt = 28 from by decide)
                                                          have := lv_neT h26 (show (29 : Int32).toInt = 29 from by decide)
                                                          omega) ?_
                                                      refine fm_gr O 1 (C' := (207, [(0, .inr (.inr (.inr (.inr (13, 0))))), (1, .inl op), (2, .inl aa)], [.inl 1], (I, J, G, fm_P (1, 0) pb))) rfl ?_
                                                      exact fm_gRe O rfl (Or.inr rfl) (by first | (rw [he]; done) | (rw [he]; rfl) | rfl) (by first | (rw [he]; done) | (rw [he]; rfl) | rfl)
