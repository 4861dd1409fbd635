/-! THE MODULE AND THE MACHINE, by program (wip/tools/walk.py, gen_c4.py) -/
def fmU_declare_L31_f : Nat → fm_MI → fm_MJ → fm_MG → (Nat × Nat) → (Nat × Nat) → Nat → Int32 → Int32 → Int32 → Int32 → Int32 → fm_MI
  | 0, I, J, G, pa, pb, y0, y1, y2, y3, y4, y5 => I
  | n + 1, I, J, G, pa, pb, y0, y1, y2, y3, y4, y5 => if (I 2 y0 2) ≤ y5 then I else (fmU_declare_L31_f n (fm_u I 3 y0 y5.toNatClampNeg ((y3 >>> ((2 * y5) &&& 31)) &&& 3)) J G pa pb y0 y1 y2 y3 y4 (y5 + 1))
theorem fmU_declare_L31_e (n : Nat) (I : fm_MI) (J : fm_MJ) (G : fm_MG) (pa : Nat × Nat) (pb : Nat × Nat) (y0 : Nat) (y1 : Int32) (y2 : Int32) (y3 : Int32) (y4 : Int32) (y5 : Int32) : fmU_declare_L31_f (n + 1) I J G pa pb y0 y1 y2 y3 y4 y5 = if (I 2 y0 2) ≤ y5 then I else (fmU_declare_L31_f n (fm_u I 3 y0 y5.toNatClampNeg ((y3 >>> ((2 * y5) &&& 31)) &&& 3)) J G pa pb y0 y1 y2 y3 y4 (y5 + 1)) := rfl
def fmU_declare_L31_p : Nat → fm_MI → fm_MJ → fm_MG → (Nat × Nat) → (Nat × Nat) → Nat → Int32 → Int32 → Int32 → Int32 → Int32 → Prop
  | 0, I, J, G, pa, pb, y0, y1, y2, y3, y4, y5 => False
  | n + 1, I, J, G, pa, pb, y0, y1, y2, y3, y4, y5 => ((I 2 y0 2) ≤ y5 → True) ∧ (¬ (I 2 y0 2) ≤ y5 → (vp_in y5 6) ∧ (fmU_declare_L31_p n (fm_u I 3 y0 y5.toNatClampNeg ((y3 >>> ((2 * y5) &&& 31)) &&& 3)) J G pa pb y0 y1 y2 y3 y4 (y5 + 1)))
theorem fmU_declare_L31_q (n : Nat) (I : fm_MI) (J : fm_MJ) (G : fm_MG) (pa : Nat × Nat) (pb : Nat × Nat) (y0 : Nat) (y1 : Int32) (y2 : Int32) (y3 : Int32) (y4 : Int32) (y5 : Int32) : fmU_declare_L31_p (n + 1) I J G pa pb y0 y1 y2 y3 y4 y5 = (((I 2 y0 2) ≤ y5 → True) ∧ (¬ (I 2 y0 2) ≤ y5 → (vp_in y5 6) ∧ (fmU_declare_L31_p n (fm_u I 3 y0 y5.toNatClampNeg ((y3 >>> ((2 * y5) &&& 31)) &&& 3)) J G pa pb y0 y1 y2 y3 y4 (y5 + 1)))) := rfl
set_option maxRecDepth 100000 in
set_option maxHeartbeats 4000000 in
theorem fmU_declare_L31_c {E : fm_Ev} (hl : E.1.stackTraces = false) {d : Nat} (hd : 0 ≤ d) (n : Nat) : ∀ (I : fm_MI) (J : fm_MJ) (G : fm_MG) (pa : Nat × Nat) (pb : Nat × Nat) (y0 : Nat) (y1 : Int32) (y2 : Int32) (y3 : Int32) (y4 : Int32) (y5 : Int32), fmU_declare_L31_p n I J G pa pb y0 y1 y2 y3 y4 y5 → fm_Go E (d) fmU_declare 0 (31, [(0, .inr (.inr (.inr (.inr (2, y0))))), (1, .inl y1), (2, .inl y2), (3, .inl y3), (4, .inl y4), (5, .inl y5)], [], (I, J, G, fm_P pa pb)) (fm_Zr E none (fmU_declare_L31_f n I J G pa pb y0 y1 y2 y3 y4 y5, J, G, fm_P pa pb)) := by
  have O := fmU_declare_o.1
  induction n with
  | zero => intro I J G pa pb y0 y1 y2 y3 y4 y5 hp; exact hp.elim
  | succ n ih =>
    intro I J G pa pb y0 y1 y2 y3 y4 y5 hp
    rw [fmU_declare_L31_q] at hp
    have he := fmU_declare_L31_e n I J G pa pb y0 y1 y2 y3 y4 y5
    refine fm_gr O 3 (C' := (37, [(0, .inr (.inr (.inr (.inr (2, y0))))), (1, .inl y1), (2, .inl y2), (3, .inl y3), (4, .inl y4), (5, .inl y5)], [.inl (I 2 y0 2), .inl y5], (I, J, G, fm_P pa pb))) rfl ?_
    refine fm_gb O rfl (fun h => ?_) (fun h => ?_)
    · have h1 : (I 2 y0 2) ≤ y5 := h
      have he := he.trans (if_pos h1)
      exact fm_gRe O rfl trivial (by first | (rw [he]; done) | (rw [he]; rfl) | rfl) (by first | (rw [he]; done) | (rw [he]; rfl) | rfl)
    · have h1 : ¬ (I 2 y0 2) ≤ y5 := h
      have he := he.trans (if_neg h1)
      have hp := hp.2 h1
      refine fm_gr O 10 (C' := (54, [(0, .inr (.inr (.inr (.inr (2, y0))))), (1, .inl y1), (2, .inl y2), (3, .inl y3), (4, .inl y4), (5, .inl y5)], [.inl ((y3 >>> ((2 * y5) &&& 31)) &&& 3), .inl y5, .inr (.inr (.inr (.inr (3, y0))))], (I, J, G, fm_P pa pb))) rfl ?_
      refine fm_gg O rfl hp.1 ?_
      have hp := hp.2
      refine fm_gr O 2 (C' := (31, [(5, .inl (y5 + 1)), (0, .inr (.inr (.inr (.inr (2, y0))))), (1, .inl y1), (2, .inl y2), (3, .inl y3), (4, .inl y4)], [], (fm_u I 3 y0 y5.toNatClampNeg ((y3 >>> ((2 * y5) &&& 31)) &&& 3), J, G, fm_P pa pb))) rfl ?_
      refine fm_gL O [1, 2, 3, 4, 5, 0] rfl ?_
      rw [he]
      exact ih (fm_u I 3 y0 y5.toNatClampNeg ((y3 >>> ((2 * y5) &&& 31)) &&& 3)) J G pa pb y0 y1 y2 y3 y4 (y5 + 1) hp
def fmU_declare_f (I : fm_MI) (J : fm_MJ) (G : fm_MG) (pa : Nat × Nat) (pb : Nat × Nat) (f : Nat) (n : Int32) (m : Int32) (tp : Int32) (rs : Int32) : fm_MI :=
  fmU_declare_L31_f 7 (fm_u (fm_u (fm_u (fm_u (fm_u I 2 f 0 1) 2 f 1 n) 2 f 2 (n + m)) 2 f 3 rs) 2 f 4 0) J G pa pb f n m tp rs 0
theorem fmU_declare_e (I : fm_MI) (J : fm_MJ) (G : fm_MG) (pa : Nat × Nat) (pb : Nat × Nat) (f : Nat) (n : Int32) (m : Int32) (tp : Int32) (rs : Int32) : fmU_declare_f I J G pa pb f n m tp rs = fmU_declare_L31_f 7 (fm_u (fm_u (fm_u (fm_u (fm_u I 2 f 0 1) 2 f 1 n) 2 f 2 (n + m)) 2 f 3 rs) 2 f 4 0) J G pa pb f n m tp rs 0 := rfl
def fmU_declare_p (I : fm_MI) (J : fm_MJ) (G : fm_MG) (pa : Nat × Nat) (pb : Nat × Nat) (f : Nat) (n : Int32) (m : Int32) (tp : Int32) (rs : Int32) : Prop :=
  fmU_declare_L31_p 7 (fm_u (fm_u (fm_u (fm_u (fm_u I 2 f 0 1) 2 f 1 n) 2 f 2 (n + m)) 2 f 3 rs) 2 f 4 0) J G pa pb f n m tp rs 0
set_option maxRecDepth 100000 in
set_option maxHeartbeats 4000000 in
theorem fmU_declare_c {E : fm_Ev} (hl : E.1.stackTraces = false) {d : Nat} (hd : 0 ≤ d) (I : fm_MI) (J : fm_MJ) (G : fm_MG) (pa : Nat × Nat) (pb : Nat × Nat) (f : Nat) (n : Int32) (m : Int32) (tp : Int32) (rs : Int32) (hp : fmU_declare_p I J G pa pb f n m tp rs) : fm_Ct E d fmU_declare 0 [.inr (.inr (.inr (.inr (2, f)))), .inl n, .inl m, .inl tp, .inl rs] (I, J, G, fm_P pa pb) none (fmU_declare_f I J G pa pb f n m tp rs, J, G, fm_P pa pb) := by
  refine fm_ct fmU_declare_o hl (Nat.le_of_ble_eq_true rfl) ?_
  have O := fmU_declare_o.1
  unfold fmU_declare_p at hp
  have he := fmU_declare_e I J G pa pb f n m tp rs
  refine fm_gr O 2 (C' := (2, [(0, .inr (.inr (.inr (.inr (2, f))))), (1, .inl n), (2, .inl m), (3, .inl tp), (4, .inl rs)], [.inl 1, .inr (.inr (.inr (.inr (2, f))))], (I, J, G, fm_P pa pb))) rfl ?_
  refine fm_gg O rfl (Or.inr rfl) ?_
  refine fm_gr O 16 (C' := (31, [(5, .inl 0), (0, .inr (.inr (.inr (.inr (2, f))))), (1, .inl n), (2, .inl m), (3, .inl tp), (4, .inl rs)], [], (fm_u (fm_u (fm_u (fm_u (fm_u I 2 f 0 1) 2 f 1 n) 2 f 2 (n + m)) 2 f 3 rs) 2 f 4 0, J, G, fm_P pa pb))) rfl ?_
  refine fm_gL O [1, 2, 3, 4, 5, 0] rfl ?_
  rw [he]
  exact fmU_declare_L31_c hl hd 7 (fm_u (fm_u (fm_u (fm_u (fm_u I 2 f 0 1) 2 f 1 n) 2 f 2 (n + m)) 2 f 3 rs) 2 f 4 0) J G pa pb f n m tp rs 0 hp
def fmC_firstFault_L58_f : Nat → fm_MI → fm_MJ → fm_MG → (Nat × Nat) → Int32 → Int32 → Int32 × fm_MI × (Nat × Nat)
  | 0, I, J, G, pb, y2, y3 => (0, I, (0, 0))
  | n + 1, I, J, G, pb, y2, y3 => if (I 2 ((I 13 0 1).toNatClampNeg) 4) ≤ y3 then (fm_let (fmC_endOfCode_f I J G pb) (fun (r2 : fm_MI) => if (r2 13 0 2) = 0 then ((0, r2, (1, 0))) else (((100 * (r2 2 ((r2 13 0 1).toNatClampNeg) 4)) + (r2 13 0 2), r2, (1, 0))))) else (fm_let (fmC_instruction_f I J G pb (I 4 ((I 13 0 1).toNatClampNeg) y3.toNatClampNeg) (I 5 ((I 13 0 1).toNatClampNeg) y3.toNatClampNeg)) (fun (r3 : fm_MI) => if (r3 13 0 2) = 0 then (fmC_firstFault_L58_f n r3 J G pb y2 (y3 + 1)) else (((100 * y3) + (r3 13 0 2), r3, (1, 0)))))
theorem fmC_firstFault_L58_e (n : Nat) (I : fm_MI) (J : fm_MJ) (G : fm_MG) (pb : Nat × Nat) (y2 : Int32) (y3 : Int32) : fmC_firstFault_L58_f (n + 1) I J G pb y2 y3 = if (I 2 ((I 13 0 1).toNatClampNeg) 4) ≤ y3 then (fm_let (fmC_endOfCode_f I J G pb) (fun (r2 : fm_MI) => if (r2 13 0 2) = 0 then ((0, r2, (1, 0))) else (((100 * (r2 2 ((r2 13 0 1).toNatClampNeg) 4)) + (r2 13 0 2), r2, (1, 0))))) else (fm_let (fmC_instruction_f I J G pb (I 4 ((I 13 0 1).toNatClampNeg) y3.toNatClampNeg) (I 5 ((I 13 0 1).toNatClampNeg) y3.toNatClampNeg)) (fun (r3 : fm_MI) => if (r3 13 0 2) = 0 then (fmC_firstFault_L58_f n r3 J G pb y2 (y3 + 1)) else (((100 * y3) + (r3 13 0 2), r3, (1, 0))))) := rfl
def fmC_firstFault_L58_p : Nat → fm_MI → fm_MJ → fm_MG → (Nat × Nat) → Int32 → Int32 → Prop
  | 0, I, J, G, pb, y2, y3 => False
  | n + 1, I, J, G, pb, y2, y3 => fmC_subject_p I ∧ (((I 2 ((I 13 0 1).toNatClampNeg) 4) ≤ y3 → fmC_endOfCode_p I J G pb ∧ (fm_let (fmC_endOfCode_f I J G pb) (fun (r2 : fm_MI) => ((r2 13 0 2) = 0 → True) ∧ (¬ (r2 13 0 2) = 0 → fmC_subject_p r2)))) ∧ (¬ (I 2 ((I 13 0 1).toNatClampNeg) 4) ≤ y3 → fmC_subject_p I ∧ ((vp_in y3 40) ∧ (fmC_subject_p I ∧ ((vp_in y3 40) ∧ (fmC_instruction_p I J G pb (I 4 ((I 13 0 1).toNatClampNeg) y3.toNatClampNeg) (I 5 ((I 13 0 1).toNatClampNeg) y3.toNatClampNeg) ∧ (fm_let (fmC_instruction_f I J G pb (I 4 ((I 13 0 1).toNatClampNeg) y3.toNatClampNeg) (I 5 ((I 13 0 1).toNatClampNeg) y3.toNatClampNeg)) (fun (r3 : fm_MI) => ((r3 13 0 2) = 0 → fmC_firstFault_L58_p n r3 J G pb y2 (y3 + 1)) ∧ (¬ (r3 13 0 2) = 0 → True)))))))))
theorem fmC_firstFault_L58_q (n : Nat) (I : fm_MI) (J : fm_MJ) (G : fm_MG) (pb : Nat × Nat) (y2 : Int32) (y3 : Int32) : fmC_firstFault_L58_p (n + 1) I J G pb y2 y3 = (fmC_subject_p I ∧ (((I 2 ((I 13 0 1).toNatClampNeg) 4) ≤ y3 → fmC_endOfCode_p I J G pb ∧ (fm_let (fmC_endOfCode_f I J G pb) (fun (r2 : fm_MI) => ((r2 13 0 2) = 0 → True) ∧ (¬ (r2 13 0 2) = 0 → fmC_subject_p r2)))) ∧ (¬ (I 2 ((I 13 0 1).toNatClampNeg) 4) ≤ y3 → fmC_subject_p I ∧ ((vp_in y3 40) ∧ (fmC_subject_p I ∧ ((vp_in y3 40) ∧ (fmC_instruction_p I J G pb (I 4 ((I 13 0 1).toNatClampNeg) y3.toNatClampNeg) (I 5 ((I 13 0 1).toNatClampNeg) y3.toNatClampNeg) ∧ (fm_let (fmC_instruction_f I J G pb (I 4 ((I 13 0 1).toNatClampNeg) y3.toNatClampNeg) (I 5 ((I 13 0 1).toNatClampNeg) y3.toNatClampNeg)) (fun (r3 : fm_MI) => ((r3 13 0 2) = 0 → fmC_firstFault_L58_p n r3 J G pb y2 (y3 + 1)) ∧ (¬ (r3 13 0 2) = 0 → True)))))))))) := rfl
set_option maxRecDepth 100000 in
set_option maxHeartbeats 4000000 in
theorem fmC_firstFault_L58_c {E : fm_Ev} (hl : E.1.stackTraces = false) {d : Nat} (hd : 5 ≤ d + 1) (n : Nat) : ∀ (I : fm_MI) (J : fm_MJ) (G : fm_MG) (pb : Nat × Nat) (y2 : Int32) (y3 : Int32), fmC_firstFault_L58_p n I J G pb y2 y3 → fm_Go E (d + 1) fmC_firstFault 0 (58, [(0, .inr (.inr (.inr (.inr (13, 0))))), (1, .inr (.inr (.inr (.inr (1, 0))))), (2, .inl y2), (3, .inl y3)], [], (I, J, G, fm_P (1, 0) pb)) (fm_Zr E (some (.inl ((fmC_firstFault_L58_f n I J G pb y2 y3).1))) ((fmC_firstFault_L58_f n I J G pb y2 y3).2.1, J, G, fm_P ((fmC_firstFault_L58_f n I J G pb y2 y3).2.2) pb)) := by
  have O := fmC_firstFault_o.1
  induction n with
  | zero => intro I J G pb y2 y3 hp; exact hp.elim
  | succ n ih =>
    intro I J G pb y2 y3 hp
    rw [fmC_firstFault_L58_q] at hp
    have he := fmC_firstFault_L58_e n I J G pb y2 y3
    refine fm_gr O 2 (C' := (60, [(0, .inr (.inr (.inr (.inr (13, 0))))), (1, .inr (.inr (.inr (.inr (1, 0))))), (2, .inl y2), (3, .inl y3)], [.inr (.inr (.inr (.inr (13, 0)))), .inl y3], (I, J, G, fm_P (1, 0) pb))) rfl ?_
    have hc := hp.1
    have hp := hp.2
    have K := fmC_subject_c (d := d) hl (by omega) I J G pb hc
    refine fm_cV0 O fmC_subject_o (i := 0) (as := []) (rest := [.inl y3]) (v := some (.inr (.inr (.inr (.inr (2, (I 13 0 1).toNatClampNeg)))))) rfl fk_1_41 rfl (by decide) fn_C_subject (Nat.le_of_ble_eq_true rfl) (K) ?_
    refine fm_gr O 1 (C' := (66, [(0, .inr (.inr (.inr (.inr (13, 0))))), (1, .inr (.inr (.inr (.inr (1, 0))))), (2, .inl y2), (3, .inl y3)], [.inl (I 2 ((I 13 0 1).toNatClampNeg) 4), .inl y3], (I, J, G, fm_P (1, 0) pb))) rfl ?_
    refine fm_gb O rfl (fun h => ?_) (fun h => ?_)
    · have h1 : (I 2 ((I 13 0 1).toNatClampNeg) 4) ≤ y3 := h
      have he := he.trans (if_pos h1)
      have hp := hp.1 h1
      refine fm_gr O 1 (C' := (115, [(0, .inr (.inr (.inr (.inr (13, 0))))), (1, .inr (.inr (.inr (.inr (1, 0))))), (2, .inl y2), (3, .inl y3)], [.inr (.inr (.inr (.inr (13, 0))))], (I, J, G, fm_P (1, 0) pb))) rfl ?_
      have hc := hp.1
      have hp := hp.2
      have K := fmC_endOfCode_c (d := d) hl (by omega) I J G pb hc
      generalize er2 : fmC_endOfCode_f I J G pb = r2 at he hp
      have he := he.trans (fm_letE _ _)
      have hp := fm_letP hp
      rw [er2] at K
      refine fm_cV0 O fmC_endOfCode_o (i := 0) (as := []) (rest := []) (v := none) rfl fk_1_71 rfl (by decide) fn_C_endOfCode (Nat.le_of_ble_eq_true rfl) (K) ?_
      refine fm_gr O 2 (C' := (122, [(0, .inr (.inr (.inr (.inr (13, 0))))), (1, .inr (.inr (.inr (.inr (1, 0))))), (2, .inl y2), (3, .inl y3)], [.inl (r2 13 0 2)], (r2, J, G, fm_P (1, 0) pb))) rfl ?_
      refine fm_gb O rfl (fun h => ?_) (fun h => ?_)
      · have h2 : (r2 13 0 2) = 0 := h
        have he := he.trans (if_pos h2)
        refine fm_gr O 2 (C' := (144, [(0, .inr (.inr (.inr (.inr (13, 0))))), (1, .inr (.inr (.inr (.inr (1, 0))))), (2, .inl y2), (3, .inl y3)], [.inl 0], (r2, J, G, fm_P (1, 0) pb))) rfl ?_
        exact fm_gRe O rfl trivial (by first | (rw [he]; done) | (rw [he]; rfl) | rfl) (by first | (rw [he]; done) | (rw [he]; rfl) | rfl)
      · have h2 : ¬ (r2 13 0 2) = 0 := h
        have he := he.trans (if_neg h2)
        have hp := hp.2 h2
        refine fm_gr O 2 (C' := (132, [(0, .inr (.inr (.inr (.inr (13, 0))))), (1, .inr (.inr (.inr (.inr (1, 0))))), (2, .inl y2), (3, .inl y3)], [.inr (.inr (.inr (.inr (13, 0)))), .inl 100], (r2, J, G, fm_P (1, 0) pb))) rfl ?_
        have K := fmC_subject_c (d := d) hl (by omega) r2 J G pb hp
        refine fm_cV0 O fmC_subject_o (i := 0) (as := []) (rest := [.inl 100]) (v := some (.inr (.inr (.inr (.inr (2, (r2 13 0 1).toNatClampNeg)))))) rfl fk_1_41 rfl (by decide) fn_C_subject (Nat.le_of_ble_eq_true rfl) (K) ?_
        refine fm_gr O 5 (C' := (144, [(0, .inr (.inr (.inr (.inr (13, 0))))), (1, .inr (.inr (.inr (.inr (1, 0))))), (2, .inl y2), (3, .inl y3)], [.inl ((100 * (r2 2 ((r2 13 0 1).toNatClampNeg) 4)) + (r2 13 0 2))], (r2, J, G, fm_P (1, 0) pb))) rfl ?_
        exact fm_gRe O rfl trivial (by first | (rw [he]; done) | (rw [he]; rfl) | rfl) (by first | (rw [he]; done) | (rw [he]; rfl) | rfl)
    · have h1 : ¬ (I 2 ((I 13 0 1).toNatClampNeg) 4) ≤ y3 := h
      have he := he.trans (if_neg h1)
      have hp := hp.2 h1
      refine fm_gr O 2 (C' := (71, [(0, .inr (.inr (.inr (.inr (13, 0))))), (1, .inr (.inr (.inr (.inr (1, 0))))), (2, .inl y2), (3, .inl y3)], [.inr (.inr (.inr (.inr (13, 0)))), .inr (.inr (.inr (.inr (13, 0))))], (I, J, G, fm_P (1, 0) pb))) rfl ?_
      have hc := hp.1
      have hp := hp.2
      have K := fmC_subject_c (d := d) hl (by omega) I J G pb hc
      refine fm_cV0 O fmC_subject_o (i := 0) (as := []) (rest := [.inr (.inr (.inr (.inr (13, 0))))]) (v := some (.inr (.inr (.inr (.inr (2, (I 13 0 1).toNatClampNeg)))))) rfl fk_1_41 rfl (by decide) fn_C_subject (Nat.le_of_ble_eq_true rfl) (K) ?_
      refine fm_gr O 2 (C' := (78, [(0, .inr (.inr (.inr (.inr (13, 0))))), (1, .inr (.inr (.inr (.inr (1, 0))))), (2, .inl y2), (3, .inl y3)], [.inl y3, .inr (.inr (.inr (.inr (4, (I 13 0 1).toNatClampNeg)))), .inr (.inr (.inr (.inr (13, 0))))], (I, J, G, fm_P (1, 0) pb))) rfl ?_
      refine fm_gg O rfl hp.1 ?_
      have hp := hp.2
      refine fm_gr O 1 (C' := (80, [(0, .inr (.inr (.inr (.inr (13, 0))))), (1, .inr (.inr (.inr (.inr (1, 0))))), (2, .inl y2), (3, .inl y3)], [.inr (.inr (.inr (.inr (13, 0)))), .inl (I 4 ((I 13 0 1).toNatClampNeg) y3.toNatClampNeg), .inr (.inr (.inr (.inr (13, 0))))], (I, J, G, fm_P (1, 0) pb))) rfl ?_
      have hc := hp.1
      have hp := hp.2
      have K := fmC_subject_c (d := d) hl (by omega) I J G pb hc
      refine fm_cV0 O fmC_subject_o (i := 0) (as := []) (rest := [.inl (I 4 ((I 13 0 1).toNatClampNeg) y3.toNatClampNeg), .inr (.inr (.inr (.inr (13, 0))))]) (v := some (.inr (.inr (.inr (.inr (2, (I 13 0 1).toNatClampNeg)))))) rfl fk_1_41 rfl (by decide) fn_C_subject (Nat.le_of_ble_eq_true rfl) (K) ?_
      refine fm_gr O 2 (C' := (87, [(0, .inr (.inr (.inr (.inr (13, 0))))), (1, .inr (.inr (.inr (.inr (1, 0))))), (2, .inl y2), (3, .inl y3)], [.inl y3, .inr (.inr (.inr (.inr (5, (I 13 0 1).toNatClampNeg)))), .inl (I 4 ((I 13 0 1).toNatClampNeg) y3.toNatClampNeg), .inr (.inr (.inr (.inr (13, 0))))], (I, J, G, fm_P (1, 0) pb))) rfl ?_
      refine fm_gg O rfl hp.1 ?_
      have hp := hp.2
      have hc := hp.1
      have hp := hp.2
      have K := fmC_instruction_c (d := d) hl (by omega) I J G pb (I 4 ((I 13 0 1).toNatClampNeg) y3.toNatClampNeg) (I 5 ((I 13 0 1).toNatClampNeg) y3.toNatClampNeg) hc
      generalize er3 : fmC_instruction_f I J G pb (I 4 ((I 13 0 1).toNatClampNeg) y3.toNatClampNeg) (I 5 ((I 13 0 1).toNatClampNeg) y3.toNatClampNeg) = r3 at he hp
      have he := he.trans (fm_letE _ _)
      have hp := fm_letP hp
      rw [er3] at K
      refine fm_cV0 O fmC_instruction_o (i := 0) (as := [.inl (I 4 ((I 13 0 1).toNatClampNeg) y3.toNatClampNeg), .inl (I 5 ((I 13 0 1).toNatClampNeg) y3.toNatClampNeg)]) (rest := []) (v := none) rfl fk_1_67 rfl (by decide) fn_C_instruction (Nat.le_of_ble_eq_true rfl) (K) ?_
      refine fm_gr O 2 (C' := (95, [(0, .inr (.inr (.inr (.inr (13, 0))))), (1, .inr (.inr (.inr (.inr (1, 0))))), (2, .inl y2), (3, .inl y3)], [.inl (r3 13 0 2)], (r3, J, G, fm_P (1, 0) pb))) rfl ?_
      refine fm_gb O rfl (fun h => ?_) (fun h => ?_)
      · have h2 : (r3 13 0 2) = 0 := h
        have he := he.trans (if_pos h2)
        have hp := hp.1 h2
        refine fm_gr O 2 (C' := (58, [(3, .inl (y3 + 1)), (0, .inr (.inr (.inr (.inr (13, 0))))), (1, .inr (.inr (.inr (.inr (1, 0))))), (2, .inl y2)], [], (r3, J, G, fm_P (1, 0) pb))) rfl ?_
        refine fm_gL O [1, 2, 3, 0] rfl ?_
        rw [he]
        exact ih r3 J G pb y2 (y3 + 1) hp
      · have h2 : ¬ (r3 13 0 2) = 0 := h
        have he := he.trans (if_neg h2)
        refine fm_gr O 6 (C' := (107, [(0, .inr (.inr (.inr (.inr (13, 0))))), (1, .inr (.inr (.inr (.inr (1, 0))))), (2, .inl y2), (3, .inl y3)], [.inl ((100 * y3) + (r3 13 0 2))], (r3, J, G, fm_P (1, 0) pb))) rfl ?_
        exact fm_gRe O rfl trivial (by first | (rw [he]; done) | (rw [he]; rfl) | rfl) (by first | (rw [he]; done) | (rw [he]; rfl) | rfl)
def fmC_firstFault_f (I : fm_MI) (J : fm_MJ) (G : fm_MG) (pb : Nat × Nat) (f : Int32) : Int32 × fm_MI × (Nat × Nat) :=
  fm_let (fmR_open_f (fm_u (fm_u (fm_u (fm_u (fm_u I 13 0 1 f) 13 0 2 0) 13 0 4 0) 13 0 6 0) 6 (((fm_u (fm_u (fm_u (fm_u I 13 0 1 f) 13 0 2 0) 13 0 4 0) 13 0 6 0) 13 0 1).toNatClampNeg) 0 0) ((0 : Int32).toNatClampNeg) 0 (I 2 (((fm_u (fm_u (fm_u (fm_u (fm_u I 13 0 1 f) 13 0 2 0) 13 0 4 0) 13 0 6 0) 6 (((fm_u (fm_u (fm_u (fm_u I 13 0 1 f) 13 0 2 0) 13 0 4 0) 13 0 6 0) 13 0 1).toNatClampNeg) 0 0) 13 0 1).toNatClampNeg) 3) 0 0 1) (fun (r1 : fm_MI) => fmC_firstFault_L58_f 41 r1 J G pb f 0)
theorem fmC_firstFault_e (I : fm_MI) (J : fm_MJ) (G : fm_MG) (pb : Nat × Nat) (f : Int32) : fmC_firstFault_f I J G pb f = fm_let (fmR_open_f (fm_u (fm_u (fm_u (fm_u (fm_u I 13 0 1 f) 13 0 2 0) 13 0 4 0) 13 0 6 0) 6 (((fm_u (fm_u (fm_u (fm_u I 13 0 1 f) 13 0 2 0) 13 0 4 0) 13 0 6 0) 13 0 1).toNatClampNeg) 0 0) ((0 : Int32).toNatClampNeg) 0 (I 2 (((fm_u (fm_u (fm_u (fm_u (fm_u I 13 0 1 f) 13 0 2 0) 13 0 4 0) 13 0 6 0) 6 (((fm_u (fm_u (fm_u (fm_u I 13 0 1 f) 13 0 2 0) 13 0 4 0) 13 0 6 0) 13 0 1).toNatClampNeg) 0 0) 13 0 1).toNatClampNeg) 3) 0 0 1) (fun (r1 : fm_MI) => fmC_firstFault_L58_f 41 r1 J G pb f 0) := rfl
def fmC_firstFault_p (I : fm_MI) (J : fm_MJ) (G : fm_MG) (pb : Nat × Nat) (f : Int32) : Prop :=
  fmC_subject_p (fm_u (fm_u (fm_u (fm_u I 13 0 1 f) 13 0 2 0) 13 0 4 0) 13 0 6 0) ∧ ((vp_in 0 9) ∧ (fmC_subject_p (fm_u (fm_u (fm_u (fm_u (fm_u I 13 0 1 f) 13 0 2 0) 13 0 4 0) 13 0 6 0) 6 (((fm_u (fm_u (fm_u (fm_u I 13 0 1 f) 13 0 2 0) 13 0 4 0) 13 0 6 0) 13 0 1).toNatClampNeg) 0 0) ∧ (fmR_open_p 1 ∧ (fm_let (fmR_open_f (fm_u (fm_u (fm_u (fm_u (fm_u I 13 0 1 f) 13 0 2 0) 13 0 4 0) 13 0 6 0) 6 (((fm_u (fm_u (fm_u (fm_u I 13 0 1 f) 13 0 2 0) 13 0 4 0) 13 0 6 0) 13 0 1).toNatClampNeg) 0 0) ((0 : Int32).toNatClampNeg) 0 (I 2 (((fm_u (fm_u (fm_u (fm_u (fm_u I 13 0 1 f) 13 0 2 0) 13 0 4 0) 13 0 6 0) 6 (((fm_u (fm_u (fm_u (fm_u I 13 0 1 f) 13 0 2 0) 13 0 4 0) 13 0 6 0) 13 0 1).toNatClampNeg) 0 0) 13 0 1).toNatClampNeg) 3) 0 0 1) (fun (r1 : fm_MI) => fmC_firstFault_L58_p 41 r1 J G pb f 0)))))
set_option maxRecDepth 100000 in
set_option maxHeartbeats 4000000 in
theorem fmC_firstFault_c {E : fm_Ev} (hl : E.1.stackTraces = false) {d : Nat} (hd : 5 ≤ d) (I : fm_MI) (J : fm_MJ) (G : fm_MG) (pa : Nat × Nat) (pb : Nat × Nat) (f : Int32) (hp : fmC_firstFault_p I J G pb f) : fm_Ct E d fmC_firstFault 0 [.inr (.inr (.inr (.inr (13, 0)))), .inr (.inr (.inr (.inr (1, 0)))), .inl f] (I, J, G, fm_P pa pb) (some (.inl ((fmC_firstFault_f I J G pb f).1))) ((fmC_firstFault_f I J G pb f).2.1, J, G, fm_P ((fmC_firstFault_f I J G pb f).2.2) pb) := by
  obtain ⟨d, rfl⟩ : ∃ d', d = d' + 1 := ⟨d - 1, by omega⟩
  refine fm_ct fmC_firstFault_o hl (Nat.le_of_ble_eq_true rfl) ?_
  have O := fmC_firstFault_o.1
  unfold fmC_firstFault_p at hp
  have he := fmC_firstFault_e I J G pb f
  refine fm_gr O 3 (C' := (5, [(0, .inr (.inr (.inr (.inr (13, 0))))), (1, .inr (.inr (.inr (.inr (1, 0))))), (2, .inl f)], [], (I, J, G, fm_u (fm_P pa pb) 13 0 0 (1, 0)))) rfl ?_
  rw [fm_Pa]
  refine fm_gr O 13 (C' := (26, [(0, .inr (.inr (.inr (.inr (13, 0))))), (1, .inr (.inr (.inr (.inr (1, 0))))), (2, .inl f)], [.inr (.inr (.inr (.inr (13, 0))))], (fm_u (fm_u (fm_u (fm_u I 13 0 1 f) 13 0 2 0) 13 0 4 0) 13 0 6 0, J, G, fm_P (1, 0) pb))) rfl ?_
  have hc := hp.1
  have hp := hp.2
  have K := fmC_subject_c (d := d) hl (by omega) (fm_u (fm_u (fm_u (fm_u I 13 0 1 f) 13 0 2 0) 13 0 4 0) 13 0 6 0) J G pb hc
  refine fm_cV0 O fmC_subject_o (i := 0) (as := []) (rest := []) (v := some (.inr (.inr (.inr (.inr (2, ((fm_u (fm_u (fm_u (fm_u I 13 0 1 f) 13 0 2 0) 13 0 4 0) 13 0 6 0) 13 0 1).toNatClampNeg)))))) rfl fk_1_41 rfl (by decide) fn_C_subject (Nat.le_of_ble_eq_true rfl) (K) ?_
  refine fm_gr O 6 (C' := (41, [(0, .inr (.inr (.inr (.inr (13, 0))))), (1, .inr (.inr (.inr (.inr (1, 0))))), (2, .inl f)], [.inl 0, .inr (.inr (.inr (.inr (16, 0))))], (fm_u (fm_u (fm_u (fm_u (fm_u I 13 0 1 f) 13 0 2 0) 13 0 4 0) 13 0 6 0) 6 (((fm_u (fm_u (fm_u (fm_u I 13 0 1 f) 13 0 2 0) 13 0 4 0) 13 0 6 0) 13 0 1).toNatClampNeg) 0 0, J, G, fm_P (1, 0) pb))) rfl ?_
  refine fm_gg O rfl hp.1 ?_
  have hp := hp.2
  refine fm_gr O 2 (C' := (44, [(0, .inr (.inr (.inr (.inr (13, 0))))), (1, .inr (.inr (.inr (.inr (1, 0))))), (2, .inl f)], [.inr (.inr (.inr (.inr (13, 0)))), .inl 0, .inr (.inr (.inr (.inr (17, (0 : Int32).toNatClampNeg))))], (fm_u (fm_u (fm_u (fm_u (fm_u I 13 0 1 f) 13 0 2 0) 13 0 4 0) 13 0 6 0) 6 (((fm_u (fm_u (fm_u (fm_u I 13 0 1 f) 13 0 2 0) 13 0 4 0) 13 0 6 0) 13 0 1).toNatClampNeg) 0 0, J, G, fm_P (1, 0) pb))) rfl ?_
  have hc := hp.1
  have hp := hp.2
  have K := fmC_subject_c (d := d) hl (by omega) (fm_u (fm_u (fm_u (fm_u (fm_u I 13 0 1 f) 13 0 2 0) 13 0 4 0) 13 0 6 0) 6 (((fm_u (fm_u (fm_u (fm_u I 13 0 1 f) 13 0 2 0) 13 0 4 0) 13 0 6 0) 13 0 1).toNatClampNeg) 0 0) J G pb hc
  refine fm_cV0 O fmC_subject_o (i := 0) (as := []) (rest := [.inl 0, .inr (.inr (.inr (.inr (17, (0 : Int32).toNatClampNeg))))]) (v := some (.inr (.inr (.inr (.inr (2, ((fm_u (fm_u (fm_u (fm_u (fm_u I 13 0 1 f) 13 0 2 0) 13 0 4 0) 13 0 6 0) 6 (((fm_u (fm_u (fm_u (fm_u I 13 0 1 f) 13 0 2 0) 13 0 4 0) 13 0 6 0) 13 0 1).toNatClampNeg) 0 0) 13 0 1).toNatClampNeg)))))) rfl fk_1_41 rfl (by decide) fn_C_subject (Nat.le_of_ble_eq_true rfl) (K) ?_
  refine fm_gr O 4 (C' := (53, [(0, .inr (.inr (.inr (.inr (13, 0))))), (1, .inr (.inr (.inr (.inr (1, 0))))), (2, .inl f)], [.inl 1, .inl 0, .inl 0, .inl (I 2 (((fm_u (fm_u (fm_u (fm_u (fm_u I 13 0 1 f) 13 0 2 0) 13 0 4 0) 13 0 6 0) 6 (((fm_u (fm_u (fm_u (fm_u I 13 0 1 f) 13 0 2 0) 13 0 4 0) 13 0 6 0) 13 0 1).toNatClampNeg) 0 0) 13 0 1).toNatClampNeg) 3), .inl 0, .inr (.inr (.inr (.inr (17, (0 : Int32).toNatClampNeg))))], (fm_u (fm_u (fm_u (fm_u (fm_u I 13 0 1 f) 13 0 2 0) 13 0 4 0) 13 0 6 0) 6 (((fm_u (fm_u (fm_u (fm_u I 13 0 1 f) 13 0 2 0) 13 0 4 0) 13 0 6 0) 13 0 1).toNatClampNeg) 0 0, J, G, fm_P (1, 0) pb))) rfl ?_
  have hc := hp.1
  have hp := hp.2
  have K := fmR_open_c (d := d) hl (by omega) (fm_u (fm_u (fm_u (fm_u (fm_u I 13 0 1 f) 13 0 2 0) 13 0 4 0) 13 0 6 0) 6 (((fm_u (fm_u (fm_u (fm_u I 13 0 1 f) 13 0 2 0) 13 0 4 0) 13 0 6 0) 13 0 1).toNatClampNeg) 0 0) J G ((1, 0)) pb ((0 : Int32).toNatClampNeg) 0 (I 2 (((fm_u (fm_u (fm_u (fm_u (fm_u I 13 0 1 f) 13 0 2 0) 13 0 4 0) 13 0 6 0) 6 (((fm_u (fm_u (fm_u (fm_u I 13 0 1 f) 13 0 2 0) 13 0 4 0) 13 0 6 0) 13 0 1).toNatClampNeg) 0 0) 13 0 1).toNatClampNeg) 3) 0 0 1 hc
  generalize er1 : fmR_open_f (fm_u (fm_u (fm_u (fm_u (fm_u I 13 0 1 f) 13 0 2 0) 13 0 4 0) 13 0 6 0) 6 (((fm_u (fm_u (fm_u (fm_u I 13 0 1 f) 13 0 2 0) 13 0 4 0) 13 0 6 0) 13 0 1).toNatClampNeg) 0 0) ((0 : Int32).toNatClampNeg) 0 (I 2 (((fm_u (fm_u (fm_u (fm_u (fm_u I 13 0 1 f) 13 0 2 0) 13 0 4 0) 13 0 6 0) 6 (((fm_u (fm_u (fm_u (fm_u I 13 0 1 f) 13 0 2 0) 13 0 4 0) 13 0 6 0) 13 0 1).toNatClampNeg) 0 0) 13 0 1).toNatClampNeg) 3) 0 0 1 = r1 at he hp
  have he := he.trans (fm_letE _ _)
  have hp := fm_letP hp
  rw [er1] at K
  refine fm_cV0 O fmR_open_o (i := (0 : Int32).toNatClampNeg) (as := [.inl 0, .inl (I 2 (((fm_u (fm_u (fm_u (fm_u (fm_u I 13 0 1 f) 13 0 2 0) 13 0 4 0) 13 0 6 0) 6 (((fm_u (fm_u (fm_u (fm_u I 13 0 1 f) 13 0 2 0) 13 0 4 0) 13 0 6 0) 13 0 1).toNatClampNeg) 0 0) 13 0 1).toNatClampNeg) 3), .inl 0, .inl 0, .inl 1]) (rest := []) (v := none) rfl fk_1_57 rfl (by decide) fn_R_open (Nat.le_of_ble_eq_true rfl) (K) ?_
  refine fm_gr O 2 (C' := (58, [(3, .inl 0), (0, .inr (.inr (.inr (.inr (13, 0))))), (1, .inr (.inr (.inr (.inr (1, 0))))), (2, .inl f)], [], (r1, J, G, fm_P (1, 0) pb))) rfl ?_
  refine fm_gL O [1, 2, 3, 0] rfl ?_
  rw [he]
  exact fmC_firstFault_L58_c hl hd 41 r1 J G pb f 0 hp
def fmF_isThere_f (I : fm_MI) (f : Int32) : Int32 :=
  fm_let (fmF_isWithin_f f 3) (fun (r1 : Int32) => if r1 = 0 then 0 else (if (I 2 f.toNatClampNeg 0) = 0 then 0 else 1))
theorem fmF_isThere_e (I : fm_MI) (f : Int32) : fmF_isThere_f I f = fm_let (fmF_isWithin_f f 3) (fun (r1 : Int32) => if r1 = 0 then 0 else (if (I 2 f.toNatClampNeg 0) = 0 then 0 else 1)) := rfl
def fmF_isThere_p (f : Int32) : Prop :=
  fm_let (fmF_isWithin_f f 3) (fun (r1 : Int32) => (r1 = 0 → True) ∧ (¬ r1 = 0 → vp_in f 4))
set_option maxRecDepth 100000 in
set_option maxHeartbeats 4000000 in
theorem fmF_isThere_c {E : fm_Ev} (hl : E.1.stackTraces = false) {d : Nat} (hd : 1 ≤ d) (I : fm_MI) (J : fm_MJ) (G : fm_MG) (pa : Nat × Nat) (pb : Nat × Nat) (f : Int32) (hp : fmF_isThere_p f) : fm_Ct E d fmF_isThere 0 [.inr (.inr (.inr (.inr (0, 0)))), .inl f] (I, J, G, fm_P pa pb) (some (.inl (fmF_isThere_f I f))) (I, J, G, fm_P pa pb) := by
  obtain ⟨d, rfl⟩ : ∃ d', d = d' + 1 := ⟨d - 1, by omega⟩
  refine fm_ct fmF_isThere_o hl (Nat.le_of_ble_eq_true rfl) ?_
  have O := fmF_isThere_o.1
  unfold fmF_isThere_p at hp
  have he := fmF_isThere_e I f
  refine fm_gr O 2 (C' := (2, [(0, .inr (.inr (.inr (.inr (0, 0))))), (1, .inl f)], [.inl 3, .inl f], (I, J, G, fm_P pa pb))) rfl ?_
  have K := fmF_isWithin_c (d := d) hl (by omega) I J G pa pb f 3
  generalize er1 : fmF_isWithin_f f 3 = r1 at he hp
  have he := he.trans (fm_letE _ _)
  have hp := fm_letP hp
  rw [er1] at K
  refine fm_cS0 O fmF_isWithin_o (as := [.inl f, .inl 3]) (rest := []) (v := some (.inl r1)) rfl fk_0_30 fn_F_isWithin (Nat.le_of_ble_eq_true rfl) (K) ?_
  refine fm_gb O rfl (fun h => ?_) (fun h => ?_)
  · have h1 : r1 = 0 := h
    have he := he.trans (if_pos h1)
    refine fm_gr O 1 (C' := (25, [(0, .inr (.inr (.inr (.inr (0, 0))))), (1, .inl f)], [.inl 0], (I, J, G, fm_P pa pb))) rfl ?_
    exact fm_gRe O rfl (Or.inl rfl) (by first | (rw [he]; done) | (rw [he]; rfl) | rfl) (by first | (rw [he]; done) | (rw [he]; rfl) | rfl)
  · have h1 : ¬ r1 = 0 := h
    have he := he.trans (if_neg h1)
    have hp := hp.2 h1
    refine fm_gr O 3 (C' := (13, [(0, .inr (.inr (.inr (.inr (0, 0))))), (1, .inl f)], [.inl f, .inr (.inr (.inr (.inr (1, 0))))], (I, J, G, fm_P pa pb))) rfl ?_
    refine fm_gg O rfl hp ?_
    refine fm_gr O 1 (C' := (17, [(0, .inr (.inr (.inr (.inr (0, 0))))), (1, .inl f)], [.inl (I 2 f.toNatClampNeg 0)], (I, J, G, fm_P pa pb))) rfl ?_
    refine fm_gb O rfl (fun h => ?_) (fun h => ?_)
    · have h2 : (I 2 f.toNatClampNeg 0) = 0 := h
      have he := he.trans (if_pos h2)
      refine fm_gr O 1 (C' := (25, [(0, .inr (.inr (.inr (.inr (0, 0))))), (1, .inl f)], [.inl 0], (I, J, G, fm_P pa pb))) rfl ?_
      exact fm_gRe O rfl (Or.inl rfl) (by first | (rw [he]; done) | (rw [he]; rfl) | rfl) (by first | (rw [he]; done) | (rw [he]; rfl) | rfl)
    · have h2 : ¬ (I 2 f.toNatClampNeg 0) = 0 := h
      have he := he.trans (if_neg h2)
      refine fm_gr O 2 (C' := (25, [(0, .inr (.inr (.inr (.inr (0, 0))))), (1, .inl f)], [.inl 1], (I, J, G, fm_P pa pb))) rfl ?_
      exact fm_gRe O rfl (Or.inr rfl) (by first | (rw [he]; done) | (rw [he]; rfl) | rfl) (by first | (rw [he]; done) | (rw [he]; rfl) | rfl)
def fmF_functionsThere_L4_f : Nat → fm_MI → fm_MJ → fm_MG → (Nat × Nat) → (Nat × Nat) → Int32 → Int32 → Int32
  | 0, I, J, G, pa, pb, y1, y2 => 0
  | n + 1, I, J, G, pa, pb, y1, y2 => if 4 ≤ y2 then y1 else (if (I 2 y2.toNatClampNeg 0) = 0 then (fmF_functionsThere_L4_f n I J G pa pb y1 (y2 + 1)) else (fmF_functionsThere_L4_f n I J G pa pb (y1 + 1) (y2 + 1)))
theorem fmF_functionsThere_L4_e (n : Nat) (I : fm_MI) (J : fm_MJ) (G : fm_MG) (pa : Nat × Nat) (pb : Nat × Nat) (y1 : Int32) (y2 : Int32) : fmF_functionsThere_L4_f (n + 1) I J G pa pb y1 y2 = if 4 ≤ y2 then y1 else (if (I 2 y2.toNatClampNeg 0) = 0 then (fmF_functionsThere_L4_f n I J G pa pb y1 (y2 + 1)) else (fmF_functionsThere_L4_f n I J G pa pb (y1 + 1) (y2 + 1))) := rfl
def fmF_functionsThere_L4_p : Nat → fm_MI → fm_MJ → fm_MG → (Nat × Nat) → (Nat × Nat) → Int32 → Int32 → Prop
  | 0, I, J, G, pa, pb, y1, y2 => False
  | n + 1, I, J, G, pa, pb, y1, y2 => (4 ≤ y2 → True) ∧ (¬ 4 ≤ y2 → (vp_in y2 4) ∧ (((I 2 y2.toNatClampNeg 0) = 0 → fmF_functionsThere_L4_p n I J G pa pb y1 (y2 + 1)) ∧ (¬ (I 2 y2.toNatClampNeg 0) = 0 → fmF_functionsThere_L4_p n I J G pa pb (y1 + 1) (y2 + 1))))
theorem fmF_functionsThere_L4_q (n : Nat) (I : fm_MI) (J : fm_MJ) (G : fm_MG) (pa : Nat × Nat) (pb : Nat × Nat) (y1 : Int32) (y2 : Int32) : fmF_functionsThere_L4_p (n + 1) I J G pa pb y1 y2 = ((4 ≤ y2 → True) ∧ (¬ 4 ≤ y2 → (vp_in y2 4) ∧ (((I 2 y2.toNatClampNeg 0) = 0 → fmF_functionsThere_L4_p n I J G pa pb y1 (y2 + 1)) ∧ (¬ (I 2 y2.toNatClampNeg 0) = 0 → fmF_functionsThere_L4_p n I J G pa pb (y1 + 1) (y2 + 1))))) := rfl
set_option maxRecDepth 100000 in
set_option maxHeartbeats 4000000 in
theorem fmF_functionsThere_L4_c {E : fm_Ev} (hl : E.1.stackTraces = false) {d : Nat} (hd : 0 ≤ d) (n : Nat) : ∀ (I : fm_MI) (J : fm_MJ) (G : fm_MG) (pa : Nat × Nat) (pb : Nat × Nat) (y1 : Int32) (y2 : Int32), fmF_functionsThere_L4_p n I J G pa pb y1 y2 → fm_Go E (d) fmF_functionsThere 0 (4, [(0, .inr (.inr (.inr (.inr (0, 0))))), (1, .inl y1), (2, .inl y2)], [], (I, J, G, fm_P pa pb)) (fm_Zr E (some (.inl (fmF_functionsThere_L4_f n I J G pa pb y1 y2))) (I, J, G, fm_P pa pb)) := by
  have O := fmF_functionsThere_o.1
  induction n with
  | zero => intro I J G pa pb y1 y2 hp; exact hp.elim
  | succ n ih =>
    intro I J G pa pb y1 y2 hp
    rw [fmF_functionsThere_L4_q] at hp
    have he := fmF_functionsThere_L4_e n I J G pa pb y1 y2
    refine fm_gr O 2 (C' := (6, [(0, .inr (.inr (.inr (.inr (0, 0))))), (1, .inl y1), (2, .inl y2)], [.inl 4, .inl y2], (I, J, G, fm_P pa pb))) rfl ?_
    refine fm_gb O rfl (fun h => ?_) (fun h => ?_)
    · have h1 : 4 ≤ y2 := h
      have he := he.trans (if_pos h1)
      refine fm_gr O 1 (C' := (31, [(0, .inr (.inr (.inr (.inr (0, 0))))), (1, .inl y1), (2, .inl y2)], [.inl y1], (I, J, G, fm_P pa pb))) rfl ?_
      exact fm_gRe O rfl trivial (by first | (rw [he]; done) | (rw [he]; rfl) | rfl) (by first | (rw [he]; done) | (rw [he]; rfl) | rfl)
    · have h1 : ¬ 4 ≤ y2 := h
      have he := he.trans (if_neg h1)
      have hp := hp.2 h1
      refine fm_gr O 3 (C' := (14, [(0, .inr (.inr (.inr (.inr (0, 0))))), (1, .inl y1), (2, .inl y2)], [.inl y2, .inr (.inr (.inr (.inr (1, 0))))], (I, J, G, fm_P pa pb))) rfl ?_
      refine fm_gg O rfl hp.1 ?_
      have hp := hp.2
      refine fm_gr O 1 (C' := (18, [(0, .inr (.inr (.inr (.inr (0, 0))))), (1, .inl y1), (2, .inl y2)], [.inl (I 2 y2.toNatClampNeg 0)], (I, J, G, fm_P pa pb))) rfl ?_
      refine fm_gb O rfl (fun h => ?_) (fun h => ?_)
      · have h2 : (I 2 y2.toNatClampNeg 0) = 0 := h
        have he := he.trans (if_pos h2)
        have hp := hp.1 h2
        refine fm_gr O 2 (C' := (4, [(2, .inl (y2 + 1)), (0, .inr (.inr (.inr (.inr (0, 0))))), (1, .inl y1)], [], (I, J, G, fm_P pa pb))) rfl ?_
        refine fm_gL O [1, 2, 0] rfl ?_
        rw [he]
        exact ih I J G pa pb y1 (y2 + 1) hp
      · have h2 : ¬ (I 2 y2.toNatClampNeg 0) = 0 := h
        have he := he.trans (if_neg h2)
        have hp := hp.2 h2
        refine fm_gr O 3 (C' := (4, [(2, .inl (y2 + 1)), (1, .inl (y1 + 1)), (0, .inr (.inr (.inr (.inr (0, 0)))))], [], (I, J, G, fm_P pa pb))) rfl ?_
        refine fm_gL O [2, 1, 0] rfl ?_
        rw [he]
        exact ih I J G pa pb (y1 + 1) (y2 + 1) hp
def fmF_functionsThere_f (I : fm_MI) (J : fm_MJ) (G : fm_MG) (pa : Nat × Nat) (pb : Nat × Nat) : Int32 :=
  fmF_functionsThere_L4_f 5 I J G pa pb 0 0
theorem fmF_functionsThere_e (I : fm_MI) (J : fm_MJ) (G : fm_MG) (pa : Nat × Nat) (pb : Nat × Nat) : fmF_functionsThere_f I J G pa pb = fmF_functionsThere_L4_f 5 I J G pa pb 0 0 := rfl
def fmF_functionsThere_p (I : fm_MI) (J : fm_MJ) (G : fm_MG) (pa : Nat × Nat) (pb : Nat × Nat) : Prop :=
  fmF_functionsThere_L4_p 5 I J G pa pb 0 0
set_option maxRecDepth 100000 in
set_option maxHeartbeats 4000000 in
theorem fmF_functionsThere_c {E : fm_Ev} (hl : E.1.stackTraces = false) {d : Nat} (hd : 0 ≤ d) (I : fm_MI) (J : fm_MJ) (G : fm_MG) (pa : Nat × Nat) (pb : Nat × Nat) (hp : fmF_functionsThere_p I J G pa pb) : fm_Ct E d fmF_functionsThere 0 [.inr (.inr (.inr (.inr (0, 0))))] (I, J, G, fm_P pa pb) (some (.inl (fmF_functionsThere_f I J G pa pb))) (I, J, G, fm_P pa pb) := by
  refine fm_ct fmF_functionsThere_o hl (Nat.le_of_ble_eq_true rfl) ?_
  have O := fmF_functionsThere_o.1
  unfold fmF_functionsThere_p at hp
  have he := fmF_functionsThere_e I J G pa pb
  refine fm_gr O 4 (C' := (4, [(2, .inl 0), (1, .inl 0), (0, .inr (.inr (.inr (.inr (0, 0)))))], [], (I, J, G, fm_P pa pb))) rfl ?_
  refine fm_gL O [2, 1, 0] rfl ?_
  rw [he]
  exact fmF_functionsThere_L4_c hl hd 5 I J G pa pb 0 0 hp
def fmF_count_f (I : fm_MI) (J : fm_MJ) (G : fm_MG) (pa : Nat × Nat) (pb : Nat × Nat) (wh : Int32) : Int32 :=
  if wh = 0 then (fm_let (fmF_functionsThere_f I J G pa pb) (fun (r1 : Int32) => r1)) else (if wh = 1 then (if (I 0 0 3) = 0 then 0 else 1) else (if wh = 2 then (I 18 0 0) else (if wh = 3 then (I 18 0 1) else (fm_let (fmF_isWithin_f (wh - 10) 3) (fun (r2 : Int32) => if r2 = 0 then (-1) else (I 2 ((wh - 10).toNatClampNeg) 4))))))
theorem fmF_count_e (I : fm_MI) (J : fm_MJ) (G : fm_MG) (pa : Nat × Nat) (pb : Nat × Nat) (wh : Int32) : fmF_count_f I J G pa pb wh = if wh = 0 then (fm_let (fmF_functionsThere_f I J G pa pb) (fun (r1 : Int32) => r1)) else (if wh = 1 then (if (I 0 0 3) = 0 then 0 else 1) else (if wh = 2 then (I 18 0 0) else (if wh = 3 then (I 18 0 1) else (fm_let (fmF_isWithin_f (wh - 10) 3) (fun (r2 : Int32) => if r2 = 0 then (-1) else (I 2 ((wh - 10).toNatClampNeg) 4)))))) := rfl
def fmF_count_p (I : fm_MI) (J : fm_MJ) (G : fm_MG) (pa : Nat × Nat) (pb : Nat × Nat) (wh : Int32) : Prop :=
  (wh = 0 → fmF_functionsThere_p I J G pa pb) ∧ (¬ wh = 0 → (wh = 1 → True) ∧ (¬ wh = 1 → (wh = 2 → True) ∧ (¬ wh = 2 → (wh = 3 → True) ∧ (¬ wh = 3 → fm_let (fmF_isWithin_f (wh - 10) 3) (fun (r2 : Int32) => (r2 = 0 → True) ∧ (¬ r2 = 0 → vp_in (wh - 10) 4))))))
set_option maxRecDepth 100000 in
set_option maxHeartbeats 4000000 in
theorem fmF_count_c {E : fm_Ev} (hl : E.1.stackTraces = false) {d : Nat} (hd : 1 ≤ d) (I : fm_MI) (J : fm_MJ) (G : fm_MG) (pa : Nat × Nat) (pb : Nat × Nat) (wh : Int32) (hp : fmF_count_p I J G pa pb wh) : fm_Ct E d fmF_count 0 [.inr (.inr (.inr (.inr (0, 0)))), .inl wh] (I, J, G, fm_P pa pb) (some (.inl (fmF_count_f I J G pa pb wh))) (I, J, G, fm_P pa pb) := by
  obtain ⟨d, rfl⟩ : ∃ d', d = d' + 1 := ⟨d - 1, by omega⟩
  refine fm_ct fmF_count_o hl (Nat.le_of_ble_eq_true rfl) ?_
  have O := fmF_count_o.1
  unfold fmF_count_p at hp
  have he := fmF_count_e I J G pa pb wh
  refine fm_gr O 1 (C' := (1, [(0, .inr (.inr (.inr (.inr (0, 0))))), (1, .inl wh)], [.inl wh], (I, J, G, fm_P pa pb))) rfl ?_
  by_cases h1 : wh = 0
  · have he := he.trans (if_pos h1)
    have hp := hp.1 h1
    refine fm_gs O 0 rfl (show wh.toInt = 0 from by rw [h1]; decide) ?_
    refine fm_gr O 1 (C' := (33, [(0, .inr (.inr (.inr (.inr (0, 0))))), (1, .inl wh)], [.inr (.inr (.inr (.inr (0, 0))))], (I, J, G, fm_P pa pb))) rfl ?_
    have K := fmF_functionsThere_c (d := d) hl (by omega) I J G pa pb hp
    generalize er1 : fmF_functionsThere_f I J G pa pb = r1 at he
    have he := he.trans (fm_letE _ _)
    rw [er1] at K
    refine fm_cV0 O fmF_functionsThere_o (i := 0) (as := []) (rest := []) (v := some (.inl r1)) rfl fk_0_87 rfl (by decide) fn_F_functionsThere (Nat.le_of_ble_eq_true rfl) (K) ?_
    exact fm_gRe O rfl trivial (by first | (rw [he]; done) | (rw [he]; rfl) | rfl) (by first | (rw [he]; done) | (rw [he]; rfl) | rfl)
  · have he := he.trans (if_neg h1)
    have hp := hp.2 h1
    by_cases h2 : wh = 1
    · have he := he.trans (if_pos h2)
      refine fm_gs O 1 rfl (show wh.toInt = 1 from by rw [h2]; decide) ?_
      refine fm_gr O 2 (C' := (41, [(0, .inr (.inr (.inr (.inr (0, 0))))), (1, .inl wh)], [.inl (I 0 0 3)], (I, J, G, fm_P pa pb))) rfl ?_
      refine fm_gb O rfl (fun h => ?_) (fun h => ?_)
      · have h3 : (I 0 0 3) = 0 := h
        have he := he.trans (if_pos h3)
        refine fm_gr O 1 (C' := (49, [(0, .inr (.inr (.inr (.inr (0, 0))))), (1, .inl wh)], [.inl 0], (I, J, G, fm_P pa pb))) rfl ?_
        exact fm_gRe O rfl trivial (by first | (rw [he]; done) | (rw [he]; rfl) | rfl) (by first | (rw [he]; done) | (rw [he]; rfl) | rfl)
      · have h3 : ¬ (I 0 0 3) = 0 := h
        have he := he.trans (if_neg h3)
        refine fm_gr O 2 (C' := (49, [(0, .inr (.inr (.inr (.inr (0, 0))))), (1, .inl wh)], [.inl 1], (I, J, G, fm_P pa pb))) rfl ?_
        exact fm_gRe O rfl trivial (by first | (rw [he]; done) | (rw [he]; rfl) | rfl) (by first | (rw [he]; done) | (rw [he]; rfl) | rfl)
    · have he := he.trans (if_neg h2)
      have hp := hp.2 h2
      by_cases h3 : wh = 2
      · have he := he.trans (if_pos h3)
        refine fm_gs O 2 rfl (show wh.toInt = 2 from by rw [h3]; decide) ?_
        refine fm_gr O 3 (C' := (57, [(0, .inr (.inr (.inr (.inr (0, 0))))), (1, .inl wh)], [.inl (I 18 0 0)], (I, J, G, fm_P pa pb))) rfl ?_
        exact fm_gRe O rfl trivial (by first | (rw [he]; done) | (rw [he]; rfl) | rfl) (by first | (rw [he]; done) | (rw [he]; rfl) | rfl)
      · have he := he.trans (if_neg h3)
        have hp := hp.2 h3
        by_cases h4 : wh = 3
        · have he := he.trans (if_pos h4)
          refine fm_gs O 3 rfl (show wh.toInt = 3 from by rw [h4]; decide) ?_
          refine fm_gr O 3 (C' := (65, [(0, .inr (.inr (.inr (.inr (0, 0))))), (1, .inl wh)], [.inl (I 18 0 1)], (I, J, G, fm_P pa pb))) rfl ?_
          exact fm_gRe O rfl trivial (by first | (rw [he]; done) | (rw [he]; rfl) | rfl) (by first | (rw [he]; done) | (rw [he]; rfl) | rfl)
        · have he := he.trans (if_neg h4)
          have hp := hp.2 h4
          have hz : wh.toInt < 0 ∨ 3 < wh.toInt := by
            have := lv_neT h1 (show (0 : Int32).toInt = 0 from by decide)
            have := lv_neT h2 (show (1 : Int32).toInt = 1 from by decide)
            have := lv_neT h3 (show (2 : Int32).toInt = 2 from by decide)
            have := lv_neT h4 (show (3 : Int32).toInt = 3 from by decide)
            omega
          refine fm_gt O rfl hz ?_
          refine fm_gr O 4 (C' := (71, [(0, .inr (.inr (.inr (.inr (0, 0))))), (1, .inl wh)], [.inl 3, .inl (wh - 10)], (I, J, G, fm_P pa pb))) rfl ?_
          have K := fmF_isWithin_c (d := d) hl (by omega) I J G pa pb (wh - 10) 3
          generalize er2 : fmF_isWithin_f (wh - 10) 3 = r2 at he hp
          have he := he.trans (fm_letE _ _)
          have hp := fm_letP hp
          rw [er2] at K
          refine fm_cS0 O fmF_isWithin_o (as := [.inl (wh - 10), .inl 3]) (rest := []) (v := some (.inl r2)) rfl fk_0_30 fn_F_isWithin (Nat.le_of_ble_eq_true rfl) (K) ?_
          refine fm_gb O rfl (fun h => ?_) (fun h => ?_)
          · have h5 : r2 = 0 := h
            have he := he.trans (if_pos h5)
            refine fm_gr O 1 (C' := (93, [(0, .inr (.inr (.inr (.inr (0, 0))))), (1, .inl wh)], [.inl (-1)], (I, J, G, fm_P pa pb))) rfl ?_
            exact fm_gRe O rfl trivial (by first | (rw [he]; done) | (rw [he]; rfl) | rfl) (by first | (rw [he]; done) | (rw [he]; rfl) | rfl)
          · have h5 : ¬ r2 = 0 := h
            have he := he.trans (if_neg h5)
            have hp := hp.2 h5
            refine fm_gr O 5 (C' := (85, [(0, .inr (.inr (.inr (.inr (0, 0))))), (1, .inl wh)], [.inl (wh - 10), .inr (.inr (.inr (.inr (1, 0))))], (I, J, G, fm_P pa pb))) rfl ?_
            refine fm_gg O rfl hp ?_
            refine fm_gr O 2 (C' := (93, [(0, .inr (.inr (.inr (.inr (0, 0))))), (1, .inl wh)], [.inl (I 2 ((wh - 10).toNatClampNeg) 4)], (I, J, G, fm_P pa pb))) rfl ?_
            exact fm_gRe O rfl trivial (by first | (rw [he]; done) | (rw [he]; rfl) | rfl) (by first | (rw [he]; done) | (rw [he]; rfl) | rfl)
def fmF_check_L7_f : Nat → fm_MI → fm_MJ → fm_MG → (Nat × Nat) → (Nat × Nat) → Int32 → Int32 × fm_MI × (Nat × Nat)
  | 0, I, J, G, pa, pb, y1 => (0, I, (0, 0))
  | n + 1, I, J, G, pa, pb, y1 => if 4 ≤ y1 then ((0, fm_u I 0 0 3 1, pa)) else (if (I 2 y1.toNatClampNeg 0) = 0 then (fmF_check_L7_f n I J G pa pb (y1 + 1)) else (fm_let (fmC_firstFault_f I J G pb y1) (fun (r1 : Int32 × fm_MI × (Nat × Nat)) => if r1.1 = 0 then (fmF_check_L7_f n r1.2.1 J G r1.2.2 pb (y1 + 1)) else (((10000 * y1) + r1.1, r1.2.1, r1.2.2)))))
theorem fmF_check_L7_e (n : Nat) (I : fm_MI) (J : fm_MJ) (G : fm_MG) (pa : Nat × Nat) (pb : Nat × Nat) (y1 : Int32) : fmF_check_L7_f (n + 1) I J G pa pb y1 = if 4 ≤ y1 then ((0, fm_u I 0 0 3 1, pa)) else (if (I 2 y1.toNatClampNeg 0) = 0 then (fmF_check_L7_f n I J G pa pb (y1 + 1)) else (fm_let (fmC_firstFault_f I J G pb y1) (fun (r1 : Int32 × fm_MI × (Nat × Nat)) => if r1.1 = 0 then (fmF_check_L7_f n r1.2.1 J G r1.2.2 pb (y1 + 1)) else (((10000 * y1) + r1.1, r1.2.1, r1.2.2))))) := rfl
def fmF_check_L7_p : Nat → fm_MI → fm_MJ → fm_MG → (Nat × Nat) → (Nat × Nat) → Int32 → Prop
  | 0, I, J, G, pa, pb, y1 => False
  | n + 1, I, J, G, pa, pb, y1 => (4 ≤ y1 → True) ∧ (¬ 4 ≤ y1 → (vp_in y1 4) ∧ (((I 2 y1.toNatClampNeg 0) = 0 → fmF_check_L7_p n I J G pa pb (y1 + 1)) ∧ (¬ (I 2 y1.toNatClampNeg 0) = 0 → fmC_firstFault_p I J G pb y1 ∧ (fm_let (fmC_firstFault_f I J G pb y1) (fun (r1 : Int32 × fm_MI × (Nat × Nat)) => (r1.1 = 0 → fmF_check_L7_p n r1.2.1 J G r1.2.2 pb (y1 + 1)) ∧ (¬ r1.1 = 0 → True))))))
theorem fmF_check_L7_q (n : Nat) (I : fm_MI) (J : fm_MJ) (G : fm_MG) (pa : Nat × Nat) (pb : Nat × Nat) (y1 : Int32) : fmF_check_L7_p (n + 1) I J G pa pb y1 = ((4 ≤ y1 → True) ∧ (¬ 4 ≤ y1 → (vp_in y1 4) ∧ (((I 2 y1.toNatClampNeg 0) = 0 → fmF_check_L7_p n I J G pa pb (y1 + 1)) ∧ (¬ (I 2 y1.toNatClampNeg 0) = 0 → fmC_firstFault_p I J G pb y1 ∧ (fm_let (fmC_firstFault_f I J G pb y1) (fun (r1 : Int32 × fm_MI × (Nat × Nat)) => (r1.1 = 0 → fmF_check_L7_p n r1.2.1 J G r1.2.2 pb (y1 + 1)) ∧ (¬ r1.1 = 0 → True))))))) := rfl
set_option maxRecDepth 100000 in
set_option maxHeartbeats 4000000 in
theorem fmF_check_L7_c {E : fm_Ev} (hl : E.1.stackTraces = false) {d : Nat} (hd : 6 ≤ d + 1) (n : Nat) : ∀ (I : fm_MI) (J : fm_MJ) (G : fm_MG) (pa : Nat × Nat) (pb : Nat × Nat) (y1 : Int32), fmF_check_L7_p n I J G pa pb y1 → fm_Go E (d + 1) fmF_check 0 (7, [(0, .inr (.inr (.inr (.inr (0, 0))))), (1, .inl y1)], [], (I, J, G, fm_P pa pb)) (fm_Zr E (some (.inl ((fmF_check_L7_f n I J G pa pb y1).1))) ((fmF_check_L7_f n I J G pa pb y1).2.1, J, G, fm_P ((fmF_check_L7_f n I J G pa pb y1).2.2) pb)) := by
  have O := fmF_check_o.1
  induction n with
  | zero => intro I J G pa pb y1 hp; exact hp.elim
  | succ n ih =>
    intro I J G pa pb y1 hp
    rw [fmF_check_L7_q] at hp
    have he := fmF_check_L7_e n I J G pa pb y1
    refine fm_gr O 2 (C' := (9, [(0, .inr (.inr (.inr (.inr (0, 0))))), (1, .inl y1)], [.inl 4, .inl y1], (I, J, G, fm_P pa pb))) rfl ?_
    refine fm_gb O rfl (fun h => ?_) (fun h => ?_)
    · have h1 : 4 ≤ y1 := h
      have he := he.trans (if_pos h1)
      refine fm_gr O 2 (C' := (61, [(0, .inr (.inr (.inr (.inr (0, 0))))), (1, .inl y1)], [.inl 1, .inr (.inr (.inr (.inr (0, 0))))], (I, J, G, fm_P pa pb))) rfl ?_
      refine fm_gg O rfl (Or.inr rfl) ?_
      refine fm_gr O 1 (C' := (65, [(0, .inr (.inr (.inr (.inr (0, 0))))), (1, .inl y1)], [.inl 0], (fm_u I 0 0 3 1, J, G, fm_P pa pb))) rfl ?_
      exact fm_gRe O rfl trivial (by first | (rw [he]; done) | (rw [he]; rfl) | rfl) (by first | (rw [he]; done) | (rw [he]; rfl) | rfl)
    · have h1 : ¬ 4 ≤ y1 := h
      have he := he.trans (if_neg h1)
      have hp := hp.2 h1
      refine fm_gr O 3 (C' := (17, [(0, .inr (.inr (.inr (.inr (0, 0))))), (1, .inl y1)], [.inl y1, .inr (.inr (.inr (.inr (1, 0))))], (I, J, G, fm_P pa pb))) rfl ?_
      refine fm_gg O rfl hp.1 ?_
      have hp := hp.2
      refine fm_gr O 1 (C' := (21, [(0, .inr (.inr (.inr (.inr (0, 0))))), (1, .inl y1)], [.inl (I 2 y1.toNatClampNeg 0)], (I, J, G, fm_P pa pb))) rfl ?_
      refine fm_gb O rfl (fun h => ?_) (fun h => ?_)
      · have h2 : (I 2 y1.toNatClampNeg 0) = 0 := h
        have he := he.trans (if_pos h2)
        have hp := hp.1 h2
        refine fm_gr O 3 (C' := (42, [(2, .inl 0), (0, .inr (.inr (.inr (.inr (0, 0))))), (1, .inl y1)], [.inl 0], (I, J, G, fm_P pa pb))) rfl ?_
        refine fm_gb O rfl (fun h => ?_) (fun h => ?_)
        rotate_left
        · exact absurd (show (0 : Int32) = 0 by decide) h
        · refine fm_gr O 2 (C' := (7, [(1, .inl (y1 + 1)), (2, .inl 0), (0, .inr (.inr (.inr (.inr (0, 0)))))], [], (I, J, G, fm_P pa pb))) rfl ?_
          refine fm_gL O [2, 0] rfl ?_
          rw [he]
          exact ih I J G pa pb (y1 + 1) hp
      · have h2 : ¬ (I 2 y1.toNatClampNeg 0) = 0 := h
        have he := he.trans (if_neg h2)
        have hp := hp.2 h2
        refine fm_gr O 5 (C' := (33, [(0, .inr (.inr (.inr (.inr (0, 0))))), (1, .inl y1)], [.inl y1, .inr (.inr (.inr (.inr (1, 0)))), .inr (.inr (.inr (.inr (13, 0))))], (I, J, G, fm_P pa pb))) rfl ?_
        have hc := hp.1
        have hp := hp.2
        have K := fmC_firstFault_c (d := d) hl (by omega) I J G pa pb y1 hc
        generalize er1 : fmC_firstFault_f I J G pb y1 = r1 at he hp
        have he := he.trans (fm_letE _ _)
        have hp := fm_letP hp
        rw [er1] at K
        refine fm_cV0 O fmC_firstFault_o (i := 0) (as := [.inr (.inr (.inr (.inr (1, 0)))), .inl y1]) (rest := []) (v := some (.inl r1.1)) rfl fk_0_63 rfl (by decide) fn_C_firstFault (Nat.le_of_ble_eq_true rfl) (K) ?_
        refine fm_gr O 3 (C' := (42, [(2, .inl r1.1), (0, .inr (.inr (.inr (.inr (0, 0))))), (1, .inl y1)], [.inl r1.1], (r1.2.1, J, G, fm_P r1.2.2 pb))) rfl ?_
        refine fm_gb O rfl (fun h => ?_) (fun h => ?_)
        · have h3 : r1.1 = 0 := h
          have he := he.trans (if_pos h3)
          have hp := hp.1 h3
          refine fm_gr O 2 (C' := (7, [(1, .inl (y1 + 1)), (2, .inl r1.1), (0, .inr (.inr (.inr (.inr (0, 0)))))], [], (r1.2.1, J, G, fm_P r1.2.2 pb))) rfl ?_
          refine fm_gL O [2, 0] rfl ?_
          rw [he]
          exact ih r1.2.1 J G r1.2.2 pb (y1 + 1) hp
        · have h3 : ¬ r1.1 = 0 := h
          have he := he.trans (if_neg h3)
          refine fm_gr O 5 (C' := (52, [(2, .inl r1.1), (0, .inr (.inr (.inr (.inr (0, 0))))), (1, .inl y1)], [.inl ((10000 * y1) + r1.1)], (r1.2.1, J, G, fm_P r1.2.2 pb))) rfl ?_
          exact fm_gRe O rfl trivial (by first | (rw [he]; done) | (rw [he]; rfl) | rfl) (by first | (rw [he]; done) | (rw [he]; rfl) | rfl)
def fmF_check_f (I : fm_MI) (J : fm_MJ) (G : fm_MG) (pa : Nat × Nat) (pb : Nat × Nat) : Int32 × fm_MI × (Nat × Nat) :=
  fmF_check_L7_f 5 (fm_u I 0 0 3 0) J G pa pb 0
theorem fmF_check_e (I : fm_MI) (J : fm_MJ) (G : fm_MG) (pa : Nat × Nat) (pb : Nat × Nat) : fmF_check_f I J G pa pb = fmF_check_L7_f 5 (fm_u I 0 0 3 0) J G pa pb 0 := rfl
def fmF_check_p (I : fm_MI) (J : fm_MJ) (G : fm_MG) (pa : Nat × Nat) (pb : Nat × Nat) : Prop :=
  fmF_check_L7_p 5 (fm_u I 0 0 3 0) J G pa pb 0
set_option maxRecDepth 100000 in
set_option maxHeartbeats 4000000 in
theorem fmF_check_c {E : fm_Ev} (hl : E.1.stackTraces = false) {d : Nat} (hd : 6 ≤ d) (I : fm_MI) (J : fm_MJ) (G : fm_MG) (pa : Nat × Nat) (pb : Nat × Nat) (hp : fmF_check_p I J G pa pb) : fm_Ct E d fmF_check 0 [.inr (.inr (.inr (.inr (0, 0))))] (I, J, G, fm_P pa pb) (some (.inl ((fmF_check_f I J G pa pb).1))) ((fmF_check_f I J G pa pb).2.1, J, G, fm_P ((fmF_check_f I J G pa pb).2.2) pb) := by
  obtain ⟨d, rfl⟩ : ∃ d', d = d' + 1 := ⟨d - 1, by omega⟩
  refine fm_ct fmF_check_o hl (Nat.le_of_ble_eq_true rfl) ?_
  have O := fmF_check_o.1
  unfold fmF_check_p at hp
  have he := fmF_check_e I J G pa pb
  refine fm_gr O 2 (C' := (2, [(0, .inr (.inr (.inr (.inr (0, 0)))))], [.inl 0, .inr (.inr (.inr (.inr (0, 0))))], (I, J, G, fm_P pa pb))) rfl ?_
  refine fm_gg O rfl (Or.inl rfl) ?_
  refine fm_gr O 2 (C' := (7, [(1, .inl 0), (0, .inr (.inr (.inr (.inr (0, 0)))))], [], (fm_u I 0 0 3 0, J, G, fm_P pa pb))) rfl ?_
  refine fm_gL O [1, 0] rfl ?_
  rw [he]
  exact fmF_check_L7_c hl hd 5 (fm_u I 0 0 3 0) J G pa pb 0 hp
