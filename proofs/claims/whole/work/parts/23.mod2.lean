/-! THE MODULE AND THE MACHINE, by program (wip/tools/walk.py, gen_c4.py) -/
def fmM_copy_f (J : fm_MJ) (G : fm_MG) (fro : Int32) (tou : Int32) : fm_MJ × fm_MG :=
  (fm_u J 20 0 tou.toNatClampNeg (J 20 0 fro.toNatClampNeg), fm_u G 21 0 tou.toNatClampNeg (G 21 0 fro.toNatClampNeg))
theorem fmM_copy_e (J : fm_MJ) (G : fm_MG) (fro : Int32) (tou : Int32) : fmM_copy_f J G fro tou = (fm_u J 20 0 tou.toNatClampNeg (J 20 0 fro.toNatClampNeg), fm_u G 21 0 tou.toNatClampNeg (G 21 0 fro.toNatClampNeg)) := rfl
def fmM_copy_p (fro : Int32) (tou : Int32) : Prop :=
  (vp_in fro 212) ∧ ((vp_in tou 212) ∧ ((vp_in fro 212) ∧ (vp_in tou 212)))
set_option maxRecDepth 100000 in
set_option maxHeartbeats 4000000 in
theorem fmM_copy_c {E : fm_Ev} (hl : E.1.stackTraces = false) {d : Nat} (hd : 0 ≤ d) (I : fm_MI) (J : fm_MJ) (G : fm_MG) (pa : Nat × Nat) (fro : Int32) (tou : Int32) (hp : fmM_copy_p fro tou) : fm_Ct E d fmM_copy 0 [.inr (.inr (.inr (.inr (18, 0)))), .inl fro, .inl tou] (I, J, G, fm_P pa (1, 0)) none (I, (fmM_copy_f J G fro tou).1, (fmM_copy_f J G fro tou).2, fm_P pa (1, 0)) := by
  refine fm_ct fmM_copy_o hl (Nat.le_of_ble_eq_true rfl) ?_
  have O := fmM_copy_o.1
  unfold fmM_copy_p at hp
  have he := fmM_copy_e J G fro tou
  refine fm_gr O 6 (C' := (10, [(0, .inr (.inr (.inr (.inr (18, 0))))), (1, .inl fro), (2, .inl tou)], [.inl fro, .inr (.inr (.inr (.inr (20, 0)))), .inl tou, .inr (.inr (.inr (.inr (20, 0))))], (I, J, G, fm_P pa (1, 0)))) rfl ?_
  refine fm_gg O rfl hp.1 ?_
  have hp := hp.2
  refine fm_gg O rfl hp.1 ?_
  have hp := hp.2
  refine fm_gr O 6 (C' := (22, [(0, .inr (.inr (.inr (.inr (18, 0))))), (1, .inl fro), (2, .inl tou)], [.inl fro, .inr (.inr (.inr (.inr (21, 0)))), .inl tou, .inr (.inr (.inr (.inr (21, 0))))], (I, fm_u J 20 0 tou.toNatClampNeg (J 20 0 fro.toNatClampNeg), G, fm_P pa (1, 0)))) rfl ?_
  refine fm_gg O rfl hp.1 ?_
  have hp := hp.2
  refine fm_gg O rfl hp ?_
  exact fm_gRe O rfl trivial (by first | (rw [he]; done) | (rw [he]; rfl) | rfl) (by first | (rw [he]; done) | (rw [he]; rfl) | rfl)
def fmM_valueOf_f (J : fm_MJ) (G : fm_MG) (rg : Int32) (ty : Int32) : UInt64 :=
  if 1 < ty then (G 21 0 rg.toNatClampNeg) else (FP.l2d (J 20 0 rg.toNatClampNeg))
theorem fmM_valueOf_e (J : fm_MJ) (G : fm_MG) (rg : Int32) (ty : Int32) : fmM_valueOf_f J G rg ty = if 1 < ty then (G 21 0 rg.toNatClampNeg) else (FP.l2d (J 20 0 rg.toNatClampNeg)) := rfl
def fmM_valueOf_p (rg : Int32) (ty : Int32) : Prop :=
  (1 < ty → vp_in rg 212) ∧ (¬ 1 < ty → vp_in rg 212)
set_option maxRecDepth 100000 in
set_option maxHeartbeats 4000000 in
theorem fmM_valueOf_c {E : fm_Ev} (hl : E.1.stackTraces = false) {d : Nat} (hd : 0 ≤ d) (I : fm_MI) (J : fm_MJ) (G : fm_MG) (pa : Nat × Nat) (pb : Nat × Nat) (rg : Int32) (ty : Int32) (hp : fmM_valueOf_p rg ty) : fm_Ct E d fmM_valueOf 0 [.inr (.inr (.inr (.inr (18, 0)))), .inl rg, .inl ty] (I, J, G, fm_P pa pb) (some (.inr (.inr (.inr (.inl (fmM_valueOf_f J G rg ty)))))) (I, J, G, fm_P pa pb) := by
  refine fm_ct fmM_valueOf_o hl (Nat.le_of_ble_eq_true rfl) ?_
  have O := fmM_valueOf_o.1
  unfold fmM_valueOf_p at hp
  have he := fmM_valueOf_e J G rg ty
  refine fm_gr O 2 (C' := (2, [(0, .inr (.inr (.inr (.inr (18, 0))))), (1, .inl rg), (2, .inl ty)], [.inl 1, .inl ty], (I, J, G, fm_P pa pb))) rfl ?_
  refine fm_gb O rfl (fun h => ?_) (fun h => ?_)
  · have h1 : 1 < ty := h
    have he := he.trans (if_pos h1)
    have hp := hp.1 h1
    refine fm_gr O 3 (C' := (20, [(0, .inr (.inr (.inr (.inr (18, 0))))), (1, .inl rg), (2, .inl ty)], [.inl rg, .inr (.inr (.inr (.inr (21, 0))))], (I, J, G, fm_P pa pb))) rfl ?_
    refine fm_gg O rfl hp ?_
    exact fm_gRe O rfl trivial (by first | (rw [he]; done) | (rw [he]; rfl) | rfl) (by first | (rw [he]; done) | (rw [he]; rfl) | rfl)
  · have h1 : ¬ 1 < ty := h
    have he := he.trans (if_neg h1)
    have hp := hp.2 h1
    refine fm_gr O 3 (C' := (10, [(0, .inr (.inr (.inr (.inr (18, 0))))), (1, .inl rg), (2, .inl ty)], [.inl rg, .inr (.inr (.inr (.inr (20, 0))))], (I, J, G, fm_P pa pb))) rfl ?_
    refine fm_gg O rfl hp ?_
    refine fm_gr O 2 (C' := (21, [(0, .inr (.inr (.inr (.inr (18, 0))))), (1, .inl rg), (2, .inl ty)], [.inr (.inr (.inr (.inl (FP.l2d (J 20 0 rg.toNatClampNeg)))))], (I, J, G, fm_P pa pb))) rfl ?_
    exact fm_gRe O rfl trivial (by first | (rw [he]; done) | (rw [he]; rfl) | rfl) (by first | (rw [he]; done) | (rw [he]; rfl) | rfl)
def fmM_valueOfGlobal_f (J : fm_MJ) (G : fm_MG) (g : Int32) : UInt64 :=
  fm_let (fmM_valueOf_f J G (208 + g) g) (fun (r1 : UInt64) => r1)
theorem fmM_valueOfGlobal_e (J : fm_MJ) (G : fm_MG) (g : Int32) : fmM_valueOfGlobal_f J G g = fm_let (fmM_valueOf_f J G (208 + g) g) (fun (r1 : UInt64) => r1) := rfl
def fmM_valueOfGlobal_p (g : Int32) : Prop :=
  fmM_valueOf_p (208 + g) g
set_option maxRecDepth 100000 in
set_option maxHeartbeats 4000000 in
theorem fmM_valueOfGlobal_c {E : fm_Ev} (hl : E.1.stackTraces = false) {d : Nat} (hd : 1 ≤ d) (I : fm_MI) (J : fm_MJ) (G : fm_MG) (pa : Nat × Nat) (pb : Nat × Nat) (g : Int32) (hp : fmM_valueOfGlobal_p g) : fm_Ct E d fmM_valueOfGlobal 0 [.inr (.inr (.inr (.inr (18, 0)))), .inl g] (I, J, G, fm_P pa pb) (some (.inr (.inr (.inr (.inl (fmM_valueOfGlobal_f J G g)))))) (I, J, G, fm_P pa pb) := by
  obtain ⟨d, rfl⟩ : ∃ d', d = d' + 1 := ⟨d - 1, by omega⟩
  refine fm_ct fmM_valueOfGlobal_o hl (Nat.le_of_ble_eq_true rfl) ?_
  have O := fmM_valueOfGlobal_o.1
  unfold fmM_valueOfGlobal_p at hp
  have he := fmM_valueOfGlobal_e J G g
  refine fm_gr O 5 (C' := (7, [(0, .inr (.inr (.inr (.inr (18, 0))))), (1, .inl g)], [.inl g, .inl (208 + g), .inr (.inr (.inr (.inr (18, 0))))], (I, J, G, fm_P pa pb))) rfl ?_
  have K := fmM_valueOf_c (d := d) hl (by omega) I J G pa pb (208 + g) g hp
  generalize er1 : fmM_valueOf_f J G (208 + g) g = r1 at he
  have he := he.trans (fm_letE _ _)
  rw [er1] at K
  refine fm_cV0 O fmM_valueOf_o (i := 0) (as := [.inl (208 + g), .inl g]) (rest := []) (v := some (.inr (.inr (.inr (.inl r1))))) rfl fk_5_73 rfl (by decide) fn_M_valueOf (Nat.le_of_ble_eq_true rfl) (K) ?_
  exact fm_gRe O rfl trivial (by first | (rw [he]; done) | (rw [he]; rfl) | rfl) (by first | (rw [he]; done) | (rw [he]; rfl) | rfl)
def fmM_result_f (I : fm_MI) (J : fm_MJ) (G : fm_MG) (f : Nat) : UInt64 :=
  if (I 2 f 3) = 4 then FP.dconst0 else (fm_let (fmM_valueOf_f J G (I 2 f 2) (I 2 f 3)) (fun (r1 : UInt64) => r1))
theorem fmM_result_e (I : fm_MI) (J : fm_MJ) (G : fm_MG) (f : Nat) : fmM_result_f I J G f = if (I 2 f 3) = 4 then FP.dconst0 else (fm_let (fmM_valueOf_f J G (I 2 f 2) (I 2 f 3)) (fun (r1 : UInt64) => r1)) := rfl
def fmM_result_p (I : fm_MI) (f : Nat) : Prop :=
  ((I 2 f 3) = 4 → True) ∧ (¬ (I 2 f 3) = 4 → fmM_valueOf_p (I 2 f 2) (I 2 f 3))
set_option maxRecDepth 100000 in
set_option maxHeartbeats 4000000 in
theorem fmM_result_c {E : fm_Ev} (hl : E.1.stackTraces = false) {d : Nat} (hd : 1 ≤ d) (I : fm_MI) (J : fm_MJ) (G : fm_MG) (pa : Nat × Nat) (f : Nat) (hp : fmM_result_p I f) : fm_Ct E d fmM_result 0 [.inr (.inr (.inr (.inr (18, 0)))), .inr (.inr (.inr (.inr (2, f))))] (I, J, G, fm_P pa (1, 0)) (some (.inr (.inr (.inr (.inl (fmM_result_f I J G f)))))) (I, J, G, fm_P pa (1, 0)) := by
  obtain ⟨d, rfl⟩ : ∃ d', d = d' + 1 := ⟨d - 1, by omega⟩
  refine fm_ct fmM_result_o hl (Nat.le_of_ble_eq_true rfl) ?_
  have O := fmM_result_o.1
  unfold fmM_result_p at hp
  have he := fmM_result_e I J G f
  refine fm_gr O 3 (C' := (5, [(0, .inr (.inr (.inr (.inr (18, 0))))), (1, .inr (.inr (.inr (.inr (2, f)))))], [.inl 4, .inl (I 2 f 3)], (I, J, G, fm_P pa (1, 0)))) rfl ?_
  refine fm_gb O rfl (fun h => ?_) (fun h => ?_)
  · have h1 : (I 2 f 3) = 4 := h
    have he := he.trans (if_pos h1)
    refine fm_gr O 2 (C' := (24, [(0, .inr (.inr (.inr (.inr (18, 0))))), (1, .inr (.inr (.inr (.inr (2, f)))))], [.inr (.inr (.inr (.inl FP.dconst0)))], (I, J, G, fm_P pa (1, 0)))) rfl ?_
    exact fm_gRe O rfl trivial (by first | (rw [he]; done) | (rw [he]; rfl) | rfl) (by first | (rw [he]; done) | (rw [he]; rfl) | rfl)
  · have h1 : ¬ (I 2 f 3) = 4 := h
    have he := he.trans (if_neg h1)
    have hp := hp.2 h1
    refine fm_gr O 5 (C' := (21, [(0, .inr (.inr (.inr (.inr (18, 0))))), (1, .inr (.inr (.inr (.inr (2, f)))))], [.inl (I 2 f 3), .inl (I 2 f 2), .inr (.inr (.inr (.inr (18, 0))))], (I, J, G, fm_P pa (1, 0)))) rfl ?_
    have K := fmM_valueOf_c (d := d) hl (by omega) I J G pa ((1, 0)) (I 2 f 2) (I 2 f 3) hp
    generalize er1 : fmM_valueOf_f J G (I 2 f 2) (I 2 f 3) = r1 at he
    have he := he.trans (fm_letE _ _)
    rw [er1] at K
    refine fm_cV0 O fmM_valueOf_o (i := 0) (as := [.inl (I 2 f 2), .inl (I 2 f 3)]) (rest := []) (v := some (.inr (.inr (.inr (.inl r1))))) rfl fk_5_73 rfl (by decide) fn_M_valueOf (Nat.le_of_ble_eq_true rfl) (K) ?_
    exact fm_gRe O rfl trivial (by first | (rw [he]; done) | (rw [he]; rfl) | rfl) (by first | (rw [he]; done) | (rw [he]; rfl) | rfl)
def fmM_enter_L58_f : Nat → fm_MI → fm_MJ → fm_MG → (Nat × Nat) → Int32 → Int32 → fm_MI × fm_MJ × fm_MG
  | 0, I, J, G, pa, y1, y2 => (I, J, G)
  | n + 1, I, J, G, pa, y1, y2 => if (I 2 y1.toNatClampNeg 2) ≤ y2 then ((I, J, G)) else (fmM_enter_L58_f n I (fm_u J 20 0 (((I 18 0 6) + y2).toNatClampNeg) 0) (fm_u G 21 0 (((I 18 0 6) + y2).toNatClampNeg) FP.dconst0) pa y1 (y2 + 1))
theorem fmM_enter_L58_e (n : Nat) (I : fm_MI) (J : fm_MJ) (G : fm_MG) (pa : Nat × Nat) (y1 : Int32) (y2 : Int32) : fmM_enter_L58_f (n + 1) I J G pa y1 y2 = if (I 2 y1.toNatClampNeg 2) ≤ y2 then ((I, J, G)) else (fmM_enter_L58_f n I (fm_u J 20 0 (((I 18 0 6) + y2).toNatClampNeg) 0) (fm_u G 21 0 (((I 18 0 6) + y2).toNatClampNeg) FP.dconst0) pa y1 (y2 + 1)) := rfl
def fmM_enter_L58_p : Nat → fm_MI → fm_MJ → fm_MG → (Nat × Nat) → Int32 → Int32 → Prop
  | 0, I, J, G, pa, y1, y2 => False
  | n + 1, I, J, G, pa, y1, y2 => (vp_in y1 4) ∧ (((I 2 y1.toNatClampNeg 2) ≤ y2 → True) ∧ (¬ (I 2 y1.toNatClampNeg 2) ≤ y2 → (vp_in ((I 18 0 6) + y2) 212) ∧ ((vp_in ((I 18 0 6) + y2) 212) ∧ (fmM_enter_L58_p n I (fm_u J 20 0 (((I 18 0 6) + y2).toNatClampNeg) 0) (fm_u G 21 0 (((I 18 0 6) + y2).toNatClampNeg) FP.dconst0) pa y1 (y2 + 1)))))
theorem fmM_enter_L58_q (n : Nat) (I : fm_MI) (J : fm_MJ) (G : fm_MG) (pa : Nat × Nat) (y1 : Int32) (y2 : Int32) : fmM_enter_L58_p (n + 1) I J G pa y1 y2 = ((vp_in y1 4) ∧ (((I 2 y1.toNatClampNeg 2) ≤ y2 → True) ∧ (¬ (I 2 y1.toNatClampNeg 2) ≤ y2 → (vp_in ((I 18 0 6) + y2) 212) ∧ ((vp_in ((I 18 0 6) + y2) 212) ∧ (fmM_enter_L58_p n I (fm_u J 20 0 (((I 18 0 6) + y2).toNatClampNeg) 0) (fm_u G 21 0 (((I 18 0 6) + y2).toNatClampNeg) FP.dconst0) pa y1 (y2 + 1)))))) := rfl
set_option maxRecDepth 100000 in
set_option maxHeartbeats 4000000 in
theorem fmM_enter_L58_c {E : fm_Ev} (hl : E.1.stackTraces = false) {d : Nat} (hd : 1 ≤ d + 1) (n : Nat) : ∀ (I : fm_MI) (J : fm_MJ) (G : fm_MG) (pa : Nat × Nat) (y1 : Int32) (y2 : Int32), fmM_enter_L58_p n I J G pa y1 y2 → fm_Go E (d + 1) fmM_enter 0 (58, [(0, .inr (.inr (.inr (.inr (18, 0))))), (1, .inl y1), (2, .inl y2)], [], (I, J, G, fm_P pa (1, 0))) (fm_Zr E none ((fmM_enter_L58_f n I J G pa y1 y2).1, (fmM_enter_L58_f n I J G pa y1 y2).2.1, (fmM_enter_L58_f n I J G pa y1 y2).2.2, fm_P pa (1, 0))) := by
  have O := fmM_enter_o.1
  induction n with
  | zero => intro I J G pa y1 y2 hp; exact hp.elim
  | succ n ih =>
    intro I J G pa y1 y2 hp
    rw [fmM_enter_L58_q] at hp
    have he := fmM_enter_L58_e n I J G pa y1 y2
    refine fm_gr O 4 (C' := (64, [(0, .inr (.inr (.inr (.inr (18, 0))))), (1, .inl y1), (2, .inl y2)], [.inl y1, .inr (.inr (.inr (.inr (1, 0)))), .inl y2], (I, J, G, fm_P pa (1, 0)))) rfl ?_
    refine fm_gg O rfl hp.1 ?_
    have hp := hp.2
    refine fm_gr O 1 (C' := (68, [(0, .inr (.inr (.inr (.inr (18, 0))))), (1, .inl y1), (2, .inl y2)], [.inl (I 2 y1.toNatClampNeg 2), .inl y2], (I, J, G, fm_P pa (1, 0)))) rfl ?_
    refine fm_gb O rfl (fun h => ?_) (fun h => ?_)
    · have h1 : (I 2 y1.toNatClampNeg 2) ≤ y2 := h
      have he := he.trans (if_pos h1)
      exact fm_gRe O rfl trivial (by first | (rw [he]; done) | (rw [he]; rfl) | rfl) (by first | (rw [he]; done) | (rw [he]; rfl) | rfl)
    · have h1 : ¬ (I 2 y1.toNatClampNeg 2) ≤ y2 := h
      have he := he.trans (if_neg h1)
      have hp := hp.2 h1
      refine fm_gr O 7 (C' := (82, [(0, .inr (.inr (.inr (.inr (18, 0))))), (1, .inl y1), (2, .inl y2)], [.inr (.inl 0), .inl ((I 18 0 6) + y2), .inr (.inr (.inr (.inr (20, 0))))], (I, J, G, fm_P pa (1, 0)))) rfl ?_
      refine fm_gg O rfl hp.1 ?_
      have hp := hp.2
      refine fm_gr O 7 (C' := (94, [(0, .inr (.inr (.inr (.inr (18, 0))))), (1, .inl y1), (2, .inl y2)], [.inr (.inr (.inr (.inl FP.dconst0))), .inl ((I 18 0 6) + y2), .inr (.inr (.inr (.inr (21, 0))))], (I, fm_u J 20 0 (((I 18 0 6) + y2).toNatClampNeg) 0, G, fm_P pa (1, 0)))) rfl ?_
      refine fm_gg O rfl hp.1 ?_
      have hp := hp.2
      refine fm_gr O 2 (C' := (58, [(2, .inl (y2 + 1)), (0, .inr (.inr (.inr (.inr (18, 0))))), (1, .inl y1)], [], (I, fm_u J 20 0 (((I 18 0 6) + y2).toNatClampNeg) 0, fm_u G 21 0 (((I 18 0 6) + y2).toNatClampNeg) FP.dconst0, fm_P pa (1, 0)))) rfl ?_
      refine fm_gL O [1, 2, 0] rfl ?_
      rw [he]
      exact ih I (fm_u J 20 0 (((I 18 0 6) + y2).toNatClampNeg) 0) (fm_u G 21 0 (((I 18 0 6) + y2).toNatClampNeg) FP.dconst0) pa y1 (y2 + 1) hp
def fmM_enter_f (I : fm_MI) (J : fm_MJ) (G : fm_MG) (pa : Nat × Nat) (f : Int32) : fm_MI × fm_MJ × fm_MG :=
  fmM_enter_L58_f 7 (fm_u (fm_u (fm_u (fm_u (fm_u I 22 0 ((I 18 0 5).toNatClampNeg) f) 23 0 ((I 18 0 5).toNatClampNeg) 0) 18 0 6 ((I 18 0 5) * 26)) 18 0 5 ((I 18 0 5) + 1)) 18 0 1 (if I 18 0 1 < (I 18 0 5) + 1 then (I 18 0 5) + 1 else I 18 0 1)) J G pa f 0
theorem fmM_enter_e (I : fm_MI) (J : fm_MJ) (G : fm_MG) (pa : Nat × Nat) (f : Int32) : fmM_enter_f I J G pa f = fmM_enter_L58_f 7 (fm_u (fm_u (fm_u (fm_u (fm_u I 22 0 ((I 18 0 5).toNatClampNeg) f) 23 0 ((I 18 0 5).toNatClampNeg) 0) 18 0 6 ((I 18 0 5) * 26)) 18 0 5 ((I 18 0 5) + 1)) 18 0 1 (if I 18 0 1 < (I 18 0 5) + 1 then (I 18 0 5) + 1 else I 18 0 1)) J G pa f 0 := rfl
def fmM_enter_p (I : fm_MI) (J : fm_MJ) (G : fm_MG) (pa : Nat × Nat) (f : Int32) : Prop :=
  (vp_in (I 18 0 5) 8) ∧ ((vp_in (I 18 0 5) 8) ∧ (fmM_enter_L58_p 7 (fm_u (fm_u (fm_u (fm_u (fm_u I 22 0 ((I 18 0 5).toNatClampNeg) f) 23 0 ((I 18 0 5).toNatClampNeg) 0) 18 0 6 ((I 18 0 5) * 26)) 18 0 5 ((I 18 0 5) + 1)) 18 0 1 (if I 18 0 1 < (I 18 0 5) + 1 then (I 18 0 5) + 1 else I 18 0 1)) J G pa f 0))
set_option maxRecDepth 100000 in
set_option maxHeartbeats 4000000 in
theorem fmM_enter_c {E : fm_Ev} (hl : E.1.stackTraces = false) {d : Nat} (hd : 1 ≤ d) (I : fm_MI) (J : fm_MJ) (G : fm_MG) (pa : Nat × Nat) (f : Int32) (hp : fmM_enter_p I J G pa f) : fm_Ct E d fmM_enter 0 [.inr (.inr (.inr (.inr (18, 0)))), .inl f] (I, J, G, fm_P pa (1, 0)) none ((fmM_enter_f I J G pa f).1, (fmM_enter_f I J G pa f).2.1, (fmM_enter_f I J G pa f).2.2, fm_P pa (1, 0)) := by
  obtain ⟨d, rfl⟩ : ∃ d', d = d' + 1 := ⟨d - 1, by omega⟩
  refine fm_ct fmM_enter_o hl (Nat.le_of_ble_eq_true rfl) ?_
  have O := fmM_enter_o.1
  unfold fmM_enter_p at hp
  have he := fmM_enter_e I J G pa f
  refine fm_gr O 5 (C' := (9, [(0, .inr (.inr (.inr (.inr (18, 0))))), (1, .inl f)], [.inl f, .inl (I 18 0 5), .inr (.inr (.inr (.inr (22, 0))))], (I, J, G, fm_P pa (1, 0)))) rfl ?_
  refine fm_gg O rfl hp.1 ?_
  have hp := hp.2
  refine fm_gr O 5 (C' := (19, [(0, .inr (.inr (.inr (.inr (18, 0))))), (1, .inl f)], [.inl 0, .inl (I 18 0 5), .inr (.inr (.inr (.inr (23, 0))))], (fm_u I 22 0 ((I 18 0 5).toNatClampNeg) f, J, G, fm_P pa (1, 0)))) rfl ?_
  refine fm_gg O rfl hp.1 ?_
  have hp := hp.2
  refine fm_gr O 17 (C' := (50, [(0, .inr (.inr (.inr (.inr (18, 0))))), (1, .inl f)], [.inl ((I 18 0 5) + 1), .inl (I 18 0 1), .inr (.inr (.inr (.inr (18, 0))))], (fm_u (fm_u (fm_u (fm_u I 22 0 ((I 18 0 5).toNatClampNeg) f) 23 0 ((I 18 0 5).toNatClampNeg) 0) 18 0 6 ((I 18 0 5) * 26)) 18 0 5 ((I 18 0 5) + 1), J, G, fm_P pa (1, 0)))) rfl ?_
  refine fm_gM (d := d) O rfl fk_max (Nat.le_of_ble_eq_true rfl) ?_
  refine fm_gr O 3 (C' := (58, [(2, .inl 0), (0, .inr (.inr (.inr (.inr (18, 0))))), (1, .inl f)], [], (fm_u (fm_u (fm_u (fm_u (fm_u I 22 0 ((I 18 0 5).toNatClampNeg) f) 23 0 ((I 18 0 5).toNatClampNeg) 0) 18 0 6 ((I 18 0 5) * 26)) 18 0 5 ((I 18 0 5) + 1)) 18 0 1 (if I 18 0 1 < (I 18 0 5) + 1 then (I 18 0 5) + 1 else I 18 0 1), J, G, fm_P pa (1, 0)))) rfl ?_
  refine fm_gL O [1, 2, 0] rfl ?_
  rw [he]
  exact fmM_enter_L58_c hl hd 7 (fm_u (fm_u (fm_u (fm_u (fm_u I 22 0 ((I 18 0 5).toNatClampNeg) f) 23 0 ((I 18 0 5).toNatClampNeg) 0) 18 0 6 ((I 18 0 5) * 26)) 18 0 5 ((I 18 0 5) + 1)) 18 0 1 (if I 18 0 1 < (I 18 0 5) + 1 then (I 18 0 5) + 1 else I 18 0 1)) J G pa f 0 hp
def fmM_begin_f (I : fm_MI) (J : fm_MJ) (G : fm_MG) (pa : Nat × Nat) (f : Int32) : fm_MI × fm_MJ × fm_MG :=
  fm_let (fmM_enter_f (fm_u (fm_u (fm_u I 18 0 0 0) 18 0 1 0) 18 0 5 0) J G pa f) (fun (r1 : fm_MI × fm_MJ × fm_MG) => (r1.1, r1.2.1, r1.2.2))
theorem fmM_begin_e (I : fm_MI) (J : fm_MJ) (G : fm_MG) (pa : Nat × Nat) (f : Int32) : fmM_begin_f I J G pa f = fm_let (fmM_enter_f (fm_u (fm_u (fm_u I 18 0 0 0) 18 0 1 0) 18 0 5 0) J G pa f) (fun (r1 : fm_MI × fm_MJ × fm_MG) => (r1.1, r1.2.1, r1.2.2)) := rfl
def fmM_begin_p (I : fm_MI) (J : fm_MJ) (G : fm_MG) (pa : Nat × Nat) (f : Int32) : Prop :=
  fmM_enter_p (fm_u (fm_u (fm_u I 18 0 0 0) 18 0 1 0) 18 0 5 0) J G pa f
set_option maxRecDepth 100000 in
set_option maxHeartbeats 4000000 in
theorem fmM_begin_c {E : fm_Ev} (hl : E.1.stackTraces = false) {d : Nat} (hd : 2 ≤ d) (I : fm_MI) (J : fm_MJ) (G : fm_MG) (pa : Nat × Nat) (pb : Nat × Nat) (f : Int32) (hp : fmM_begin_p I J G pa f) : fm_Ct E d fmM_begin 0 [.inr (.inr (.inr (.inr (18, 0)))), .inr (.inr (.inr (.inr (1, 0)))), .inl f] (I, J, G, fm_P pa pb) none ((fmM_begin_f I J G pa f).1, (fmM_begin_f I J G pa f).2.1, (fmM_begin_f I J G pa f).2.2, fm_P pa (1, 0)) := by
  obtain ⟨d, rfl⟩ : ∃ d', d = d' + 1 := ⟨d - 1, by omega⟩
  refine fm_ct fmM_begin_o hl (Nat.le_of_ble_eq_true rfl) ?_
  have O := fmM_begin_o.1
  unfold fmM_begin_p at hp
  have he := fmM_begin_e I J G pa f
  refine fm_gr O 3 (C' := (5, [(0, .inr (.inr (.inr (.inr (18, 0))))), (1, .inr (.inr (.inr (.inr (1, 0))))), (2, .inl f)], [], (I, J, G, fm_u (fm_P pa pb) 18 0 2 (1, 0)))) rfl ?_
  rw [fm_Pb]
  refine fm_gr O 11 (C' := (22, [(0, .inr (.inr (.inr (.inr (18, 0))))), (1, .inr (.inr (.inr (.inr (1, 0))))), (2, .inl f)], [.inl f, .inr (.inr (.inr (.inr (18, 0))))], (fm_u (fm_u (fm_u I 18 0 0 0) 18 0 1 0) 18 0 5 0, J, G, fm_P pa (1, 0)))) rfl ?_
  have K := fmM_enter_c (d := d) hl (by omega) (fm_u (fm_u (fm_u I 18 0 0 0) 18 0 1 0) 18 0 5 0) J G pa f hp
  generalize er1 : fmM_enter_f (fm_u (fm_u (fm_u I 18 0 0 0) 18 0 1 0) 18 0 5 0) J G pa f = r1 at he
  have he := he.trans (fm_letE _ _)
  rw [er1] at K
  refine fm_cV0 O fmM_enter_o (i := 0) (as := [.inl f]) (rest := []) (v := none) rfl fk_5_42 rfl (by decide) fn_M_enter (Nat.le_of_ble_eq_true rfl) (K) ?_
  exact fm_gRe O rfl trivial (by first | (rw [he]; done) | (rw [he]; rfl) | rfl) (by first | (rw [he]; done) | (rw [he]; rfl) | rfl)
def fmA_asFloat_f (x : UInt64) : UInt64 :=
  if (Op.cmpValue (FP.dcmp x x) .l) = 0 then (FP.f2d (FP.d2f x)) else x
theorem fmA_asFloat_e (x : UInt64) : fmA_asFloat_f x = if (Op.cmpValue (FP.dcmp x x) .l) = 0 then (FP.f2d (FP.d2f x)) else x := rfl
def fmA_asFloat_p (x : UInt64) : Prop :=
  ((Op.cmpValue (FP.dcmp x x) .l) = 0 → (vf_n32 (FP.d2f x)) ∧ (vf_n64 (FP.f2d (FP.d2f x)))) ∧ (¬ (Op.cmpValue (FP.dcmp x x) .l) = 0 → True)
set_option maxRecDepth 100000 in
set_option maxHeartbeats 4000000 in
theorem fmA_asFloat_c {E : fm_Ev} (hl : E.1.stackTraces = false) {d : Nat} (hd : 0 ≤ d) (I : fm_MI) (J : fm_MJ) (G : fm_MG) (pa : Nat × Nat) (pb : Nat × Nat) (x : UInt64) (hp : fmA_asFloat_p x) : fm_Ct E d fmA_asFloat 0 [.inr (.inr (.inr (.inl x)))] (I, J, G, fm_P pa pb) (some (.inr (.inr (.inr (.inl (fmA_asFloat_f x)))))) (I, J, G, fm_P pa pb) := by
  refine fm_ct fmA_asFloat_o hl (Nat.le_of_ble_eq_true rfl) ?_
  have O := fmA_asFloat_o.1
  unfold fmA_asFloat_p at hp
  have he := fmA_asFloat_e x
  refine fm_gr O 3 (C' := (3, [(0, .inr (.inr (.inr (.inl x))))], [.inl (Op.cmpValue (FP.dcmp x x) .l)], (I, J, G, fm_P pa pb))) rfl ?_
  refine fm_gb O rfl (fun h => ?_) (fun h => ?_)
  · have h1 : (Op.cmpValue (FP.dcmp x x) .l) = 0 := h
    have he := he.trans (if_pos h1)
    have hp := hp.1 h1
    refine fm_gr O 1 (C' := (11, [(0, .inr (.inr (.inr (.inl x))))], [.inr (.inr (.inr (.inl x)))], (I, J, G, fm_P pa pb))) rfl ?_
    refine fm_gg O rfl hp.1 ?_
    have hp := hp.2
    refine fm_gg O rfl hp ?_
    exact fm_gRe O rfl trivial (by first | (rw [he]; done) | (rw [he]; rfl) | rfl) (by first | (rw [he]; done) | (rw [he]; rfl) | rfl)
  · have h1 : ¬ (Op.cmpValue (FP.dcmp x x) .l) = 0 := h
    have he := he.trans (if_neg h1)
    refine fm_gr O 2 (C' := (13, [(0, .inr (.inr (.inr (.inl x))))], [.inr (.inr (.inr (.inl x)))], (I, J, G, fm_P pa pb))) rfl ?_
    exact fm_gRe O rfl trivial (by first | (rw [he]; done) | (rw [he]; rfl) | rfl) (by first | (rw [he]; done) | (rw [he]; rfl) | rfl)
def fmM_pass_f (I : fm_MI) (J : fm_MJ) (G : fm_MG) (i : Int32) (x : UInt64) : fm_MJ × fm_MG :=
  if i < (I 2 ((I 22 0 ((0 : Int32).toNatClampNeg)).toNatClampNeg) 1) then (if (I 3 ((I 22 0 ((0 : Int32).toNatClampNeg)).toNatClampNeg) i.toNatClampNeg) = 0 then ((fm_u J 20 0 i.toNatClampNeg ((FP.d2i x).toInt64), G)) else (if (I 3 ((I 22 0 ((0 : Int32).toNatClampNeg)).toNatClampNeg) i.toNatClampNeg) = 1 then ((fm_u J 20 0 i.toNatClampNeg (FP.d2l x), G)) else (if (I 3 ((I 22 0 ((0 : Int32).toNatClampNeg)).toNatClampNeg) i.toNatClampNeg) = 2 then (fm_let (fmA_asFloat_f x) (fun (r1 : UInt64) => (J, fm_u G 21 0 i.toNatClampNeg r1))) else ((J, fm_u G 21 0 i.toNatClampNeg x))))) else ((J, G))
theorem fmM_pass_e (I : fm_MI) (J : fm_MJ) (G : fm_MG) (i : Int32) (x : UInt64) : fmM_pass_f I J G i x = if i < (I 2 ((I 22 0 ((0 : Int32).toNatClampNeg)).toNatClampNeg) 1) then (if (I 3 ((I 22 0 ((0 : Int32).toNatClampNeg)).toNatClampNeg) i.toNatClampNeg) = 0 then ((fm_u J 20 0 i.toNatClampNeg ((FP.d2i x).toInt64), G)) else (if (I 3 ((I 22 0 ((0 : Int32).toNatClampNeg)).toNatClampNeg) i.toNatClampNeg) = 1 then ((fm_u J 20 0 i.toNatClampNeg (FP.d2l x), G)) else (if (I 3 ((I 22 0 ((0 : Int32).toNatClampNeg)).toNatClampNeg) i.toNatClampNeg) = 2 then (fm_let (fmA_asFloat_f x) (fun (r1 : UInt64) => (J, fm_u G 21 0 i.toNatClampNeg r1))) else ((J, fm_u G 21 0 i.toNatClampNeg x))))) else ((J, G)) := rfl
def fmM_pass_p (I : fm_MI) (i : Int32) (x : UInt64) : Prop :=
  (vp_in 0 8) ∧ ((vp_in (I 22 0 ((0 : Int32).toNatClampNeg)) 4) ∧ ((i < (I 2 ((I 22 0 ((0 : Int32).toNatClampNeg)).toNatClampNeg) 1) → (vp_in 0 8) ∧ ((vp_in (I 22 0 ((0 : Int32).toNatClampNeg)) 4) ∧ ((vp_in i 6) ∧ (((I 3 ((I 22 0 ((0 : Int32).toNatClampNeg)).toNatClampNeg) i.toNatClampNeg) = 0 → vp_in i 212) ∧ (¬ (I 3 ((I 22 0 ((0 : Int32).toNatClampNeg)).toNatClampNeg) i.toNatClampNeg) = 0 → ((I 3 ((I 22 0 ((0 : Int32).toNatClampNeg)).toNatClampNeg) i.toNatClampNeg) = 1 → vp_in i 212) ∧ (¬ (I 3 ((I 22 0 ((0 : Int32).toNatClampNeg)).toNatClampNeg) i.toNatClampNeg) = 1 → ((I 3 ((I 22 0 ((0 : Int32).toNatClampNeg)).toNatClampNeg) i.toNatClampNeg) = 2 → fmA_asFloat_p x ∧ (fm_let (fmA_asFloat_f x) (fun (r1 : UInt64) => vp_in i 212))) ∧ (¬ (I 3 ((I 22 0 ((0 : Int32).toNatClampNeg)).toNatClampNeg) i.toNatClampNeg) = 2 → vp_in i 212))))))) ∧ (¬ i < (I 2 ((I 22 0 ((0 : Int32).toNatClampNeg)).toNatClampNeg) 1) → True)))
set_option maxRecDepth 100000 in
set_option maxHeartbeats 4000000 in
theorem fmM_pass_c {E : fm_Ev} (hl : E.1.stackTraces = false) {d : Nat} (hd : 1 ≤ d) (I : fm_MI) (J : fm_MJ) (G : fm_MG) (pa : Nat × Nat) (i : Int32) (x : UInt64) (hp : fmM_pass_p I i x) : fm_Ct E d fmM_pass 0 [.inr (.inr (.inr (.inr (18, 0)))), .inl i, .inr (.inr (.inr (.inl x)))] (I, J, G, fm_P pa (1, 0)) none (I, (fmM_pass_f I J G i x).1, (fmM_pass_f I J G i x).2, fm_P pa (1, 0)) := by
  obtain ⟨d, rfl⟩ : ∃ d', d = d' + 1 := ⟨d - 1, by omega⟩
  refine fm_ct fmM_pass_o hl (Nat.le_of_ble_eq_true rfl) ?_
  have O := fmM_pass_o.1
  unfold fmM_pass_p at hp
  have he := fmM_pass_e I J G i x
  refine fm_gr O 6 (C' := (10, [(0, .inr (.inr (.inr (.inr (18, 0))))), (1, .inl i), (2, .inr (.inr (.inr (.inl x))))], [.inl 0, .inr (.inr (.inr (.inr (22, 0)))), .inr (.inr (.inr (.inr (1, 0)))), .inl i], (I, J, G, fm_P pa (1, 0)))) rfl ?_
  refine fm_gg O rfl hp.1 ?_
  have hp := hp.2
  refine fm_gg O rfl hp.1 ?_
  have hp := hp.2
  refine fm_gr O 1 (C' := (15, [(0, .inr (.inr (.inr (.inr (18, 0))))), (1, .inl i), (2, .inr (.inr (.inr (.inl x))))], [.inl (I 2 ((I 22 0 ((0 : Int32).toNatClampNeg)).toNatClampNeg) 1), .inl i], (I, J, G, fm_P pa (1, 0)))) rfl ?_
  refine fm_gb O rfl (fun h => ?_) (fun h => ?_)
  · have h1 : i < (I 2 ((I 22 0 ((0 : Int32).toNatClampNeg)).toNatClampNeg) 1) := h
    have he := he.trans (if_pos h1)
    have hp := hp.1 h1
    refine fm_gr O 5 (C' := (28, [(0, .inr (.inr (.inr (.inr (18, 0))))), (1, .inl i), (2, .inr (.inr (.inr (.inl x))))], [.inl 0, .inr (.inr (.inr (.inr (22, 0)))), .inr (.inr (.inr (.inr (1, 0))))], (I, J, G, fm_P pa (1, 0)))) rfl ?_
    refine fm_gg O rfl hp.1 ?_
    have hp := hp.2
    refine fm_gg O rfl hp.1 ?_
    have hp := hp.2
    refine fm_gr O 2 (C' := (34, [(0, .inr (.inr (.inr (.inr (18, 0))))), (1, .inl i), (2, .inr (.inr (.inr (.inl x))))], [.inl i, .inr (.inr (.inr (.inr (3, (I 22 0 ((0 : Int32).toNatClampNeg)).toNatClampNeg))))], (I, J, G, fm_P pa (1, 0)))) rfl ?_
    refine fm_gg O rfl hp.1 ?_
    have hp := hp.2
    by_cases h2 : (I 3 ((I 22 0 ((0 : Int32).toNatClampNeg)).toNatClampNeg) i.toNatClampNeg) = 0
    · have he := he.trans (if_pos h2)
      have hp := hp.1 h2
      refine fm_gs O 0 rfl (show (I 3 ((I 22 0 ((0 : Int32).toNatClampNeg)).toNatClampNeg) i.toNatClampNeg).toInt = 0 from by rw [h2]; decide) ?_
      refine fm_gr O 6 (C' := (68, [(0, .inr (.inr (.inr (.inr (18, 0))))), (1, .inl i), (2, .inr (.inr (.inr (.inl x))))], [.inr (.inl ((FP.d2i x).toInt64)), .inl i, .inr (.inr (.inr (.inr (20, 0))))], (I, J, G, fm_P pa (1, 0)))) rfl ?_
      refine fm_gg O rfl hp ?_
      refine fm_gr O 1 (C' := (103, [(0, .inr (.inr (.inr (.inr (18, 0))))), (1, .inl i), (2, .inr (.inr (.inr (.inl x))))], [], (I, fm_u J 20 0 i.toNatClampNeg ((FP.d2i x).toInt64), G, fm_P pa (1, 0)))) rfl ?_
      exact fm_gRe O rfl trivial (by first | (rw [he]; done) | (rw [he]; rfl) | rfl) (by first | (rw [he]; done) | (rw [he]; rfl) | rfl)
    · have he := he.trans (if_neg h2)
      have hp := hp.2 h2
      by_cases h3 : (I 3 ((I 22 0 ((0 : Int32).toNatClampNeg)).toNatClampNeg) i.toNatClampNeg) = 1
      · have he := he.trans (if_pos h3)
        have hp := hp.1 h3
        refine fm_gs O 1 rfl (show (I 3 ((I 22 0 ((0 : Int32).toNatClampNeg)).toNatClampNeg) i.toNatClampNeg).toInt = 1 from by rw [h3]; decide) ?_
        refine fm_gr O 5 (C' := (79, [(0, .inr (.inr (.inr (.inr (18, 0))))), (1, .inl i), (2, .inr (.inr (.inr (.inl x))))], [.inr (.inl (FP.d2l x)), .inl i, .inr (.inr (.inr (.inr (20, 0))))], (I, J, G, fm_P pa (1, 0)))) rfl ?_
        refine fm_gg O rfl hp ?_
        refine fm_gr O 1 (C' := (103, [(0, .inr (.inr (.inr (.inr (18, 0))))), (1, .inl i), (2, .inr (.inr (.inr (.inl x))))], [], (I, fm_u J 20 0 i.toNatClampNeg (FP.d2l x), G, fm_P pa (1, 0)))) rfl ?_
        exact fm_gRe O rfl trivial (by first | (rw [he]; done) | (rw [he]; rfl) | rfl) (by first | (rw [he]; done) | (rw [he]; rfl) | rfl)
      · have he := he.trans (if_neg h3)
        have hp := hp.2 h3
        by_cases h4 : (I 3 ((I 22 0 ((0 : Int32).toNatClampNeg)).toNatClampNeg) i.toNatClampNeg) = 2
        · have he := he.trans (if_pos h4)
          have hp := hp.1 h4
          refine fm_gs O 2 rfl (show (I 3 ((I 22 0 ((0 : Int32).toNatClampNeg)).toNatClampNeg) i.toNatClampNeg).toInt = 2 from by rw [h4]; decide) ?_
          refine fm_gr O 4 (C' := (89, [(0, .inr (.inr (.inr (.inr (18, 0))))), (1, .inl i), (2, .inr (.inr (.inr (.inl x))))], [.inr (.inr (.inr (.inl x))), .inl i, .inr (.inr (.inr (.inr (21, 0))))], (I, J, G, fm_P pa (1, 0)))) rfl ?_
          have hc := hp.1
          have hp := hp.2
          have K := fmA_asFloat_c (d := d) hl (by omega) I J G pa ((1, 0)) x hc
          generalize er1 : fmA_asFloat_f x = r1 at he hp
          have he := he.trans (fm_letE _ _)
          have hp := fm_letP hp
          rw [er1] at K
          refine fm_cS0 O fmA_asFloat_o (as := [.inr (.inr (.inr (.inl x)))]) (rest := [.inl i, .inr (.inr (.inr (.inr (21, 0))))]) (v := some (.inr (.inr (.inr (.inl r1))))) rfl fk_5_52 fn_A_asFloat (Nat.le_of_ble_eq_true rfl) (K) ?_
          refine fm_gg O rfl hp ?_
          refine fm_gr O 1 (C' := (103, [(0, .inr (.inr (.inr (.inr (18, 0))))), (1, .inl i), (2, .inr (.inr (.inr (.inl x))))], [], (I, J, fm_u G 21 0 i.toNatClampNeg r1, fm_P pa (1, 0)))) rfl ?_
          exact fm_gRe O rfl trivial (by first | (rw [he]; done) | (rw [he]; rfl) | rfl) (by first | (rw [he]; done) | (rw [he]; rfl) | rfl)
        · have he := he.trans (if_neg h4)
          have hp := hp.2 h4
          have hz : (I 3 ((I 22 0 ((0 : Int32).toNatClampNeg)).toNatClampNeg) i.toNatClampNeg).toInt < 0 ∨ 2 < (I 3 ((I 22 0 ((0 : Int32).toNatClampNeg)).toNatClampNeg) i.toNatClampNeg).toInt := by
            have := lv_neT h2 (show (0 : Int32).toInt = 0 from by decide)
            have := lv_neT h3 (show (1 : Int32).toInt = 1 from by decide)
            have := lv_neT h4 (show (2 : Int32).toInt = 2 from by decide)
            omega
          refine fm_gt O rfl hz ?_
          refine fm_gr O 4 (C' := (102, [(0, .inr (.inr (.inr (.inr (18, 0))))), (1, .inl i), (2, .inr (.inr (.inr (.inl x))))], [.inr (.inr (.inr (.inl x))), .inl i, .inr (.inr (.inr (.inr (21, 0))))], (I, J, G, fm_P pa (1, 0)))) rfl ?_
          refine fm_gg O rfl hp ?_
          exact fm_gRe O rfl trivial (by first | (rw [he]; done) | (rw [he]; rfl) | rfl) (by first | (rw [he]; done) | (rw [he]; rfl) | rfl)
  · have h1 : ¬ i < (I 2 ((I 22 0 ((0 : Int32).toNatClampNeg)).toNatClampNeg) 1) := h
    have he := he.trans (if_neg h1)
    exact fm_gRe O rfl trivial (by first | (rw [he]; done) | (rw [he]; rfl) | rfl) (by first | (rw [he]; done) | (rw [he]; rfl) | rfl)
def fmM_backToCaller_f (I : fm_MI) (J : fm_MJ) (G : fm_MG) (f : Nat) : fm_MI × fm_MJ × fm_MG :=
  if (I 2 f 3) = 4 then ((fm_u I 18 0 6 ((I 18 0 6) - 26), J, G)) else (fm_let (fmM_copy_f J G ((I 18 0 6) + (I 2 f 2)) (((I 18 0 6) - 26) + (I 9 ((I 22 0 (((I 18 0 5) - 1).toNatClampNeg)).toNatClampNeg) (((I 23 0 (((I 18 0 5) - 1).toNatClampNeg)) - 1).toNatClampNeg)))) (fun (r1 : fm_MJ × fm_MG) => (fm_u I 18 0 6 ((I 18 0 6) - 26), r1.1, r1.2)))
theorem fmM_backToCaller_e (I : fm_MI) (J : fm_MJ) (G : fm_MG) (f : Nat) : fmM_backToCaller_f I J G f = if (I 2 f 3) = 4 then ((fm_u I 18 0 6 ((I 18 0 6) - 26), J, G)) else (fm_let (fmM_copy_f J G ((I 18 0 6) + (I 2 f 2)) (((I 18 0 6) - 26) + (I 9 ((I 22 0 (((I 18 0 5) - 1).toNatClampNeg)).toNatClampNeg) (((I 23 0 (((I 18 0 5) - 1).toNatClampNeg)) - 1).toNatClampNeg)))) (fun (r1 : fm_MJ × fm_MG) => (fm_u I 18 0 6 ((I 18 0 6) - 26), r1.1, r1.2))) := rfl
def fmM_backToCaller_p (I : fm_MI) (f : Nat) : Prop :=
  ((I 2 f 3) = 4 → True) ∧ (¬ (I 2 f 3) = 4 → (vp_in ((I 18 0 5) - 1) 8) ∧ ((vp_in (I 22 0 (((I 18 0 5) - 1).toNatClampNeg)) 4) ∧ ((vp_in ((I 18 0 5) - 1) 8) ∧ ((vp_in ((I 23 0 (((I 18 0 5) - 1).toNatClampNeg)) - 1) 40) ∧ (fmM_copy_p ((I 18 0 6) + (I 2 f 2)) (((I 18 0 6) - 26) + (I 9 ((I 22 0 (((I 18 0 5) - 1).toNatClampNeg)).toNatClampNeg) (((I 23 0 (((I 18 0 5) - 1).toNatClampNeg)) - 1).toNatClampNeg))))))))
set_option maxRecDepth 100000 in
set_option maxHeartbeats 4000000 in
theorem fmM_backToCaller_c {E : fm_Ev} (hl : E.1.stackTraces = false) {d : Nat} (hd : 1 ≤ d) (I : fm_MI) (J : fm_MJ) (G : fm_MG) (pa : Nat × Nat) (f : Nat) (hp : fmM_backToCaller_p I f) : fm_Ct E d fmM_backToCaller 0 [.inr (.inr (.inr (.inr (18, 0)))), .inr (.inr (.inr (.inr (2, f))))] (I, J, G, fm_P pa (1, 0)) none ((fmM_backToCaller_f I J G f).1, (fmM_backToCaller_f I J G f).2.1, (fmM_backToCaller_f I J G f).2.2, fm_P pa (1, 0)) := by
  obtain ⟨d, rfl⟩ : ∃ d', d = d' + 1 := ⟨d - 1, by omega⟩
  refine fm_ct fmM_backToCaller_o hl (Nat.le_of_ble_eq_true rfl) ?_
  have O := fmM_backToCaller_o.1
  unfold fmM_backToCaller_p at hp
  have he := fmM_backToCaller_e I J G f
  refine fm_gr O 15 (C' := (26, [(2, .inl ((I 18 0 6) + (I 2 f 2))), (0, .inr (.inr (.inr (.inr (18, 0))))), (1, .inr (.inr (.inr (.inr (2, f)))))], [.inl 4, .inl (I 2 f 3)], (fm_u I 18 0 6 ((I 18 0 6) - 26), J, G, fm_P pa (1, 0)))) rfl ?_
  refine fm_gb O rfl (fun h => ?_) (fun h => ?_)
  · have h1 : (I 2 f 3) = 4 := h
    have he := he.trans (if_pos h1)
    exact fm_gRe O rfl trivial (by first | (rw [he]; done) | (rw [he]; rfl) | rfl) (by first | (rw [he]; done) | (rw [he]; rfl) | rfl)
  · have h1 : ¬ (I 2 f 3) = 4 := h
    have he := he.trans (if_neg h1)
    have hp := hp.2 h1
    refine fm_gr O 8 (C' := (43, [(2, .inl ((I 18 0 6) + (I 2 f 2))), (0, .inr (.inr (.inr (.inr (18, 0))))), (1, .inr (.inr (.inr (.inr (2, f)))))], [.inl ((I 18 0 5) - 1), .inr (.inr (.inr (.inr (22, 0)))), .inr (.inr (.inr (.inr (1, 0))))], (fm_u I 18 0 6 ((I 18 0 6) - 26), J, G, fm_P pa (1, 0)))) rfl ?_
    refine fm_gg O rfl hp.1 ?_
    have hp := hp.2
    refine fm_gg O rfl hp.1 ?_
    have hp := hp.2
    refine fm_gr O 14 (C' := (69, [(3, .inr (.inr (.inr (.inr (6, (I 22 0 (((I 18 0 5) - 1).toNatClampNeg)).toNatClampNeg))))), (2, .inl ((I 18 0 6) + (I 2 f 2))), (0, .inr (.inr (.inr (.inr (18, 0))))), (1, .inr (.inr (.inr (.inr (2, f)))))], [.inl ((I 18 0 5) - 1), .inr (.inr (.inr (.inr (23, 0)))), .inr (.inr (.inr (.inr (9, (I 22 0 (((I 18 0 5) - 1).toNatClampNeg)).toNatClampNeg)))), .inl ((I 18 0 6) - 26), .inl ((I 18 0 6) + (I 2 f 2)), .inr (.inr (.inr (.inr (18, 0))))], (fm_u I 18 0 6 ((I 18 0 6) - 26), J, G, fm_P pa (1, 0)))) rfl ?_
    refine fm_gg O rfl hp.1 ?_
    have hp := hp.2
    refine fm_gr O 2 (C' := (72, [(3, .inr (.inr (.inr (.inr (6, (I 22 0 (((I 18 0 5) - 1).toNatClampNeg)).toNatClampNeg))))), (2, .inl ((I 18 0 6) + (I 2 f 2))), (0, .inr (.inr (.inr (.inr (18, 0))))), (1, .inr (.inr (.inr (.inr (2, f)))))], [.inl ((I 23 0 (((I 18 0 5) - 1).toNatClampNeg)) - 1), .inr (.inr (.inr (.inr (9, (I 22 0 (((I 18 0 5) - 1).toNatClampNeg)).toNatClampNeg)))), .inl ((I 18 0 6) - 26), .inl ((I 18 0 6) + (I 2 f 2)), .inr (.inr (.inr (.inr (18, 0))))], (fm_u I 18 0 6 ((I 18 0 6) - 26), J, G, fm_P pa (1, 0)))) rfl ?_
    refine fm_gg O rfl hp.1 ?_
    have hp := hp.2
    refine fm_gr O 1 (C' := (74, [(3, .inr (.inr (.inr (.inr (6, (I 22 0 (((I 18 0 5) - 1).toNatClampNeg)).toNatClampNeg))))), (2, .inl ((I 18 0 6) + (I 2 f 2))), (0, .inr (.inr (.inr (.inr (18, 0))))), (1, .inr (.inr (.inr (.inr (2, f)))))], [.inl (((I 18 0 6) - 26) + (I 9 ((I 22 0 (((I 18 0 5) - 1).toNatClampNeg)).toNatClampNeg) (((I 23 0 (((I 18 0 5) - 1).toNatClampNeg)) - 1).toNatClampNeg))), .inl ((I 18 0 6) + (I 2 f 2)), .inr (.inr (.inr (.inr (18, 0))))], (fm_u I 18 0 6 ((I 18 0 6) - 26), J, G, fm_P pa (1, 0)))) rfl ?_
    have K := fmM_copy_c (d := d) hl (by omega) (fm_u I 18 0 6 ((I 18 0 6) - 26)) J G pa ((I 18 0 6) + (I 2 f 2)) (((I 18 0 6) - 26) + (I 9 ((I 22 0 (((I 18 0 5) - 1).toNatClampNeg)).toNatClampNeg) (((I 23 0 (((I 18 0 5) - 1).toNatClampNeg)) - 1).toNatClampNeg))) hp
    generalize er1 : fmM_copy_f J G ((I 18 0 6) + (I 2 f 2)) (((I 18 0 6) - 26) + (I 9 ((I 22 0 (((I 18 0 5) - 1).toNatClampNeg)).toNatClampNeg) (((I 23 0 (((I 18 0 5) - 1).toNatClampNeg)) - 1).toNatClampNeg))) = r1 at he
    have he := he.trans (fm_letE _ _)
    rw [er1] at K
    refine fm_cV0 O fmM_copy_o (i := 0) (as := [.inl ((I 18 0 6) + (I 2 f 2)), .inl (((I 18 0 6) - 26) + (I 9 ((I 22 0 (((I 18 0 5) - 1).toNatClampNeg)).toNatClampNeg) (((I 23 0 (((I 18 0 5) - 1).toNatClampNeg)) - 1).toNatClampNeg)))]) (rest := []) (v := none) rfl fk_5_102 rfl (by decide) fn_M_copy (Nat.le_of_ble_eq_true rfl) (K) ?_
    exact fm_gRe O rfl trivial (by first | (rw [he]; done) | (rw [he]; rfl) | rfl) (by first | (rw [he]; done) | (rw [he]; rfl) | rfl)
def fmM_leaveWhatHasEnded_L0_f : Nat → fm_MI → fm_MJ → fm_MG → (Nat × Nat) → fm_MI × fm_MJ × fm_MG
  | 0, I, J, G, pa => (I, J, G)
  | n + 1, I, J, G, pa => if (I 18 0 5) ≤ 0 then ((I, J, G)) else (if (I 23 0 (((I 18 0 5) - 1).toNatClampNeg)) < (I 6 ((I 22 0 (((I 18 0 5) - 1).toNatClampNeg)).toNatClampNeg) 0) then ((I, J, G)) else (if ((I 18 0 5) - 1) ≤ 0 then (fmM_leaveWhatHasEnded_L0_f n (fm_u I 18 0 5 ((I 18 0 5) - 1)) J G pa) else (fm_let (fmM_backToCaller_f (fm_u I 18 0 5 ((I 18 0 5) - 1)) J G ((I 22 0 (((I 18 0 5) - 1).toNatClampNeg)).toNatClampNeg)) (fun (r1 : fm_MI × fm_MJ × fm_MG) => fmM_leaveWhatHasEnded_L0_f n r1.1 r1.2.1 r1.2.2 pa))))
theorem fmM_leaveWhatHasEnded_L0_e (n : Nat) (I : fm_MI) (J : fm_MJ) (G : fm_MG) (pa : Nat × Nat) : fmM_leaveWhatHasEnded_L0_f (n + 1) I J G pa = if (I 18 0 5) ≤ 0 then ((I, J, G)) else (if (I 23 0 (((I 18 0 5) - 1).toNatClampNeg)) < (I 6 ((I 22 0 (((I 18 0 5) - 1).toNatClampNeg)).toNatClampNeg) 0) then ((I, J, G)) else (if ((I 18 0 5) - 1) ≤ 0 then (fmM_leaveWhatHasEnded_L0_f n (fm_u I 18 0 5 ((I 18 0 5) - 1)) J G pa) else (fm_let (fmM_backToCaller_f (fm_u I 18 0 5 ((I 18 0 5) - 1)) J G ((I 22 0 (((I 18 0 5) - 1).toNatClampNeg)).toNatClampNeg)) (fun (r1 : fm_MI × fm_MJ × fm_MG) => fmM_leaveWhatHasEnded_L0_f n r1.1 r1.2.1 r1.2.2 pa)))) := rfl
def fmM_leaveWhatHasEnded_L0_p : Nat → fm_MI → fm_MJ → fm_MG → (Nat × Nat) → Prop
  | 0, I, J, G, pa => False
  | n + 1, I, J, G, pa => ((I 18 0 5) ≤ 0 → True) ∧ (¬ (I 18 0 5) ≤ 0 → (vp_in ((I 18 0 5) - 1) 8) ∧ ((vp_in ((I 18 0 5) - 1) 8) ∧ ((vp_in (I 22 0 (((I 18 0 5) - 1).toNatClampNeg)) 4) ∧ (((I 23 0 (((I 18 0 5) - 1).toNatClampNeg)) < (I 6 ((I 22 0 (((I 18 0 5) - 1).toNatClampNeg)).toNatClampNeg) 0) → True) ∧ (¬ (I 23 0 (((I 18 0 5) - 1).toNatClampNeg)) < (I 6 ((I 22 0 (((I 18 0 5) - 1).toNatClampNeg)).toNatClampNeg) 0) → (((I 18 0 5) - 1) ≤ 0 → fmM_leaveWhatHasEnded_L0_p n (fm_u I 18 0 5 ((I 18 0 5) - 1)) J G pa) ∧ (¬ ((I 18 0 5) - 1) ≤ 0 → (vp_in ((I 18 0 5) - 1) 8) ∧ ((vp_in (I 22 0 (((I 18 0 5) - 1).toNatClampNeg)) 4) ∧ (fmM_backToCaller_p (fm_u I 18 0 5 ((I 18 0 5) - 1)) ((I 22 0 (((I 18 0 5) - 1).toNatClampNeg)).toNatClampNeg) ∧ (fm_let (fmM_backToCaller_f (fm_u I 18 0 5 ((I 18 0 5) - 1)) J G ((I 22 0 (((I 18 0 5) - 1).toNatClampNeg)).toNatClampNeg)) (fun (r1 : fm_MI × fm_MJ × fm_MG) => fmM_leaveWhatHasEnded_L0_p n r1.1 r1.2.1 r1.2.2 pa))))))))))
theorem fmM_leaveWhatHasEnded_L0_q (n : Nat) (I : fm_MI) (J : fm_MJ) (G : fm_MG) (pa : Nat × Nat) : fmM_leaveWhatHasEnded_L0_p (n + 1) I J G pa = (((I 18 0 5) ≤ 0 → True) ∧ (¬ (I 18 0 5) ≤ 0 → (vp_in ((I 18 0 5) - 1) 8) ∧ ((vp_in ((I 18 0 5) - 1) 8) ∧ ((vp_in (I 22 0 (((I 18 0 5) - 1).toNatClampNeg)) 4) ∧ (((I 23 0 (((I 18 0 5) - 1).toNatClampNeg)) < (I 6 ((I 22 0 (((I 18 0 5) - 1).toNatClampNeg)).toNatClampNeg) 0) → True) ∧ (¬ (I 23 0 (((I 18 0 5) - 1).toNatClampNeg)) < (I 6 ((I 22 0 (((I 18 0 5) - 1).toNatClampNeg)).toNatClampNeg) 0) → (((I 18 0 5) - 1) ≤ 0 → fmM_leaveWhatHasEnded_L0_p n (fm_u I 18 0 5 ((I 18 0 5) - 1)) J G pa) ∧ (¬ ((I 18 0 5) - 1) ≤ 0 → (vp_in ((I 18 0 5) - 1) 8) ∧ ((vp_in (I 22 0 (((I 18 0 5) - 1).toNatClampNeg)) 4) ∧ (fmM_backToCaller_p (fm_u I 18 0 5 ((I 18 0 5) - 1)) ((I 22 0 (((I 18 0 5) - 1).toNatClampNeg)).toNatClampNeg) ∧ (fm_let (fmM_backToCaller_f (fm_u I 18 0 5 ((I 18 0 5) - 1)) J G ((I 22 0 (((I 18 0 5) - 1).toNatClampNeg)).toNatClampNeg)) (fun (r1 : fm_MI × fm_MJ × fm_MG) => fmM_leaveWhatHasEnded_L0_p n r1.1 r1.2.1 r1.2.2 pa))))))))))) := rfl
set_option maxRecDepth 100000 in
set_option maxHeartbeats 4000000 in
theorem fmM_leaveWhatHasEnded_L0_c {E : fm_Ev} (hl : E.1.stackTraces = false) {d : Nat} (hd : 2 ≤ d + 1) (n : Nat) : ∀ (I : fm_MI) (J : fm_MJ) (G : fm_MG) (pa : Nat × Nat), fmM_leaveWhatHasEnded_L0_p n I J G pa → fm_Go E (d + 1) fmM_leaveWhatHasEnded 0 (0, [(0, .inr (.inr (.inr (.inr (18, 0)))))], [], (I, J, G, fm_P pa (1, 0))) (fm_Zr E none ((fmM_leaveWhatHasEnded_L0_f n I J G pa).1, (fmM_leaveWhatHasEnded_L0_f n I J G pa).2.1, (fmM_leaveWhatHasEnded_L0_f n I J G pa).2.2, fm_P pa (1, 0))) := by
  have O := fmM_leaveWhatHasEnded_o.1
  induction n with
  | zero => intro I J G pa hp; exact hp.elim
  | succ n ih =>
    intro I J G pa hp
    rw [fmM_leaveWhatHasEnded_L0_q] at hp
    have he := fmM_leaveWhatHasEnded_L0_e n I J G pa
    refine fm_gr O 2 (C' := (4, [(0, .inr (.inr (.inr (.inr (18, 0)))))], [.inl (I 18 0 5)], (I, J, G, fm_P pa (1, 0)))) rfl ?_
    refine fm_gb O rfl (fun h => ?_) (fun h => ?_)
    · have h1 : (I 18 0 5) ≤ 0 := h
      have he := he.trans (if_pos h1)
      exact fm_gRe O rfl trivial (by first | (rw [he]; done) | (rw [he]; rfl) | rfl) (by first | (rw [he]; done) | (rw [he]; rfl) | rfl)
    · have h1 : ¬ (I 18 0 5) ≤ 0 := h
      have he := he.trans (if_neg h1)
      have hp := hp.2 h1
      refine fm_gr O 6 (C' := (17, [(0, .inr (.inr (.inr (.inr (18, 0)))))], [.inl ((I 18 0 5) - 1), .inr (.inr (.inr (.inr (23, 0))))], (I, J, G, fm_P pa (1, 0)))) rfl ?_
      refine fm_gg O rfl hp.1 ?_
      have hp := hp.2
      refine fm_gr O 8 (C' := (32, [(0, .inr (.inr (.inr (.inr (18, 0)))))], [.inl ((I 18 0 5) - 1), .inr (.inr (.inr (.inr (22, 0)))), .inr (.inr (.inr (.inr (1, 0)))), .inl (I 23 0 (((I 18 0 5) - 1).toNatClampNeg))], (I, J, G, fm_P pa (1, 0)))) rfl ?_
      refine fm_gg O rfl hp.1 ?_
      have hp := hp.2
      refine fm_gg O rfl hp.1 ?_
      have hp := hp.2
      refine fm_gr O 2 (C' := (40, [(0, .inr (.inr (.inr (.inr (18, 0)))))], [.inl (I 6 ((I 22 0 (((I 18 0 5) - 1).toNatClampNeg)).toNatClampNeg) 0), .inl (I 23 0 (((I 18 0 5) - 1).toNatClampNeg))], (I, J, G, fm_P pa (1, 0)))) rfl ?_
      refine fm_gb O rfl (fun h => ?_) (fun h => ?_)
      · have h2 : (I 23 0 (((I 18 0 5) - 1).toNatClampNeg)) < (I 6 ((I 22 0 (((I 18 0 5) - 1).toNatClampNeg)).toNatClampNeg) 0) := h
        have he := he.trans (if_pos h2)
        exact fm_gRe O rfl trivial (by first | (rw [he]; done) | (rw [he]; rfl) | rfl) (by first | (rw [he]; done) | (rw [he]; rfl) | rfl)
      · have h2 : ¬ (I 23 0 (((I 18 0 5) - 1).toNatClampNeg)) < (I 6 ((I 22 0 (((I 18 0 5) - 1).toNatClampNeg)).toNatClampNeg) 0) := h
        have he := he.trans (if_neg h2)
        have hp := hp.2 h2
        refine fm_gr O 8 (C' := (57, [(0, .inr (.inr (.inr (.inr (18, 0)))))], [.inl ((I 18 0 5) - 1)], (fm_u I 18 0 5 ((I 18 0 5) - 1), J, G, fm_P pa (1, 0)))) rfl ?_
        refine fm_gb O rfl (fun h => ?_) (fun h => ?_)
        · have h3 : ((I 18 0 5) - 1) ≤ 0 := h
          have he := he.trans (if_pos h3)
          have hp := hp.1 h3
          refine fm_gL O [0] rfl ?_
          rw [he]
          exact ih (fm_u I 18 0 5 ((I 18 0 5) - 1)) J G pa hp
        · have h3 : ¬ ((I 18 0 5) - 1) ≤ 0 := h
          have he := he.trans (if_neg h3)
          have hp := hp.2 h3
          refine fm_gr O 7 (C' := (73, [(0, .inr (.inr (.inr (.inr (18, 0)))))], [.inl ((I 18 0 5) - 1), .inr (.inr (.inr (.inr (22, 0)))), .inr (.inr (.inr (.inr (1, 0)))), .inr (.inr (.inr (.inr (18, 0))))], (fm_u I 18 0 5 ((I 18 0 5) - 1), J, G, fm_P pa (1, 0)))) rfl ?_
          refine fm_gg O rfl hp.1 ?_
          have hp := hp.2
          refine fm_gg O rfl hp.1 ?_
          have hp := hp.2
          have hc := hp.1
          have hp := hp.2
          have K := fmM_backToCaller_c (d := d) hl (by omega) (fm_u I 18 0 5 ((I 18 0 5) - 1)) J G pa ((I 22 0 (((I 18 0 5) - 1).toNatClampNeg)).toNatClampNeg) hc
          generalize er1 : fmM_backToCaller_f (fm_u I 18 0 5 ((I 18 0 5) - 1)) J G ((I 22 0 (((I 18 0 5) - 1).toNatClampNeg)).toNatClampNeg) = r1 at he hp
          have he := he.trans (fm_letE _ _)
          have hp := fm_letP hp
          rw [er1] at K
          refine fm_cV0 O fmM_backToCaller_o (i := 0) (as := [.inr (.inr (.inr (.inr (2, (I 22 0 (((I 18 0 5) - 1).toNatClampNeg)).toNatClampNeg))))]) (rest := []) (v := none) rfl fk_5_95 rfl (by decide) fn_M_backToCaller (Nat.le_of_ble_eq_true rfl) (K) ?_
          refine fm_gr O 1 (C' := (0, [(0, .inr (.inr (.inr (.inr (18, 0)))))], [], (r1.1, r1.2.1, r1.2.2, fm_P pa (1, 0)))) rfl ?_
          refine fm_gL O [0] rfl ?_
          rw [he]
          exact ih r1.1 r1.2.1 r1.2.2 pa hp
def fmM_leaveWhatHasEnded_f (I : fm_MI) (J : fm_MJ) (G : fm_MG) (pa : Nat × Nat) : fm_MI × fm_MJ × fm_MG :=
  fmM_leaveWhatHasEnded_L0_f 9 I J G pa
theorem fmM_leaveWhatHasEnded_e (I : fm_MI) (J : fm_MJ) (G : fm_MG) (pa : Nat × Nat) : fmM_leaveWhatHasEnded_f I J G pa = fmM_leaveWhatHasEnded_L0_f 9 I J G pa := rfl
def fmM_leaveWhatHasEnded_p (I : fm_MI) (J : fm_MJ) (G : fm_MG) (pa : Nat × Nat) : Prop :=
  fmM_leaveWhatHasEnded_L0_p 9 I J G pa
set_option maxRecDepth 100000 in
set_option maxHeartbeats 4000000 in
theorem fmM_leaveWhatHasEnded_c {E : fm_Ev} (hl : E.1.stackTraces = false) {d : Nat} (hd : 2 ≤ d) (I : fm_MI) (J : fm_MJ) (G : fm_MG) (pa : Nat × Nat) (hp : fmM_leaveWhatHasEnded_p I J G pa) : fm_Ct E d fmM_leaveWhatHasEnded 0 [.inr (.inr (.inr (.inr (18, 0))))] (I, J, G, fm_P pa (1, 0)) none ((fmM_leaveWhatHasEnded_f I J G pa).1, (fmM_leaveWhatHasEnded_f I J G pa).2.1, (fmM_leaveWhatHasEnded_f I J G pa).2.2, fm_P pa (1, 0)) := by
  obtain ⟨d, rfl⟩ : ∃ d', d = d' + 1 := ⟨d - 1, by omega⟩
  refine fm_ct fmM_leaveWhatHasEnded_o hl (Nat.le_of_ble_eq_true rfl) ?_
  have O := fmM_leaveWhatHasEnded_o.1
  unfold fmM_leaveWhatHasEnded_p at hp
  have he := fmM_leaveWhatHasEnded_e I J G pa
  refine fm_gL O [0] rfl ?_
  rw [he]
  exact fmM_leaveWhatHasEnded_L0_c hl hd 9 I J G pa hp
def fmM_moveValues_f (I : fm_MI) (J : fm_MJ) (G : fm_MG) (op : Int32) (aa : Int32) (rg : Int32) : fm_MJ × fm_MG :=
  if op = 0 then ((fm_u J 20 0 rg.toNatClampNeg aa.toInt64, G)) else (if op = 1 then ((fm_u J 20 0 rg.toNatClampNeg aa.toInt64, G)) else (if op = 2 then ((J, fm_u G 21 0 rg.toNatClampNeg (FP.f2d (FP.fmul (FP.i2f aa) 1040187392)))) else (if op = 3 then ((J, fm_u G 21 0 rg.toNatClampNeg (FP.dmul (FP.i2d aa) 4593671619917905920))) else (if op = 4 then (fm_let (fmM_copy_f J G ((I 18 0 6) + aa) rg) (fun (r1 : fm_MJ × fm_MG) => (r1.1, r1.2))) else (if op = 5 then (fm_let (fmM_copy_f J G rg ((I 18 0 6) + aa)) (fun (r2 : fm_MJ × fm_MG) => (r2.1, r2.2))) else (if op = 6 then (fm_let (fmM_copy_f J G rg ((I 18 0 6) + aa)) (fun (r3 : fm_MJ × fm_MG) => (r3.1, r3.2))) else (if op = 7 then (fm_let (fmM_copy_f J G (208 + aa) rg) (fun (r4 : fm_MJ × fm_MG) => (r4.1, r4.2))) else (if op = 8 then (fm_let (fmM_copy_f J G rg (208 + aa)) (fun (r5 : fm_MJ × fm_MG) => (r5.1, r5.2))) else (if op = 9 then ((J, G)) else (if op = 10 then (if (lg_cmp (J 20 0 ((rg + 2).toNatClampNeg)) 0) = 0 then (fm_let (fmM_copy_f J G (rg + 1) rg) (fun (r6 : fm_MJ × fm_MG) => (r6.1, r6.2))) else ((J, G))) else ((J, G))))))))))))
theorem fmM_moveValues_e (I : fm_MI) (J : fm_MJ) (G : fm_MG) (op : Int32) (aa : Int32) (rg : Int32) : fmM_moveValues_f I J G op aa rg = if op = 0 then ((fm_u J 20 0 rg.toNatClampNeg aa.toInt64, G)) else (if op = 1 then ((fm_u J 20 0 rg.toNatClampNeg aa.toInt64, G)) else (if op = 2 then ((J, fm_u G 21 0 rg.toNatClampNeg (FP.f2d (FP.fmul (FP.i2f aa) 1040187392)))) else (if op = 3 then ((J, fm_u G 21 0 rg.toNatClampNeg (FP.dmul (FP.i2d aa) 4593671619917905920))) else (if op = 4 then (fm_let (fmM_copy_f J G ((I 18 0 6) + aa) rg) (fun (r1 : fm_MJ × fm_MG) => (r1.1, r1.2))) else (if op = 5 then (fm_let (fmM_copy_f J G rg ((I 18 0 6) + aa)) (fun (r2 : fm_MJ × fm_MG) => (r2.1, r2.2))) else (if op = 6 then (fm_let (fmM_copy_f J G rg ((I 18 0 6) + aa)) (fun (r3 : fm_MJ × fm_MG) => (r3.1, r3.2))) else (if op = 7 then (fm_let (fmM_copy_f J G (208 + aa) rg) (fun (r4 : fm_MJ × fm_MG) => (r4.1, r4.2))) else (if op = 8 then (fm_let (fmM_copy_f J G rg (208 + aa)) (fun (r5 : fm_MJ × fm_MG) => (r5.1, r5.2))) else (if op = 9 then ((J, G)) else (if op = 10 then (if (lg_cmp (J 20 0 ((rg + 2).toNatClampNeg)) 0) = 0 then (fm_let (fmM_copy_f J G (rg + 1) rg) (fun (r6 : fm_MJ × fm_MG) => (r6.1, r6.2))) else ((J, G))) else ((J, G)))))))))))) := rfl
def fmM_moveValues_p (I : fm_MI) (J : fm_MJ) (op : Int32) (aa : Int32) (rg : Int32) : Prop :=
  (op = 0 → vp_in rg 212) ∧ (¬ op = 0 → (op = 1 → vp_in rg 212) ∧ (¬ op = 1 → (op = 2 → (vf_n32 (FP.fmul (FP.i2f aa) 1040187392)) ∧ ((vf_n64 (FP.f2d (FP.fmul (FP.i2f aa) 1040187392))) ∧ (vp_in rg 212))) ∧ (¬ op = 2 → (op = 3 → (vf_n64 (FP.dmul (FP.i2d aa) 4593671619917905920)) ∧ (vp_in rg 212)) ∧ (¬ op = 3 → (op = 4 → fmM_copy_p ((I 18 0 6) + aa) rg) ∧ (¬ op = 4 → (op = 5 → fmM_copy_p rg ((I 18 0 6) + aa)) ∧ (¬ op = 5 → (op = 6 → fmM_copy_p rg ((I 18 0 6) + aa)) ∧ (¬ op = 6 → (op = 7 → fmM_copy_p (208 + aa) rg) ∧ (¬ op = 7 → (op = 8 → fmM_copy_p rg (208 + aa)) ∧ (¬ op = 8 → (op = 9 → True) ∧ (¬ op = 9 → (op = 10 → (vp_in (rg + 2) 212) ∧ (((lg_cmp (J 20 0 ((rg + 2).toNatClampNeg)) 0) = 0 → fmM_copy_p (rg + 1) rg) ∧ (¬ (lg_cmp (J 20 0 ((rg + 2).toNatClampNeg)) 0) = 0 → True))) ∧ (¬ op = 10 → True)))))))))))
set_option maxRecDepth 100000 in
set_option maxHeartbeats 4000000 in
theorem fmM_moveValues_c {E : fm_Ev} (hl : E.1.stackTraces = false) {d : Nat} (hd : 1 ≤ d) (I : fm_MI) (J : fm_MJ) (G : fm_MG) (pa : Nat × Nat) (op : Int32) (aa : Int32) (rg : Int32) (hp : fmM_moveValues_p I J op aa rg) : fm_Ct E d fmM_moveValues 0 [.inr (.inr (.inr (.inr (18, 0)))), .inl op, .inl aa, .inl rg] (I, J, G, fm_P pa (1, 0)) none (I, (fmM_moveValues_f I J G op aa rg).1, (fmM_moveValues_f I J G op aa rg).2, fm_P pa (1, 0)) := by
  obtain ⟨d, rfl⟩ : ∃ d', d = d' + 1 := ⟨d - 1, by omega⟩
  refine fm_ct fmM_moveValues_o hl (Nat.le_of_ble_eq_true rfl) ?_
  have O := fmM_moveValues_o.1
  unfold fmM_moveValues_p at hp
  have he := fmM_moveValues_e I J G op aa rg
  refine fm_gr O 1 (C' := (1, [(0, .inr (.inr (.inr (.inr (18, 0))))), (1, .inl op), (2, .inl aa), (3, .inl rg)], [.inl op], (I, J, G, fm_P pa (1, 0)))) rfl ?_
  by_cases h1 : op = 0
  · have he := he.trans (if_pos h1)
    have hp := hp.1 h1
    refine fm_gs O 0 rfl (show op.toInt = 0 from by rw [h1]; decide) ?_
    refine fm_gr O 5 (C' := (67, [(0, .inr (.inr (.inr (.inr (18, 0))))), (1, .inl op), (2, .inl aa), (3, .inl rg)], [.inr (.inl aa.toInt64), .inl rg, .inr (.inr (.inr (.inr (20, 0))))], (I, J, G, fm_P pa (1, 0)))) rfl ?_
    refine fm_gg O rfl hp ?_
    refine fm_gr O 1 (C' := (179, [(0, .inr (.inr (.inr (.inr (18, 0))))), (1, .inl op), (2, .inl aa), (3, .inl rg)], [], (I, fm_u J 20 0 rg.toNatClampNeg aa.toInt64, G, fm_P pa (1, 0)))) rfl ?_
    exact fm_gRe O rfl trivial (by first | (rw [he]; done) | (rw [he]; rfl) | rfl) (by first | (rw [he]; done) | (rw [he]; rfl) | rfl)
  · have he := he.trans (if_neg h1)
    have hp := hp.2 h1
    by_cases h2 : op = 1
    · have he := he.trans (if_pos h2)
      have hp := hp.1 h2
      refine fm_gs O 1 rfl (show op.toInt = 1 from by rw [h2]; decide) ?_
      refine fm_gr O 5 (C' := (67, [(0, .inr (.inr (.inr (.inr (18, 0))))), (1, .inl op), (2, .inl aa), (3, .inl rg)], [.inr (.inl aa.toInt64), .inl rg, .inr (.inr (.inr (.inr (20, 0))))], (I, J, G, fm_P pa (1, 0)))) rfl ?_
      refine fm_gg O rfl hp ?_
      refine fm_gr O 1 (C' := (179, [(0, .inr (.inr (.inr (.inr (18, 0))))), (1, .inl op), (2, .inl aa), (3, .inl rg)], [], (I, fm_u J 20 0 rg.toNatClampNeg aa.toInt64, G, fm_P pa (1, 0)))) rfl ?_
      exact fm_gRe O rfl trivial (by first | (rw [he]; done) | (rw [he]; rfl) | rfl) (by first | (rw [he]; done) | (rw [he]; rfl) | rfl)
    · have he := he.trans (if_neg h2)
      have hp := hp.2 h2
      by_cases h3 : op = 2
      · have he := he.trans (if_pos h3)
        have hp := hp.1 h3
        refine fm_gs O 2 rfl (show op.toInt = 2 from by rw [h3]; decide) ?_
        refine fm_gr O 6 (C' := (80, [(0, .inr (.inr (.inr (.inr (18, 0))))), (1, .inl op), (2, .inl aa), (3, .inl rg)], [.inr (.inr (.inl 1040187392)), .inr (.inr (.inl (FP.i2f aa))), .inl rg, .inr (.inr (.inr (.inr (21, 0))))], (I, J, G, fm_P pa (1, 0)))) rfl ?_
        refine fm_gg O rfl hp.1 ?_
        have hp := hp.2
        refine fm_gg O rfl hp.1 ?_
        have hp := hp.2
        refine fm_gg O rfl hp ?_
        refine fm_gr O 1 (C' := (179, [(0, .inr (.inr (.inr (.inr (18, 0))))), (1, .inl op), (2, .inl aa), (3, .inl rg)], [], (I, J, fm_u G 21 0 rg.toNatClampNeg (FP.f2d (FP.fmul (FP.i2f aa) 1040187392)), fm_P pa (1, 0)))) rfl ?_
        exact fm_gRe O rfl trivial (by first | (rw [he]; done) | (rw [he]; rfl) | rfl) (by first | (rw [he]; done) | (rw [he]; rfl) | rfl)
      · have he := he.trans (if_neg h3)
        have hp := hp.2 h3
        by_cases h4 : op = 3
        · have he := he.trans (if_pos h4)
          have hp := hp.1 h4
          refine fm_gs O 3 rfl (show op.toInt = 3 from by rw [h4]; decide) ?_
          refine fm_gr O 6 (C' := (96, [(0, .inr (.inr (.inr (.inr (18, 0))))), (1, .inl op), (2, .inl aa), (3, .inl rg)], [.inr (.inr (.inr (.inl 4593671619917905920))), .inr (.inr (.inr (.inl (FP.i2d aa)))), .inl rg, .inr (.inr (.inr (.inr (21, 0))))], (I, J, G, fm_P pa (1, 0)))) rfl ?_
          refine fm_gg O rfl hp.1 ?_
          have hp := hp.2
          refine fm_gg O rfl hp ?_
          refine fm_gr O 1 (C' := (179, [(0, .inr (.inr (.inr (.inr (18, 0))))), (1, .inl op), (2, .inl aa), (3, .inl rg)], [], (I, J, fm_u G 21 0 rg.toNatClampNeg (FP.dmul (FP.i2d aa) 4593671619917905920), fm_P pa (1, 0)))) rfl ?_
          exact fm_gRe O rfl trivial (by first | (rw [he]; done) | (rw [he]; rfl) | rfl) (by first | (rw [he]; done) | (rw [he]; rfl) | rfl)
        · have he := he.trans (if_neg h4)
          have hp := hp.2 h4
          by_cases h5 : op = 4
          · have he := he.trans (if_pos h5)
            have hp := hp.1 h5
            refine fm_gs O 4 rfl (show op.toInt = 4 from by rw [h5]; decide) ?_
            refine fm_gr O 6 (C' := (109, [(0, .inr (.inr (.inr (.inr (18, 0))))), (1, .inl op), (2, .inl aa), (3, .inl rg)], [.inl rg, .inl ((I 18 0 6) + aa), .inr (.inr (.inr (.inr (18, 0))))], (I, J, G, fm_P pa (1, 0)))) rfl ?_
            have K := fmM_copy_c (d := d) hl (by omega) I J G pa ((I 18 0 6) + aa) rg hp
            generalize er1 : fmM_copy_f J G ((I 18 0 6) + aa) rg = r1 at he
            have he := he.trans (fm_letE _ _)
            rw [er1] at K
            refine fm_cV0 O fmM_copy_o (i := 0) (as := [.inl ((I 18 0 6) + aa), .inl rg]) (rest := []) (v := none) rfl fk_5_102 rfl (by decide) fn_M_copy (Nat.le_of_ble_eq_true rfl) (K) ?_
            refine fm_gr O 1 (C' := (179, [(0, .inr (.inr (.inr (.inr (18, 0))))), (1, .inl op), (2, .inl aa), (3, .inl rg)], [], (I, r1.1, r1.2, fm_P pa (1, 0)))) rfl ?_
            exact fm_gRe O rfl trivial (by first | (rw [he]; done) | (rw [he]; rfl) | rfl) (by first | (rw [he]; done) | (rw [he]; rfl) | rfl)
          · have he := he.trans (if_neg h5)
            have hp := hp.2 h5
            by_cases h6 : op = 5
            · have he := he.trans (if_pos h6)
              have hp := hp.1 h6
              refine fm_gs O 5 rfl (show op.toInt = 5 from by rw [h6]; decide) ?_
              refine fm_gr O 6 (C' := (123, [(0, .inr (.inr (.inr (.inr (18, 0))))), (1, .inl op), (2, .inl aa), (3, .inl rg)], [.inl ((I 18 0 6) + aa), .inl rg, .inr (.inr (.inr (.inr (18, 0))))], (I, J, G, fm_P pa (1, 0)))) rfl ?_
              have K := fmM_copy_c (d := d) hl (by omega) I J G pa rg ((I 18 0 6) + aa) hp
              generalize er2 : fmM_copy_f J G rg ((I 18 0 6) + aa) = r2 at he
              have he := he.trans (fm_letE _ _)
              rw [er2] at K
              refine fm_cV0 O fmM_copy_o (i := 0) (as := [.inl rg, .inl ((I 18 0 6) + aa)]) (rest := []) (v := none) rfl fk_5_102 rfl (by decide) fn_M_copy (Nat.le_of_ble_eq_true rfl) (K) ?_
              refine fm_gr O 1 (C' := (179, [(0, .inr (.inr (.inr (.inr (18, 0))))), (1, .inl op), (2, .inl aa), (3, .inl rg)], [], (I, r2.1, r2.2, fm_P pa (1, 0)))) rfl ?_
              exact fm_gRe O rfl trivial (by first | (rw [he]; done) | (rw [he]; rfl) | rfl) (by first | (rw [he]; done) | (rw [he]; rfl) | rfl)
            · have he := he.trans (if_neg h6)
              have hp := hp.2 h6
              by_cases h7 : op = 6
              · have he := he.trans (if_pos h7)
                have hp := hp.1 h7
                refine fm_gs O 6 rfl (show op.toInt = 6 from by rw [h7]; decide) ?_
                refine fm_gr O 6 (C' := (123, [(0, .inr (.inr (.inr (.inr (18, 0))))), (1, .inl op), (2, .inl aa), (3, .inl rg)], [.inl ((I 18 0 6) + aa), .inl rg, .inr (.inr (.inr (.inr (18, 0))))], (I, J, G, fm_P pa (1, 0)))) rfl ?_
                have K := fmM_copy_c (d := d) hl (by omega) I J G pa rg ((I 18 0 6) + aa) hp
                generalize er3 : fmM_copy_f J G rg ((I 18 0 6) + aa) = r3 at he
                have he := he.trans (fm_letE _ _)
                rw [er3] at K
                refine fm_cV0 O fmM_copy_o (i := 0) (as := [.inl rg, .inl ((I 18 0 6) + aa)]) (rest := []) (v := none) rfl fk_5_102 rfl (by decide) fn_M_copy (Nat.le_of_ble_eq_true rfl) (K) ?_
                refine fm_gr O 1 (C' := (179, [(0, .inr (.inr (.inr (.inr (18, 0))))), (1, .inl op), (2, .inl aa), (3, .inl rg)], [], (I, r3.1, r3.2, fm_P pa (1, 0)))) rfl ?_
                exact fm_gRe O rfl trivial (by first | (rw [he]; done) | (rw [he]; rfl) | rfl) (by first | (rw [he]; done) | (rw [he]; rfl) | rfl)
              · have he := he.trans (if_neg h7)
                have hp := hp.2 h7
                by_cases h8 : op = 7
                · have he := he.trans (if_pos h8)
                  have hp := hp.1 h8
                  refine fm_gs O 7 rfl (show op.toInt = 7 from by rw [h8]; decide) ?_
                  refine fm_gr O 5 (C' := (136, [(0, .inr (.inr (.inr (.inr (18, 0))))), (1, .inl op), (2, .inl aa), (3, .inl rg)], [.inl rg, .inl (208 + aa), .inr (.inr (.inr (.inr (18, 0))))], (I, J, G, fm_P pa (1, 0)))) rfl ?_
                  have K := fmM_copy_c (d := d) hl (by omega) I J G pa (208 + aa) rg hp
                  generalize er4 : fmM_copy_f J G (208 + aa) rg = r4 at he
                  have he := he.trans (fm_letE _ _)
                  rw [er4] at K
                  refine fm_cV0 O fmM_copy_o (i := 0) (as := [.inl (208 + aa), .inl rg]) (rest := []) (v := none) rfl fk_5_102 rfl (by decide) fn_M_copy (Nat.le_of_ble_eq_true rfl) (K) ?_
                  refine fm_gr O 1 (C' := (179, [(0, .inr (.inr (.inr (.inr (18, 0))))), (1, .inl op), (2, .inl aa), (3, .inl rg)], [], (I, r4.1, r4.2, fm_P pa (1, 0)))) rfl ?_
                  exact fm_gRe O rfl trivial (by first | (rw [he]; done) | (rw [he]; rfl) | rfl) (by first | (rw [he]; done) | (rw [he]; rfl) | rfl)
                · have he := he.trans (if_neg h8)
                  have hp := hp.2 h8
                  by_cases h9 : op = 8
                  · have he := he.trans (if_pos h9)
                    have hp := hp.1 h9
                    refine fm_gs O 8 rfl (show op.toInt = 8 from by rw [h9]; decide) ?_
                    refine fm_gr O 5 (C' := (149, [(0, .inr (.inr (.inr (.inr (18, 0))))), (1, .inl op), (2, .inl aa), (3, .inl rg)], [.inl (208 + aa), .inl rg, .inr (.inr (.inr (.inr (18, 0))))], (I, J, G, fm_P pa (1, 0)))) rfl ?_
                    have K := fmM_copy_c (d := d) hl (by omega) I J G pa rg (208 + aa) hp
                    generalize er5 : fmM_copy_f J G rg (208 + aa) = r5 at he
                    have he := he.trans (fm_letE _ _)
                    rw [er5] at K
                    refine fm_cV0 O fmM_copy_o (i := 0) (as := [.inl rg, .inl (208 + aa)]) (rest := []) (v := none) rfl fk_5_102 rfl (by decide) fn_M_copy (Nat.le_of_ble_eq_true rfl) (K) ?_
                    refine fm_gr O 1 (C' := (179, [(0, .inr (.inr (.inr (.inr (18, 0))))), (1, .inl op), (2, .inl aa), (3, .inl rg)], [], (I, r5.1, r5.2, fm_P pa (1, 0)))) rfl ?_
                    exact fm_gRe O rfl trivial (by first | (rw [he]; done) | (rw [he]; rfl) | rfl) (by first | (rw [he]; done) | (rw [he]; rfl) | rfl)
                  · have he := he.trans (if_neg h9)
                    have hp := hp.2 h9
                    by_cases h10 : op = 9
                    · have he := he.trans (if_pos h10)
                      refine fm_gs O 9 rfl (show op.toInt = 9 from by rw [h10]; decide) ?_
                      exact fm_gRe O rfl trivial (by first | (rw [he]; done) | (rw [he]; rfl) | rfl) (by first | (rw [he]; done) | (rw [he]; rfl) | rfl)
                    · have he := he.trans (if_neg h10)
                      have hp := hp.2 h10
                      by_cases h11 : op = 10
                      · have he := he.trans (if_pos h11)
                        have hp := hp.1 h11
                        refine fm_gs O 10 rfl (show op.toInt = 10 from by rw [h11]; decide) ?_
                        refine fm_gr O 5 (C' := (162, [(0, .inr (.inr (.inr (.inr (18, 0))))), (1, .inl op), (2, .inl aa), (3, .inl rg)], [.inl (rg + 2), .inr (.inr (.inr (.inr (20, 0))))], (I, J, G, fm_P pa (1, 0)))) rfl ?_
                        refine fm_gg O rfl hp.1 ?_
                        have hp := hp.2
                        refine fm_gr O 2 (C' := (165, [(0, .inr (.inr (.inr (.inr (18, 0))))), (1, .inl op), (2, .inl aa), (3, .inl rg)], [.inl (lg_cmp (J 20 0 ((rg + 2).toNatClampNeg)) 0)], (I, J, G, fm_P pa (1, 0)))) rfl ?_
                        refine fm_gb O rfl (fun h => ?_) (fun h => ?_)
                        · have h12 : (lg_cmp (J 20 0 ((rg + 2).toNatClampNeg)) 0) = 0 := h
                          have he := he.trans (if_pos h12)
                          have hp := hp.1 h12
                          refine fm_gr O 5 (C' := (173, [(0, .inr (.inr (.inr (.inr (18, 0))))), (1, .inl op), (2, .inl aa), (3, .inl rg)], [.inl rg, .inl (rg + 1), .inr (.inr (.inr (.inr (18, 0))))], (I, J, G, fm_P pa (1, 0)))) rfl ?_
                          have K := fmM_copy_c (d := d) hl (by omega) I J G pa (rg + 1) rg hp
                          generalize er6 : fmM_copy_f J G (rg + 1) rg = r6 at he
                          have he := he.trans (fm_letE _ _)
                          rw [er6] at K
                          refine fm_cV0 O fmM_copy_o (i := 0) (as := [.inl (rg + 1), .inl rg]) (rest := []) (v := none) rfl fk_5_102 rfl (by decide) fn_M_copy (Nat.le_of_ble_eq_true rfl) (K) ?_
                          refine fm_gr O 1 (C' := (179, [(0, .inr (.inr (.inr (.inr (18, 0))))), (1, .inl op), (2, .inl aa), (3, .inl rg)], [], (I, r6.1, r6.2, fm_P pa (1, 0)))) rfl ?_
                          exact fm_gRe O rfl trivial (by first | (rw [he]; done) | (rw [he]; rfl) | rfl) (by first | (rw [he]; done) | (rw [he]; rfl) | rfl)
                        · have h12 : ¬ (lg_cmp (J 20 0 ((rg + 2).toNatClampNeg)) 0) = 0 := h
                          have he := he.trans (if_neg h12)
                          exact fm_gRe O rfl trivial (by first | (rw [he]; done) | (rw [he]; rfl) | rfl) (by first | (rw [he]; done) | (rw [he]; rfl) | rfl)
                      · have he := he.trans (if_neg h11)
                        have hz : op.toInt < 0 ∨ 10 < op.toInt := by
                          have := lv_neT h1 (show (0 : Int32).toInt = 0 from by decide)
                          have := lv_neT h2 (show (1 : Int32).toInt = 1 from by decide)
                          have := lv_neT h3 (show (2 : Int32).toInt = 2 from by decide)
                          have := lv_neT h4 (show (3 : Int32).toInt = 3 from by decide)
                          have := lv_neT h5 (show (4 : Int32).toInt = 4 from by decide)
                          have := lv_neT h6 (show (5 : Int32).toInt = 5 from by decide)
                          have := lv_neT h7 (show (6 : Int32).toInt = 6 from by decide)
                          have := lv_neT h8 (show (7 : Int32).toInt = 7 from by decide)
                          have := lv_neT h9 (show (8 : Int32).toInt = 8 from by decide)
                          have := lv_neT h10 (show (9 : Int32).toInt = 9 from by decide)
                          have := lv_neT h11 (show (10 : Int32).toInt = 10 from by decide)
                          omega
                        refine fm_gt O rfl hz ?_
                        exact fm_gRe O rfl trivial (by first | (rw [he]; done) | (rw [he]; rfl) | rfl) (by first | (rw [he]; done) | (rw [he]; rfl) | rfl)
def fmM_holds_f (J : fm_MJ) (G : fm_MG) (op : Int32) (ty : Int32) (rg : Int32) : Int32 :=
  if 1 < ty then (if op = 18 then (if 0 ≤ (Op.cmpValue (FP.dcmp (G 21 0 rg.toNatClampNeg) (G 21 0 ((rg + 1).toNatClampNeg))) .g) then 0 else 1) else (if (Op.cmpValue (FP.dcmp (G 21 0 rg.toNatClampNeg) (G 21 0 ((rg + 1).toNatClampNeg))) .l) = 0 then 1 else 0)) else (if op = 18 then (if 0 ≤ (lg_cmp (J 20 0 rg.toNatClampNeg) (J 20 0 ((rg + 1).toNatClampNeg))) then 0 else 1) else (if (lg_cmp (J 20 0 rg.toNatClampNeg) (J 20 0 ((rg + 1).toNatClampNeg))) = 0 then 1 else 0))
theorem fmM_holds_e (J : fm_MJ) (G : fm_MG) (op : Int32) (ty : Int32) (rg : Int32) : fmM_holds_f J G op ty rg = if 1 < ty then (if op = 18 then (if 0 ≤ (Op.cmpValue (FP.dcmp (G 21 0 rg.toNatClampNeg) (G 21 0 ((rg + 1).toNatClampNeg))) .g) then 0 else 1) else (if (Op.cmpValue (FP.dcmp (G 21 0 rg.toNatClampNeg) (G 21 0 ((rg + 1).toNatClampNeg))) .l) = 0 then 1 else 0)) else (if op = 18 then (if 0 ≤ (lg_cmp (J 20 0 rg.toNatClampNeg) (J 20 0 ((rg + 1).toNatClampNeg))) then 0 else 1) else (if (lg_cmp (J 20 0 rg.toNatClampNeg) (J 20 0 ((rg + 1).toNatClampNeg))) = 0 then 1 else 0)) := rfl
def fmM_holds_p (op : Int32) (ty : Int32) (rg : Int32) : Prop :=
  (1 < ty → (op = 18 → (vp_in rg 212) ∧ (vp_in (rg + 1) 212)) ∧ (¬ op = 18 → (vp_in rg 212) ∧ (vp_in (rg + 1) 212))) ∧ (¬ 1 < ty → (op = 18 → (vp_in rg 212) ∧ (vp_in (rg + 1) 212)) ∧ (¬ op = 18 → (vp_in rg 212) ∧ (vp_in (rg + 1) 212)))
set_option maxRecDepth 100000 in
set_option maxHeartbeats 4000000 in
theorem fmM_holds_c {E : fm_Ev} (hl : E.1.stackTraces = false) {d : Nat} (hd : 0 ≤ d) (I : fm_MI) (J : fm_MJ) (G : fm_MG) (pa : Nat × Nat) (op : Int32) (ty : Int32) (rg : Int32) (hp : fmM_holds_p op ty rg) : fm_Ct E d fmM_holds 0 [.inr (.inr (.inr (.inr (18, 0)))), .inl op, .inl ty, .inl rg] (I, J, G, fm_P pa (1, 0)) (some (.inl (fmM_holds_f J G op ty rg))) (I, J, G, fm_P pa (1, 0)) := by
  refine fm_ct fmM_holds_o hl (Nat.le_of_ble_eq_true rfl) ?_
  have O := fmM_holds_o.1
  unfold fmM_holds_p at hp
  have he := fmM_holds_e J G op ty rg
  refine fm_gr O 2 (C' := (2, [(0, .inr (.inr (.inr (.inr (18, 0))))), (1, .inl op), (2, .inl ty), (3, .inl rg)], [.inl 1, .inl ty], (I, J, G, fm_P pa (1, 0)))) rfl ?_
  refine fm_gb O rfl (fun h => ?_) (fun h => ?_)
  · have h1 : 1 < ty := h
    have he := he.trans (if_pos h1)
    have hp := hp.1 h1
    refine fm_gr O 2 (C' := (64, [(0, .inr (.inr (.inr (.inr (18, 0))))), (1, .inl op), (2, .inl ty), (3, .inl rg)], [.inl 18, .inl op], (I, J, G, fm_P pa (1, 0)))) rfl ?_
    refine fm_gb O rfl (fun h => ?_) (fun h => ?_)
    · have h2 : op = 18 := h
      have he := he.trans (if_pos h2)
      have hp := hp.1 h2
      refine fm_gr O 3 (C' := (72, [(0, .inr (.inr (.inr (.inr (18, 0))))), (1, .inl op), (2, .inl ty), (3, .inl rg)], [.inl rg, .inr (.inr (.inr (.inr (21, 0))))], (I, J, G, fm_P pa (1, 0)))) rfl ?_
      refine fm_gg O rfl hp.1 ?_
      have hp := hp.2
      refine fm_gr O 5 (C' := (80, [(0, .inr (.inr (.inr (.inr (18, 0))))), (1, .inl op), (2, .inl ty), (3, .inl rg)], [.inl (rg + 1), .inr (.inr (.inr (.inr (21, 0)))), .inr (.inr (.inr (.inl (G 21 0 rg.toNatClampNeg))))], (I, J, G, fm_P pa (1, 0)))) rfl ?_
      refine fm_gg O rfl hp ?_
      refine fm_gr O 1 (C' := (82, [(0, .inr (.inr (.inr (.inr (18, 0))))), (1, .inl op), (2, .inl ty), (3, .inl rg)], [.inl (Op.cmpValue (FP.dcmp (G 21 0 rg.toNatClampNeg) (G 21 0 ((rg + 1).toNatClampNeg))) .g)], (I, J, G, fm_P pa (1, 0)))) rfl ?_
      refine fm_gb O rfl (fun h => ?_) (fun h => ?_)
      · have h3 : 0 ≤ (Op.cmpValue (FP.dcmp (G 21 0 rg.toNatClampNeg) (G 21 0 ((rg + 1).toNatClampNeg))) .g) := h
        have he := he.trans (if_pos h3)
        refine fm_gr O 2 (C' := (116, [(0, .inr (.inr (.inr (.inr (18, 0))))), (1, .inl op), (2, .inl ty), (3, .inl rg)], [.inl 0], (I, J, G, fm_P pa (1, 0)))) rfl ?_
        exact fm_gRe O rfl (Or.inl rfl) (by first | (rw [he]; done) | (rw [he]; rfl) | rfl) (by first | (rw [he]; done) | (rw [he]; rfl) | rfl)
      · have h3 : ¬ 0 ≤ (Op.cmpValue (FP.dcmp (G 21 0 rg.toNatClampNeg) (G 21 0 ((rg + 1).toNatClampNeg))) .g) := h
        have he := he.trans (if_neg h3)
        refine fm_gr O 2 (C' := (116, [(0, .inr (.inr (.inr (.inr (18, 0))))), (1, .inl op), (2, .inl ty), (3, .inl rg)], [.inl 1], (I, J, G, fm_P pa (1, 0)))) rfl ?_
        exact fm_gRe O rfl (Or.inr rfl) (by first | (rw [he]; done) | (rw [he]; rfl) | rfl) (by first | (rw [he]; done) | (rw [he]; rfl) | rfl)
    · have h2 : ¬ op = 18 := h
      have he := he.trans (if_neg h2)
      have hp := hp.2 h2
      refine fm_gr O 3 (C' := (98, [(0, .inr (.inr (.inr (.inr (18, 0))))), (1, .inl op), (2, .inl ty), (3, .inl rg)], [.inl rg, .inr (.inr (.inr (.inr (21, 0))))], (I, J, G, fm_P pa (1, 0)))) rfl ?_
      refine fm_gg O rfl hp.1 ?_
      have hp := hp.2
      refine fm_gr O 5 (C' := (106, [(0, .inr (.inr (.inr (.inr (18, 0))))), (1, .inl op), (2, .inl ty), (3, .inl rg)], [.inl (rg + 1), .inr (.inr (.inr (.inr (21, 0)))), .inr (.inr (.inr (.inl (G 21 0 rg.toNatClampNeg))))], (I, J, G, fm_P pa (1, 0)))) rfl ?_
      refine fm_gg O rfl hp ?_
      refine fm_gr O 1 (C' := (108, [(0, .inr (.inr (.inr (.inr (18, 0))))), (1, .inl op), (2, .inl ty), (3, .inl rg)], [.inl (Op.cmpValue (FP.dcmp (G 21 0 rg.toNatClampNeg) (G 21 0 ((rg + 1).toNatClampNeg))) .l)], (I, J, G, fm_P pa (1, 0)))) rfl ?_
      refine fm_gb O rfl (fun h => ?_) (fun h => ?_)
      · have h3 : (Op.cmpValue (FP.dcmp (G 21 0 rg.toNatClampNeg) (G 21 0 ((rg + 1).toNatClampNeg))) .l) = 0 := h
        have he := he.trans (if_pos h3)
        refine fm_gr O 2 (C' := (116, [(0, .inr (.inr (.inr (.inr (18, 0))))), (1, .inl op), (2, .inl ty), (3, .inl rg)], [.inl 1], (I, J, G, fm_P pa (1, 0)))) rfl ?_
        exact fm_gRe O rfl (Or.inr rfl) (by first | (rw [he]; done) | (rw [he]; rfl) | rfl) (by first | (rw [he]; done) | (rw [he]; rfl) | rfl)
      · have h3 : ¬ (Op.cmpValue (FP.dcmp (G 21 0 rg.toNatClampNeg) (G 21 0 ((rg + 1).toNatClampNeg))) .l) = 0 := h
        have he := he.trans (if_neg h3)
        refine fm_gr O 1 (C' := (116, [(0, .inr (.inr (.inr (.inr (18, 0))))), (1, .inl op), (2, .inl ty), (3, .inl rg)], [.inl 0], (I, J, G, fm_P pa (1, 0)))) rfl ?_
        exact fm_gRe O rfl (Or.inl rfl) (by first | (rw [he]; done) | (rw [he]; rfl) | rfl) (by first | (rw [he]; done) | (rw [he]; rfl) | rfl)
  · have h1 : ¬ 1 < ty := h
    have he := he.trans (if_neg h1)
    have hp := hp.2 h1
    refine fm_gr O 2 (C' := (8, [(0, .inr (.inr (.inr (.inr (18, 0))))), (1, .inl op), (2, .inl ty), (3, .inl rg)], [.inl 18, .inl op], (I, J, G, fm_P pa (1, 0)))) rfl ?_
    refine fm_gb O rfl (fun h => ?_) (fun h => ?_)
    · have h2 : op = 18 := h
      have he := he.trans (if_pos h2)
      have hp := hp.1 h2
      refine fm_gr O 3 (C' := (16, [(0, .inr (.inr (.inr (.inr (18, 0))))), (1, .inl op), (2, .inl ty), (3, .inl rg)], [.inl rg, .inr (.inr (.inr (.inr (20, 0))))], (I, J, G, fm_P pa (1, 0)))) rfl ?_
      refine fm_gg O rfl hp.1 ?_
      have hp := hp.2
      refine fm_gr O 5 (C' := (24, [(0, .inr (.inr (.inr (.inr (18, 0))))), (1, .inl op), (2, .inl ty), (3, .inl rg)], [.inl (rg + 1), .inr (.inr (.inr (.inr (20, 0)))), .inr (.inl (J 20 0 rg.toNatClampNeg))], (I, J, G, fm_P pa (1, 0)))) rfl ?_
      refine fm_gg O rfl hp ?_
      refine fm_gr O 1 (C' := (26, [(0, .inr (.inr (.inr (.inr (18, 0))))), (1, .inl op), (2, .inl ty), (3, .inl rg)], [.inl (lg_cmp (J 20 0 rg.toNatClampNeg) (J 20 0 ((rg + 1).toNatClampNeg)))], (I, J, G, fm_P pa (1, 0)))) rfl ?_
      refine fm_gb O rfl (fun h => ?_) (fun h => ?_)
      · have h3 : 0 ≤ (lg_cmp (J 20 0 rg.toNatClampNeg) (J 20 0 ((rg + 1).toNatClampNeg))) := h
        have he := he.trans (if_pos h3)
        refine fm_gr O 2 (C' := (60, [(0, .inr (.inr (.inr (.inr (18, 0))))), (1, .inl op), (2, .inl ty), (3, .inl rg)], [.inl 0], (I, J, G, fm_P pa (1, 0)))) rfl ?_
        exact fm_gRe O rfl (Or.inl rfl) (by first | (rw [he]; done) | (rw [he]; rfl) | rfl) (by first | (rw [he]; done) | (rw [he]; rfl) | rfl)
      · have h3 : ¬ 0 ≤ (lg_cmp (J 20 0 rg.toNatClampNeg) (J 20 0 ((rg + 1).toNatClampNeg))) := h
        have he := he.trans (if_neg h3)
        refine fm_gr O 2 (C' := (60, [(0, .inr (.inr (.inr (.inr (18, 0))))), (1, .inl op), (2, .inl ty), (3, .inl rg)], [.inl 1], (I, J, G, fm_P pa (1, 0)))) rfl ?_
        exact fm_gRe O rfl (Or.inr rfl) (by first | (rw [he]; done) | (rw [he]; rfl) | rfl) (by first | (rw [he]; done) | (rw [he]; rfl) | rfl)
    · have h2 : ¬ op = 18 := h
      have he := he.trans (if_neg h2)
      have hp := hp.2 h2
      refine fm_gr O 3 (C' := (42, [(0, .inr (.inr (.inr (.inr (18, 0))))), (1, .inl op), (2, .inl ty), (3, .inl rg)], [.inl rg, .inr (.inr (.inr (.inr (20, 0))))], (I, J, G, fm_P pa (1, 0)))) rfl ?_
      refine fm_gg O rfl hp.1 ?_
      have hp := hp.2
      refine fm_gr O 5 (C' := (50, [(0, .inr (.inr (.inr (.inr (18, 0))))), (1, .inl op), (2, .inl ty), (3, .inl rg)], [.inl (rg + 1), .inr (.inr (.inr (.inr (20, 0)))), .inr (.inl (J 20 0 rg.toNatClampNeg))], (I, J, G, fm_P pa (1, 0)))) rfl ?_
      refine fm_gg O rfl hp ?_
      refine fm_gr O 1 (C' := (52, [(0, .inr (.inr (.inr (.inr (18, 0))))), (1, .inl op), (2, .inl ty), (3, .inl rg)], [.inl (lg_cmp (J 20 0 rg.toNatClampNeg) (J 20 0 ((rg + 1).toNatClampNeg)))], (I, J, G, fm_P pa (1, 0)))) rfl ?_
      refine fm_gb O rfl (fun h => ?_) (fun h => ?_)
      · have h3 : (lg_cmp (J 20 0 rg.toNatClampNeg) (J 20 0 ((rg + 1).toNatClampNeg))) = 0 := h
        have he := he.trans (if_pos h3)
        refine fm_gr O 2 (C' := (60, [(0, .inr (.inr (.inr (.inr (18, 0))))), (1, .inl op), (2, .inl ty), (3, .inl rg)], [.inl 1], (I, J, G, fm_P pa (1, 0)))) rfl ?_
        exact fm_gRe O rfl (Or.inr rfl) (by first | (rw [he]; done) | (rw [he]; rfl) | rfl) (by first | (rw [he]; done) | (rw [he]; rfl) | rfl)
      · have h3 : ¬ (lg_cmp (J 20 0 rg.toNatClampNeg) (J 20 0 ((rg + 1).toNatClampNeg))) = 0 := h
        have he := he.trans (if_neg h3)
        refine fm_gr O 1 (C' := (60, [(0, .inr (.inr (.inr (.inr (18, 0))))), (1, .inl op), (2, .inl ty), (3, .inl rg)], [.inl 0], (I, J, G, fm_P pa (1, 0)))) rfl ?_
        exact fm_gRe O rfl (Or.inl rfl) (by first | (rw [he]; done) | (rw [he]; rfl) | rfl) (by first | (rw [he]; done) | (rw [he]; rfl) | rfl)
def fmM_jump_f (I : fm_MI) (J : fm_MJ) (G : fm_MG) (f : Nat) (rw : Int32) (rg : Int32) : fm_MI × fm_MJ × fm_MG :=
  if (I 10 f rw.toNatClampNeg) = (-1) then ((fm_u I 23 0 (((I 18 0 5) - 1).toNatClampNeg) (I 11 f rw.toNatClampNeg), J, G)) else (fm_let (fmM_copy_f J G rg ((I 18 0 6) + (I 10 f rw.toNatClampNeg))) (fun (r1 : fm_MJ × fm_MG) => (fm_u I 23 0 (((I 18 0 5) - 1).toNatClampNeg) (I 11 f rw.toNatClampNeg), r1.1, r1.2)))
theorem fmM_jump_e (I : fm_MI) (J : fm_MJ) (G : fm_MG) (f : Nat) (rw : Int32) (rg : Int32) : fmM_jump_f I J G f rw rg = if (I 10 f rw.toNatClampNeg) = (-1) then ((fm_u I 23 0 (((I 18 0 5) - 1).toNatClampNeg) (I 11 f rw.toNatClampNeg), J, G)) else (fm_let (fmM_copy_f J G rg ((I 18 0 6) + (I 10 f rw.toNatClampNeg))) (fun (r1 : fm_MJ × fm_MG) => (fm_u I 23 0 (((I 18 0 5) - 1).toNatClampNeg) (I 11 f rw.toNatClampNeg), r1.1, r1.2))) := rfl
def fmM_jump_p (I : fm_MI) (J : fm_MJ) (G : fm_MG) (f : Nat) (rw : Int32) (rg : Int32) : Prop :=
  (vp_in rw 40) ∧ (((I 10 f rw.toNatClampNeg) = (-1) → (vp_in rw 40) ∧ (vp_in ((I 18 0 5) - 1) 8)) ∧ (¬ (I 10 f rw.toNatClampNeg) = (-1) → (vp_in rw 40) ∧ (fmM_copy_p rg ((I 18 0 6) + (I 10 f rw.toNatClampNeg)) ∧ (fm_let (fmM_copy_f J G rg ((I 18 0 6) + (I 10 f rw.toNatClampNeg))) (fun (r1 : fm_MJ × fm_MG) => (vp_in rw 40) ∧ (vp_in ((I 18 0 5) - 1) 8))))))
set_option maxRecDepth 100000 in
set_option maxHeartbeats 4000000 in
theorem fmM_jump_c {E : fm_Ev} (hl : E.1.stackTraces = false) {d : Nat} (hd : 1 ≤ d) (I : fm_MI) (J : fm_MJ) (G : fm_MG) (pa : Nat × Nat) (f : Nat) (rw : Int32) (rg : Int32) (hp : fmM_jump_p I J G f rw rg) : fm_Ct E d fmM_jump 0 [.inr (.inr (.inr (.inr (18, 0)))), .inr (.inr (.inr (.inr (6, f)))), .inl rw, .inl rg] (I, J, G, fm_P pa (1, 0)) none ((fmM_jump_f I J G f rw rg).1, (fmM_jump_f I J G f rw rg).2.1, (fmM_jump_f I J G f rw rg).2.2, fm_P pa (1, 0)) := by
  obtain ⟨d, rfl⟩ : ∃ d', d = d' + 1 := ⟨d - 1, by omega⟩
  refine fm_ct fmM_jump_o hl (Nat.le_of_ble_eq_true rfl) ?_
  have O := fmM_jump_o.1
  unfold fmM_jump_p at hp
  have he := fmM_jump_e I J G f rw rg
  refine fm_gr O 3 (C' := (5, [(0, .inr (.inr (.inr (.inr (18, 0))))), (1, .inr (.inr (.inr (.inr (6, f))))), (2, .inl rw), (3, .inl rg)], [.inl rw, .inr (.inr (.inr (.inr (10, f))))], (I, J, G, fm_P pa (1, 0)))) rfl ?_
  refine fm_gg O rfl hp.1 ?_
  have hp := hp.2
  refine fm_gr O 1 (C' := (7, [(0, .inr (.inr (.inr (.inr (18, 0))))), (1, .inr (.inr (.inr (.inr (6, f))))), (2, .inl rw), (3, .inl rg)], [.inl (-1), .inl (I 10 f rw.toNatClampNeg)], (I, J, G, fm_P pa (1, 0)))) rfl ?_
  refine fm_gb O rfl (fun h => ?_) (fun h => ?_)
  · have h1 : (I 10 f rw.toNatClampNeg) = (-1) := h
    have he := he.trans (if_pos h1)
    have hp := hp.1 h1
    refine fm_gr O 9 (C' := (41, [(0, .inr (.inr (.inr (.inr (18, 0))))), (1, .inr (.inr (.inr (.inr (6, f))))), (2, .inl rw), (3, .inl rg)], [.inl rw, .inr (.inr (.inr (.inr (11, f)))), .inl ((I 18 0 5) - 1), .inr (.inr (.inr (.inr (23, 0))))], (I, J, G, fm_P pa (1, 0)))) rfl ?_
    refine fm_gg O rfl hp.1 ?_
    have hp := hp.2
    refine fm_gg O rfl hp ?_
    exact fm_gRe O rfl trivial (by first | (rw [he]; done) | (rw [he]; rfl) | rfl) (by first | (rw [he]; done) | (rw [he]; rfl) | rfl)
  · have h1 : ¬ (I 10 f rw.toNatClampNeg) = (-1) := h
    have he := he.trans (if_neg h1)
    have hp := hp.2 h1
    refine fm_gr O 7 (C' := (21, [(0, .inr (.inr (.inr (.inr (18, 0))))), (1, .inr (.inr (.inr (.inr (6, f))))), (2, .inl rw), (3, .inl rg)], [.inl rw, .inr (.inr (.inr (.inr (10, f)))), .inl (I 18 0 6), .inl rg, .inr (.inr (.inr (.inr (18, 0))))], (I, J, G, fm_P pa (1, 0)))) rfl ?_
    refine fm_gg O rfl hp.1 ?_
    have hp := hp.2
    refine fm_gr O 1 (C' := (23, [(0, .inr (.inr (.inr (.inr (18, 0))))), (1, .inr (.inr (.inr (.inr (6, f))))), (2, .inl rw), (3, .inl rg)], [.inl ((I 18 0 6) + (I 10 f rw.toNatClampNeg)), .inl rg, .inr (.inr (.inr (.inr (18, 0))))], (I, J, G, fm_P pa (1, 0)))) rfl ?_
    have hc := hp.1
    have hp := hp.2
    have K := fmM_copy_c (d := d) hl (by omega) I J G pa rg ((I 18 0 6) + (I 10 f rw.toNatClampNeg)) hc
    generalize er1 : fmM_copy_f J G rg ((I 18 0 6) + (I 10 f rw.toNatClampNeg)) = r1 at he hp
    have he := he.trans (fm_letE _ _)
    have hp := fm_letP hp
    rw [er1] at K
    refine fm_cV0 O fmM_copy_o (i := 0) (as := [.inl rg, .inl ((I 18 0 6) + (I 10 f rw.toNatClampNeg))]) (rest := []) (v := none) rfl fk_5_102 rfl (by decide) fn_M_copy (Nat.le_of_ble_eq_true rfl) (K) ?_
    refine fm_gr O 9 (C' := (41, [(0, .inr (.inr (.inr (.inr (18, 0))))), (1, .inr (.inr (.inr (.inr (6, f))))), (2, .inl rw), (3, .inl rg)], [.inl rw, .inr (.inr (.inr (.inr (11, f)))), .inl ((I 18 0 5) - 1), .inr (.inr (.inr (.inr (23, 0))))], (I, r1.1, r1.2, fm_P pa (1, 0)))) rfl ?_
    refine fm_gg O rfl hp.1 ?_
    have hp := hp.2
    refine fm_gg O rfl hp ?_
    exact fm_gRe O rfl trivial (by first | (rw [he]; done) | (rw [he]; rfl) | rfl) (by first | (rw [he]; done) | (rw [he]; rfl) | rfl)
