/-! THE REFERENCE, by program (wip/tools/walk.py, gen_c3.py) -/
def fmD_pass_f (I : fm_MI) (J : fm_MJ) (G : fm_MG) (f : Int32) (i : Int32) (v : UInt64) : fm_MI × fm_MJ × fm_MG :=
  if i < (I 28 0 f.toNatClampNeg) then (if (I 30 0 (((f * 6) + i).toNatClampNeg)) = 0 then (fm_let (fmD_push_f I J G (I 30 0 (((f * 6) + i).toNatClampNeg)) ((FP.d2i v).toInt64) v) (fun (r1 : fm_MI × fm_MJ × fm_MG) => (r1.1, r1.2.1, r1.2.2))) else (fm_let (fmD_push_f I J G (I 30 0 (((f * 6) + i).toNatClampNeg)) (FP.d2l v) v) (fun (r2 : fm_MI × fm_MJ × fm_MG) => (r2.1, r2.2.1, r2.2.2)))) else ((I, J, G))
theorem fmD_pass_e (I : fm_MI) (J : fm_MJ) (G : fm_MG) (f : Int32) (i : Int32) (v : UInt64) : fmD_pass_f I J G f i v = if i < (I 28 0 f.toNatClampNeg) then (if (I 30 0 (((f * 6) + i).toNatClampNeg)) = 0 then (fm_let (fmD_push_f I J G (I 30 0 (((f * 6) + i).toNatClampNeg)) ((FP.d2i v).toInt64) v) (fun (r1 : fm_MI × fm_MJ × fm_MG) => (r1.1, r1.2.1, r1.2.2))) else (fm_let (fmD_push_f I J G (I 30 0 (((f * 6) + i).toNatClampNeg)) (FP.d2l v) v) (fun (r2 : fm_MI × fm_MJ × fm_MG) => (r2.1, r2.2.1, r2.2.2)))) else ((I, J, G)) := rfl
def fmD_pass_p (I : fm_MI) (f : Int32) (i : Int32) (v : UInt64) : Prop :=
  (vp_in f 4) ∧ ((i < (I 28 0 f.toNatClampNeg) → (vp_in ((f * 6) + i) 24) ∧ (((I 30 0 (((f * 6) + i).toNatClampNeg)) = 0 → fmD_push_p I (I 30 0 (((f * 6) + i).toNatClampNeg)) v) ∧ (¬ (I 30 0 (((f * 6) + i).toNatClampNeg)) = 0 → fmD_push_p I (I 30 0 (((f * 6) + i).toNatClampNeg)) v))) ∧ (¬ i < (I 28 0 f.toNatClampNeg) → True))
set_option maxRecDepth 100000 in
set_option maxHeartbeats 4000000 in
theorem fmD_pass_c {E : fm_Ev} (hl : E.1.stackTraces = false) {d : Nat} (hd : 1 ≤ d) (I : fm_MI) (J : fm_MJ) (G : fm_MG) (pa : Nat × Nat) (pb : Nat × Nat) (f : Int32) (i : Int32) (v : UInt64) (hp : fmD_pass_p I f i v) : fm_Ct E d fmD_pass 0 [.inr (.inr (.inr (.inr (24, 0)))), .inl f, .inl i, .inr (.inr (.inr (.inl v)))] (I, J, G, fm_P pa pb) none ((fmD_pass_f I J G f i v).1, (fmD_pass_f I J G f i v).2.1, (fmD_pass_f I J G f i v).2.2, fm_P pa pb) := by
  obtain ⟨d, rfl⟩ : ∃ d', d = d' + 1 := ⟨d - 1, by omega⟩
  refine fm_ct fmD_pass_o hl (Nat.le_of_ble_eq_true rfl) ?_
  have O := fmD_pass_o.1
  unfold fmD_pass_p at hp
  have he := fmD_pass_e I J G f i v
  refine fm_gr O 4 (C' := (6, [(0, .inr (.inr (.inr (.inr (24, 0))))), (1, .inl f), (2, .inl i), (3, .inr (.inr (.inr (.inl v))))], [.inl f, .inr (.inr (.inr (.inr (28, 0)))), .inl i], (I, J, G, fm_P pa pb))) rfl ?_
  refine fm_gg O rfl hp.1 ?_
  have hp := hp.2
  refine fm_gb O rfl (fun h => ?_) (fun h => ?_)
  · have h1 : i < (I 28 0 f.toNatClampNeg) := h
    have he := he.trans (if_pos h1)
    have hp := hp.1 h1
    refine fm_gr O 7 (C' := (21, [(0, .inr (.inr (.inr (.inr (24, 0))))), (1, .inl f), (2, .inl i), (3, .inr (.inr (.inr (.inl v))))], [.inl ((f * 6) + i), .inr (.inr (.inr (.inr (30, 0))))], (I, J, G, fm_P pa pb))) rfl ?_
    refine fm_gg O rfl hp.1 ?_
    have hp := hp.2
    refine fm_gr O 4 (C' := (29, [(5, .inl (I 30 0 (((f * 6) + i).toNatClampNeg))), (0, .inr (.inr (.inr (.inr (24, 0))))), (1, .inl f), (2, .inl i), (3, .inr (.inr (.inr (.inl v))))], [.inl (I 30 0 (((f * 6) + i).toNatClampNeg)), .inl (I 30 0 (((f * 6) + i).toNatClampNeg)), .inr (.inr (.inr (.inr (24, 0))))], (I, J, G, fm_P pa pb))) rfl ?_
    refine fm_gb O rfl (fun h => ?_) (fun h => ?_)
    · have h2 : (I 30 0 (((f * 6) + i).toNatClampNeg)) = 0 := h
      have he := he.trans (if_pos h2)
      have hp := hp.1 h2
      refine fm_gr O 5 (C' := (41, [(5, .inl (I 30 0 (((f * 6) + i).toNatClampNeg))), (0, .inr (.inr (.inr (.inr (24, 0))))), (1, .inl f), (2, .inl i), (3, .inr (.inr (.inr (.inl v))))], [.inr (.inr (.inr (.inl v))), .inr (.inl ((FP.d2i v).toInt64)), .inl (I 30 0 (((f * 6) + i).toNatClampNeg)), .inr (.inr (.inr (.inr (24, 0))))], (I, J, G, fm_P pa pb))) rfl ?_
      have K := fmD_push_c (d := d) hl (by omega) I J G pa pb (I 30 0 (((f * 6) + i).toNatClampNeg)) ((FP.d2i v).toInt64) v hp
      generalize er1 : fmD_push_f I J G (I 30 0 (((f * 6) + i).toNatClampNeg)) ((FP.d2i v).toInt64) v = r1 at he
      have he := he.trans (fm_letE _ _)
      rw [er1] at K
      refine fm_cV0 O fmD_push_o (i := 0) (as := [.inl (I 30 0 (((f * 6) + i).toNatClampNeg)), .inr (.inl ((FP.d2i v).toInt64)), .inr (.inr (.inr (.inl v)))]) (rest := []) (v := none) rfl fk_6_172 rfl (by decide) fn_D_push (Nat.le_of_ble_eq_true rfl) (K) ?_
      exact fm_gRe O rfl trivial (by first | (rw [he]; done) | (rw [he]; rfl) | rfl) (by first | (rw [he]; done) | (rw [he]; rfl) | rfl)
    · have h2 : ¬ (I 30 0 (((f * 6) + i).toNatClampNeg)) = 0 := h
      have he := he.trans (if_neg h2)
      have hp := hp.2 h2
      refine fm_gr O 3 (C' := (41, [(5, .inl (I 30 0 (((f * 6) + i).toNatClampNeg))), (0, .inr (.inr (.inr (.inr (24, 0))))), (1, .inl f), (2, .inl i), (3, .inr (.inr (.inr (.inl v))))], [.inr (.inr (.inr (.inl v))), .inr (.inl (FP.d2l v)), .inl (I 30 0 (((f * 6) + i).toNatClampNeg)), .inr (.inr (.inr (.inr (24, 0))))], (I, J, G, fm_P pa pb))) rfl ?_
      have K := fmD_push_c (d := d) hl (by omega) I J G pa pb (I 30 0 (((f * 6) + i).toNatClampNeg)) (FP.d2l v) v hp
      generalize er2 : fmD_push_f I J G (I 30 0 (((f * 6) + i).toNatClampNeg)) (FP.d2l v) v = r2 at he
      have he := he.trans (fm_letE _ _)
      rw [er2] at K
      refine fm_cV0 O fmD_push_o (i := 0) (as := [.inl (I 30 0 (((f * 6) + i).toNatClampNeg)), .inr (.inl (FP.d2l v)), .inr (.inr (.inr (.inl v)))]) (rest := []) (v := none) rfl fk_6_172 rfl (by decide) fn_D_push (Nat.le_of_ble_eq_true rfl) (K) ?_
      exact fm_gRe O rfl trivial (by first | (rw [he]; done) | (rw [he]; rfl) | rfl) (by first | (rw [he]; done) | (rw [he]; rfl) | rfl)
  · have h1 : ¬ i < (I 28 0 f.toNatClampNeg) := h
    have he := he.trans (if_neg h1)
    exact fm_gRe O rfl trivial (by first | (rw [he]; done) | (rw [he]; rfl) | rfl) (by first | (rw [he]; done) | (rw [he]; rfl) | rfl)
def fmD_told_f (t : Int32) (v : Int64) (x : UInt64) : UInt64 :=
  if t = 4 then FP.dconst0 else (if 2 ≤ t then x else (FP.l2d v))
theorem fmD_told_e (t : Int32) (v : Int64) (x : UInt64) : fmD_told_f t v x = if t = 4 then FP.dconst0 else (if 2 ≤ t then x else (FP.l2d v)) := rfl
set_option maxRecDepth 100000 in
set_option maxHeartbeats 4000000 in
theorem fmD_told_c {E : fm_Ev} (hl : E.1.stackTraces = false) {d : Nat} (hd : 0 ≤ d) (I : fm_MI) (J : fm_MJ) (G : fm_MG) (pa : Nat × Nat) (pb : Nat × Nat) (t : Int32) (v : Int64) (x : UInt64) : fm_Ct E d fmD_told 0 [.inl t, .inr (.inl v), .inr (.inr (.inr (.inl x)))] (I, J, G, fm_P pa pb) (some (.inr (.inr (.inr (.inl (fmD_told_f t v x)))))) (I, J, G, fm_P pa pb) := by
  refine fm_ct fmD_told_o hl (Nat.le_of_ble_eq_true rfl) ?_
  have O := fmD_told_o.1
  have he := fmD_told_e t v x
  refine fm_gr O 2 (C' := (2, [(0, .inl t), (1, .inr (.inl v)), (3, .inr (.inr (.inr (.inl x))))], [.inl 4, .inl t], (I, J, G, fm_P pa pb))) rfl ?_
  refine fm_gb O rfl (fun h => ?_) (fun h => ?_)
  · have h1 : t = 4 := h
    have he := he.trans (if_pos h1)
    refine fm_gr O 2 (C' := (20, [(0, .inl t), (1, .inr (.inl v)), (3, .inr (.inr (.inr (.inl x))))], [.inr (.inr (.inr (.inl FP.dconst0)))], (I, J, G, fm_P pa pb))) rfl ?_
    exact fm_gRe O rfl trivial (by first | (rw [he]; done) | (rw [he]; rfl) | rfl) (by first | (rw [he]; done) | (rw [he]; rfl) | rfl)
  · have h1 : ¬ t = 4 := h
    have he := he.trans (if_neg h1)
    refine fm_gr O 2 (C' := (11, [(0, .inl t), (1, .inr (.inl v)), (3, .inr (.inr (.inr (.inl x))))], [.inl 2, .inl t], (I, J, G, fm_P pa pb))) rfl ?_
    refine fm_gb O rfl (fun h => ?_) (fun h => ?_)
    · have h2 : 2 ≤ t := h
      have he := he.trans (if_pos h2)
      refine fm_gr O 1 (C' := (20, [(0, .inl t), (1, .inr (.inl v)), (3, .inr (.inr (.inr (.inl x))))], [.inr (.inr (.inr (.inl x)))], (I, J, G, fm_P pa pb))) rfl ?_
      exact fm_gRe O rfl trivial (by first | (rw [he]; done) | (rw [he]; rfl) | rfl) (by first | (rw [he]; done) | (rw [he]; rfl) | rfl)
    · have h2 : ¬ 2 ≤ t := h
      have he := he.trans (if_neg h2)
      refine fm_gr O 3 (C' := (20, [(0, .inl t), (1, .inr (.inl v)), (3, .inr (.inr (.inr (.inl x))))], [.inr (.inr (.inr (.inl (FP.l2d v))))], (I, J, G, fm_P pa pb))) rfl ?_
      exact fm_gRe O rfl trivial (by first | (rw [he]; done) | (rw [he]; rfl) | rfl) (by first | (rw [he]; done) | (rw [he]; rfl) | rfl)
def fmD_run_f (I : fm_MI) (J : fm_MJ) (G : fm_MG) (pa : Nat × Nat) (pb : Nat × Nat) (f : Int32) (x : UInt64) (y : UInt64) (z : UInt64) (fu : Int32) : UInt64 × fm_MI × fm_MJ × fm_MG :=
  fm_let (fmD_isFunction_f I f) (fun (r1 : Int32) => if r1 = 0 then (fm_let (fmD_bad_f I 0) (fun (r2 : Int32 × fm_MI) => if r2.1 = 0 then (if (r2.2 24 0 19) = 0 then ((FP.dconst0, fm_u r2.2 24 0 18 2, J, G)) else (fm_let (fmD_pass_f (fm_u (fm_u (fm_u (fm_u (fm_u r2.2 24 0 32 0) 24 0 31 0) 24 0 30 0) 24 0 29 0) 24 0 28 0) J G f 0 x) (fun (r3 : fm_MI × fm_MJ × fm_MG) => fm_let (fmD_pass_f r3.1 r3.2.1 r3.2.2 f 1 y) (fun (r4 : fm_MI × fm_MJ × fm_MG) => fm_let (fmD_pass_f r4.1 r4.2.1 r4.2.2 f 2 z) (fun (r5 : fm_MI × fm_MJ × fm_MG) => fm_let (fmD_enter_f r5.1 r5.2.1 r5.2.2 pa pb f) (fun (r6 : fm_MI × fm_MJ × fm_MG) => fm_let (fmD_go_f r6.1 r6.2.1 r6.2.2 pa pb fu) (fun (r7 : fm_MI × fm_MJ × fm_MG) => if (r7.1 24 0 18) ≤ 0 then (fm_let (fmD_told_f (r7.1 31 0 f.toNatClampNeg) (r7.2.1 40 0 ((0 : Int32).toNatClampNeg)) (r7.2.2 41 0 ((0 : Int32).toNatClampNeg))) (fun (r8 : UInt64) => (r8, r7.1, r7.2.1, r7.2.2))) else ((FP.dconst0, r7.1, r7.2.1, r7.2.2))))))))) else ((FP.dconst0, r2.2, J, G)))) else (fm_let (fmD_in_f fu 1 300) (fun (r9 : Int32) => if r9 = 0 then (fm_let (fmD_bad_f I 0) (fun (r10 : Int32 × fm_MI) => if r10.1 = 0 then (if (r10.2 24 0 19) = 0 then ((FP.dconst0, fm_u r10.2 24 0 18 2, J, G)) else (fm_let (fmD_pass_f (fm_u (fm_u (fm_u (fm_u (fm_u r10.2 24 0 32 0) 24 0 31 0) 24 0 30 0) 24 0 29 0) 24 0 28 0) J G f 0 x) (fun (r11 : fm_MI × fm_MJ × fm_MG) => fm_let (fmD_pass_f r11.1 r11.2.1 r11.2.2 f 1 y) (fun (r12 : fm_MI × fm_MJ × fm_MG) => fm_let (fmD_pass_f r12.1 r12.2.1 r12.2.2 f 2 z) (fun (r13 : fm_MI × fm_MJ × fm_MG) => fm_let (fmD_enter_f r13.1 r13.2.1 r13.2.2 pa pb f) (fun (r14 : fm_MI × fm_MJ × fm_MG) => fm_let (fmD_go_f r14.1 r14.2.1 r14.2.2 pa pb fu) (fun (r15 : fm_MI × fm_MJ × fm_MG) => if (r15.1 24 0 18) ≤ 0 then (fm_let (fmD_told_f (r15.1 31 0 f.toNatClampNeg) (r15.2.1 40 0 ((0 : Int32).toNatClampNeg)) (r15.2.2 41 0 ((0 : Int32).toNatClampNeg))) (fun (r16 : UInt64) => (r16, r15.1, r15.2.1, r15.2.2))) else ((FP.dconst0, r15.1, r15.2.1, r15.2.2))))))))) else ((FP.dconst0, r10.2, J, G)))) else (fm_let (fmD_bad_f I 1) (fun (r17 : Int32 × fm_MI) => if r17.1 = 0 then (if (r17.2 24 0 19) = 0 then ((FP.dconst0, fm_u r17.2 24 0 18 2, J, G)) else (fm_let (fmD_pass_f (fm_u (fm_u (fm_u (fm_u (fm_u r17.2 24 0 32 0) 24 0 31 0) 24 0 30 0) 24 0 29 0) 24 0 28 0) J G f 0 x) (fun (r18 : fm_MI × fm_MJ × fm_MG) => fm_let (fmD_pass_f r18.1 r18.2.1 r18.2.2 f 1 y) (fun (r19 : fm_MI × fm_MJ × fm_MG) => fm_let (fmD_pass_f r19.1 r19.2.1 r19.2.2 f 2 z) (fun (r20 : fm_MI × fm_MJ × fm_MG) => fm_let (fmD_enter_f r20.1 r20.2.1 r20.2.2 pa pb f) (fun (r21 : fm_MI × fm_MJ × fm_MG) => fm_let (fmD_go_f r21.1 r21.2.1 r21.2.2 pa pb fu) (fun (r22 : fm_MI × fm_MJ × fm_MG) => if (r22.1 24 0 18) ≤ 0 then (fm_let (fmD_told_f (r22.1 31 0 f.toNatClampNeg) (r22.2.1 40 0 ((0 : Int32).toNatClampNeg)) (r22.2.2 41 0 ((0 : Int32).toNatClampNeg))) (fun (r23 : UInt64) => (r23, r22.1, r22.2.1, r22.2.2))) else ((FP.dconst0, r22.1, r22.2.1, r22.2.2))))))))) else ((FP.dconst0, r17.2, J, G)))))))
theorem fmD_run_e (I : fm_MI) (J : fm_MJ) (G : fm_MG) (pa : Nat × Nat) (pb : Nat × Nat) (f : Int32) (x : UInt64) (y : UInt64) (z : UInt64) (fu : Int32) : fmD_run_f I J G pa pb f x y z fu = fm_let (fmD_isFunction_f I f) (fun (r1 : Int32) => if r1 = 0 then (fm_let (fmD_bad_f I 0) (fun (r2 : Int32 × fm_MI) => if r2.1 = 0 then (if (r2.2 24 0 19) = 0 then ((FP.dconst0, fm_u r2.2 24 0 18 2, J, G)) else (fm_let (fmD_pass_f (fm_u (fm_u (fm_u (fm_u (fm_u r2.2 24 0 32 0) 24 0 31 0) 24 0 30 0) 24 0 29 0) 24 0 28 0) J G f 0 x) (fun (r3 : fm_MI × fm_MJ × fm_MG) => fm_let (fmD_pass_f r3.1 r3.2.1 r3.2.2 f 1 y) (fun (r4 : fm_MI × fm_MJ × fm_MG) => fm_let (fmD_pass_f r4.1 r4.2.1 r4.2.2 f 2 z) (fun (r5 : fm_MI × fm_MJ × fm_MG) => fm_let (fmD_enter_f r5.1 r5.2.1 r5.2.2 pa pb f) (fun (r6 : fm_MI × fm_MJ × fm_MG) => fm_let (fmD_go_f r6.1 r6.2.1 r6.2.2 pa pb fu) (fun (r7 : fm_MI × fm_MJ × fm_MG) => if (r7.1 24 0 18) ≤ 0 then (fm_let (fmD_told_f (r7.1 31 0 f.toNatClampNeg) (r7.2.1 40 0 ((0 : Int32).toNatClampNeg)) (r7.2.2 41 0 ((0 : Int32).toNatClampNeg))) (fun (r8 : UInt64) => (r8, r7.1, r7.2.1, r7.2.2))) else ((FP.dconst0, r7.1, r7.2.1, r7.2.2))))))))) else ((FP.dconst0, r2.2, J, G)))) else (fm_let (fmD_in_f fu 1 300) (fun (r9 : Int32) => if r9 = 0 then (fm_let (fmD_bad_f I 0) (fun (r10 : Int32 × fm_MI) => if r10.1 = 0 then (if (r10.2 24 0 19) = 0 then ((FP.dconst0, fm_u r10.2 24 0 18 2, J, G)) else (fm_let (fmD_pass_f (fm_u (fm_u (fm_u (fm_u (fm_u r10.2 24 0 32 0) 24 0 31 0) 24 0 30 0) 24 0 29 0) 24 0 28 0) J G f 0 x) (fun (r11 : fm_MI × fm_MJ × fm_MG) => fm_let (fmD_pass_f r11.1 r11.2.1 r11.2.2 f 1 y) (fun (r12 : fm_MI × fm_MJ × fm_MG) => fm_let (fmD_pass_f r12.1 r12.2.1 r12.2.2 f 2 z) (fun (r13 : fm_MI × fm_MJ × fm_MG) => fm_let (fmD_enter_f r13.1 r13.2.1 r13.2.2 pa pb f) (fun (r14 : fm_MI × fm_MJ × fm_MG) => fm_let (fmD_go_f r14.1 r14.2.1 r14.2.2 pa pb fu) (fun (r15 : fm_MI × fm_MJ × fm_MG) => if (r15.1 24 0 18) ≤ 0 then (fm_let (fmD_told_f (r15.1 31 0 f.toNatClampNeg) (r15.2.1 40 0 ((0 : Int32).toNatClampNeg)) (r15.2.2 41 0 ((0 : Int32).toNatClampNeg))) (fun (r16 : UInt64) => (r16, r15.1, r15.2.1, r15.2.2))) else ((FP.dconst0, r15.1, r15.2.1, r15.2.2))))))))) else ((FP.dconst0, r10.2, J, G)))) else (fm_let (fmD_bad_f I 1) (fun (r17 : Int32 × fm_MI) => if r17.1 = 0 then (if (r17.2 24 0 19) = 0 then ((FP.dconst0, fm_u r17.2 24 0 18 2, J, G)) else (fm_let (fmD_pass_f (fm_u (fm_u (fm_u (fm_u (fm_u r17.2 24 0 32 0) 24 0 31 0) 24 0 30 0) 24 0 29 0) 24 0 28 0) J G f 0 x) (fun (r18 : fm_MI × fm_MJ × fm_MG) => fm_let (fmD_pass_f r18.1 r18.2.1 r18.2.2 f 1 y) (fun (r19 : fm_MI × fm_MJ × fm_MG) => fm_let (fmD_pass_f r19.1 r19.2.1 r19.2.2 f 2 z) (fun (r20 : fm_MI × fm_MJ × fm_MG) => fm_let (fmD_enter_f r20.1 r20.2.1 r20.2.2 pa pb f) (fun (r21 : fm_MI × fm_MJ × fm_MG) => fm_let (fmD_go_f r21.1 r21.2.1 r21.2.2 pa pb fu) (fun (r22 : fm_MI × fm_MJ × fm_MG) => if (r22.1 24 0 18) ≤ 0 then (fm_let (fmD_told_f (r22.1 31 0 f.toNatClampNeg) (r22.2.1 40 0 ((0 : Int32).toNatClampNeg)) (r22.2.2 41 0 ((0 : Int32).toNatClampNeg))) (fun (r23 : UInt64) => (r23, r22.1, r22.2.1, r22.2.2))) else ((FP.dconst0, r22.1, r22.2.1, r22.2.2))))))))) else ((FP.dconst0, r17.2, J, G))))))) := rfl
def fmD_run_p (I : fm_MI) (J : fm_MJ) (G : fm_MG) (pa : Nat × Nat) (pb : Nat × Nat) (f : Int32) (x : UInt64) (y : UInt64) (z : UInt64) (fu : Int32) : Prop :=
  fmD_isFunction_p f ∧ (fm_let (fmD_isFunction_f I f) (fun (r1 : Int32) => (r1 = 0 → fm_let (fmD_bad_f I 0) (fun (r2 : Int32 × fm_MI) => (r2.1 = 0 → ((r2.2 24 0 19) = 0 → True) ∧ (¬ (r2.2 24 0 19) = 0 → fmD_pass_p (fm_u (fm_u (fm_u (fm_u (fm_u r2.2 24 0 32 0) 24 0 31 0) 24 0 30 0) 24 0 29 0) 24 0 28 0) f 0 x ∧ (fm_let (fmD_pass_f (fm_u (fm_u (fm_u (fm_u (fm_u r2.2 24 0 32 0) 24 0 31 0) 24 0 30 0) 24 0 29 0) 24 0 28 0) J G f 0 x) (fun (r3 : fm_MI × fm_MJ × fm_MG) => fmD_pass_p r3.1 f 1 y ∧ (fm_let (fmD_pass_f r3.1 r3.2.1 r3.2.2 f 1 y) (fun (r4 : fm_MI × fm_MJ × fm_MG) => fmD_pass_p r4.1 f 2 z ∧ (fm_let (fmD_pass_f r4.1 r4.2.1 r4.2.2 f 2 z) (fun (r5 : fm_MI × fm_MJ × fm_MG) => fmD_enter_p r5.1 r5.2.1 r5.2.2 pa pb f ∧ (fm_let (fmD_enter_f r5.1 r5.2.1 r5.2.2 pa pb f) (fun (r6 : fm_MI × fm_MJ × fm_MG) => fmD_go_p r6.1 r6.2.1 r6.2.2 pa pb fu ∧ (fm_let (fmD_go_f r6.1 r6.2.1 r6.2.2 pa pb fu) (fun (r7 : fm_MI × fm_MJ × fm_MG) => ((r7.1 24 0 18) ≤ 0 → (vp_in f 4) ∧ ((vp_in 0 260) ∧ (vp_in 0 260))) ∧ (¬ (r7.1 24 0 18) ≤ 0 → True))))))))))))) ∧ (¬ r2.1 = 0 → True))) ∧ (¬ r1 = 0 → fm_let (fmD_in_f fu 1 300) (fun (r9 : Int32) => (r9 = 0 → fm_let (fmD_bad_f I 0) (fun (r10 : Int32 × fm_MI) => (r10.1 = 0 → ((r10.2 24 0 19) = 0 → True) ∧ (¬ (r10.2 24 0 19) = 0 → fmD_pass_p (fm_u (fm_u (fm_u (fm_u (fm_u r10.2 24 0 32 0) 24 0 31 0) 24 0 30 0) 24 0 29 0) 24 0 28 0) f 0 x ∧ (fm_let (fmD_pass_f (fm_u (fm_u (fm_u (fm_u (fm_u r10.2 24 0 32 0) 24 0 31 0) 24 0 30 0) 24 0 29 0) 24 0 28 0) J G f 0 x) (fun (r11 : fm_MI × fm_MJ × fm_MG) => fmD_pass_p r11.1 f 1 y ∧ (fm_let (fmD_pass_f r11.1 r11.2.1 r11.2.2 f 1 y) (fun (r12 : fm_MI × fm_MJ × fm_MG) => fmD_pass_p r12.1 f 2 z ∧ (fm_let (fmD_pass_f r12.1 r12.2.1 r12.2.2 f 2 z) (fun (r13 : fm_MI × fm_MJ × fm_MG) => fmD_enter_p r13.1 r13.2.1 r13.2.2 pa pb f ∧ (fm_let (fmD_enter_f r13.1 r13.2.1 r13.2.2 pa pb f) (fun (r14 : fm_MI × fm_MJ × fm_MG) => fmD_go_p r14.1 r14.2.1 r14.2.2 pa pb fu ∧ (fm_let (fmD_go_f r14.1 r14.2.1 r14.2.2 pa pb fu) (fun (r15 : fm_MI × fm_MJ × fm_MG) => ((r15.1 24 0 18) ≤ 0 → (vp_in f 4) ∧ ((vp_in 0 260) ∧ (vp_in 0 260))) ∧ (¬ (r15.1 24 0 18) ≤ 0 → True))))))))))))) ∧ (¬ r10.1 = 0 → True))) ∧ (¬ r9 = 0 → fm_let (fmD_bad_f I 1) (fun (r17 : Int32 × fm_MI) => (r17.1 = 0 → ((r17.2 24 0 19) = 0 → True) ∧ (¬ (r17.2 24 0 19) = 0 → fmD_pass_p (fm_u (fm_u (fm_u (fm_u (fm_u r17.2 24 0 32 0) 24 0 31 0) 24 0 30 0) 24 0 29 0) 24 0 28 0) f 0 x ∧ (fm_let (fmD_pass_f (fm_u (fm_u (fm_u (fm_u (fm_u r17.2 24 0 32 0) 24 0 31 0) 24 0 30 0) 24 0 29 0) 24 0 28 0) J G f 0 x) (fun (r18 : fm_MI × fm_MJ × fm_MG) => fmD_pass_p r18.1 f 1 y ∧ (fm_let (fmD_pass_f r18.1 r18.2.1 r18.2.2 f 1 y) (fun (r19 : fm_MI × fm_MJ × fm_MG) => fmD_pass_p r19.1 f 2 z ∧ (fm_let (fmD_pass_f r19.1 r19.2.1 r19.2.2 f 2 z) (fun (r20 : fm_MI × fm_MJ × fm_MG) => fmD_enter_p r20.1 r20.2.1 r20.2.2 pa pb f ∧ (fm_let (fmD_enter_f r20.1 r20.2.1 r20.2.2 pa pb f) (fun (r21 : fm_MI × fm_MJ × fm_MG) => fmD_go_p r21.1 r21.2.1 r21.2.2 pa pb fu ∧ (fm_let (fmD_go_f r21.1 r21.2.1 r21.2.2 pa pb fu) (fun (r22 : fm_MI × fm_MJ × fm_MG) => ((r22.1 24 0 18) ≤ 0 → (vp_in f 4) ∧ ((vp_in 0 260) ∧ (vp_in 0 260))) ∧ (¬ (r22.1 24 0 18) ≤ 0 → True))))))))))))) ∧ (¬ r17.1 = 0 → True)))))))
set_option maxRecDepth 100000 in
set_option maxHeartbeats 4000000 in
theorem fmD_run_c {E : fm_Ev} (hl : E.1.stackTraces = false) {d : Nat} (hd : 5 ≤ d) (I : fm_MI) (J : fm_MJ) (G : fm_MG) (pa : Nat × Nat) (pb : Nat × Nat) (f : Int32) (x : UInt64) (y : UInt64) (z : UInt64) (fu : Int32) (hp : fmD_run_p I J G pa pb f x y z fu) : fm_Ct E d fmD_run 0 [.inr (.inr (.inr (.inr (24, 0)))), .inl f, .inr (.inr (.inr (.inl x))), .inr (.inr (.inr (.inl y))), .inr (.inr (.inr (.inl z))), .inl fu] (I, J, G, fm_P pa pb) (some (.inr (.inr (.inr (.inl ((fmD_run_f I J G pa pb f x y z fu).1)))))) ((fmD_run_f I J G pa pb f x y z fu).2.1, (fmD_run_f I J G pa pb f x y z fu).2.2.1, (fmD_run_f I J G pa pb f x y z fu).2.2.2, fm_P pa pb) := by
  obtain ⟨d, rfl⟩ : ∃ d', d = d' + 1 := ⟨d - 1, by omega⟩
  refine fm_ct fmD_run_o hl (Nat.le_of_ble_eq_true rfl) ?_
  have O := fmD_run_o.1
  unfold fmD_run_p at hp
  have he := fmD_run_e I J G pa pb f x y z fu
  refine fm_gr O 3 (C' := (3, [(0, .inr (.inr (.inr (.inr (24, 0))))), (1, .inl f), (2, .inr (.inr (.inr (.inl x)))), (4, .inr (.inr (.inr (.inl y)))), (6, .inr (.inr (.inr (.inl z)))), (8, .inl fu)], [.inl f, .inr (.inr (.inr (.inr (24, 0)))), .inr (.inr (.inr (.inr (24, 0))))], (I, J, G, fm_P pa pb))) rfl ?_
  have hc := hp.1
  have hp := hp.2
  have K := fmD_isFunction_c (d := d) hl (by omega) I J G pa pb f hc
  generalize er1 : fmD_isFunction_f I f = r1 at he hp
  have he := he.trans (fm_letE _ _)
  have hp := fm_letP hp
  rw [er1] at K
  refine fm_cV0 O fmD_isFunction_o (i := 0) (as := [.inl f]) (rest := [.inr (.inr (.inr (.inr (24, 0))))]) (v := some (.inl r1)) rfl fk_6_98 rfl (by decide) fn_D_isFunction (Nat.le_of_ble_eq_true rfl) (K) ?_
  refine fm_gb O rfl (fun h => ?_) (fun h => ?_)
  · have h1 : r1 = 0 := h
    have he := he.trans (if_pos h1)
    have hp := hp.1 h1
    refine fm_gr O 1 (C' := (26, [(0, .inr (.inr (.inr (.inr (24, 0))))), (1, .inl f), (2, .inr (.inr (.inr (.inl x)))), (4, .inr (.inr (.inr (.inl y)))), (6, .inr (.inr (.inr (.inl z)))), (8, .inl fu)], [.inl 0, .inr (.inr (.inr (.inr (24, 0))))], (I, J, G, fm_P pa pb))) rfl ?_
    have K := fmD_bad_c (d := d) hl (by omega) I J G pa pb 0
    generalize er2 : fmD_bad_f I 0 = r2 at he hp
    have he := he.trans (fm_letE _ _)
    have hp := fm_letP hp
    rw [er2] at K
    refine fm_cV0 O fmD_bad_o (i := 0) (as := [.inl 0]) (rest := []) (v := some (.inl r2.1)) rfl fk_6_90 rfl (by decide) fn_D_bad (Nat.le_of_ble_eq_true rfl) (K) ?_
    refine fm_gb O rfl (fun h => ?_) (fun h => ?_)
    · have h2 : r2.1 = 0 := h
      have he := he.trans (if_pos h2)
      have hp := hp.1 h2
      refine fm_gr O 2 (C' := (38, [(0, .inr (.inr (.inr (.inr (24, 0))))), (1, .inl f), (2, .inr (.inr (.inr (.inl x)))), (4, .inr (.inr (.inr (.inl y)))), (6, .inr (.inr (.inr (.inl z)))), (8, .inl fu)], [.inl (r2.2 24 0 19)], (r2.2, J, G, fm_P pa pb))) rfl ?_
      refine fm_gb O rfl (fun h => ?_) (fun h => ?_)
      · have h3 : (r2.2 24 0 19) = 0 := h
        have he := he.trans (if_pos h3)
        refine fm_gr O 4 (C' := (47, [(0, .inr (.inr (.inr (.inr (24, 0))))), (1, .inl f), (2, .inr (.inr (.inr (.inl x)))), (4, .inr (.inr (.inr (.inl y)))), (6, .inr (.inr (.inr (.inl z)))), (8, .inl fu)], [.inr (.inr (.inr (.inl FP.dconst0)))], (fm_u r2.2 24 0 18 2, J, G, fm_P pa pb))) rfl ?_
        exact fm_gRe O rfl trivial (by first | (rw [he]; done) | (rw [he]; rfl) | rfl) (by first | (rw [he]; done) | (rw [he]; rfl) | rfl)
      · have h3 : ¬ (r2.2 24 0 19) = 0 := h
        have he := he.trans (if_neg h3)
        have hp := hp.2 h3
        refine fm_gr O 19 (C' := (77, [(0, .inr (.inr (.inr (.inr (24, 0))))), (1, .inl f), (2, .inr (.inr (.inr (.inl x)))), (4, .inr (.inr (.inr (.inl y)))), (6, .inr (.inr (.inr (.inl z)))), (8, .inl fu)], [.inr (.inr (.inr (.inl x))), .inl 0, .inl f, .inr (.inr (.inr (.inr (24, 0))))], (fm_u (fm_u (fm_u (fm_u (fm_u r2.2 24 0 32 0) 24 0 31 0) 24 0 30 0) 24 0 29 0) 24 0 28 0, J, G, fm_P pa pb))) rfl ?_
        have hc := hp.1
        have hp := hp.2
        have K := fmD_pass_c (d := d) hl (by omega) (fm_u (fm_u (fm_u (fm_u (fm_u r2.2 24 0 32 0) 24 0 31 0) 24 0 30 0) 24 0 29 0) 24 0 28 0) J G pa pb f 0 x hc
        generalize er3 : fmD_pass_f (fm_u (fm_u (fm_u (fm_u (fm_u r2.2 24 0 32 0) 24 0 31 0) 24 0 30 0) 24 0 29 0) 24 0 28 0) J G f 0 x = r3 at he hp
        have he := he.trans (fm_letE _ _)
        have hp := fm_letP hp
        rw [er3] at K
        refine fm_cV0 O fmD_pass_o (i := 0) (as := [.inl f, .inl 0, .inr (.inr (.inr (.inl x)))]) (rest := []) (v := none) rfl fk_6_232 rfl (by decide) fn_D_pass (Nat.le_of_ble_eq_true rfl) (K) ?_
        refine fm_gr O 4 (C' := (85, [(0, .inr (.inr (.inr (.inr (24, 0))))), (1, .inl f), (2, .inr (.inr (.inr (.inl x)))), (4, .inr (.inr (.inr (.inl y)))), (6, .inr (.inr (.inr (.inl z)))), (8, .inl fu)], [.inr (.inr (.inr (.inl y))), .inl 1, .inl f, .inr (.inr (.inr (.inr (24, 0))))], (r3.1, r3.2.1, r3.2.2, fm_P pa pb))) rfl ?_
        have hc := hp.1
        have hp := hp.2
        have K := fmD_pass_c (d := d) hl (by omega) r3.1 r3.2.1 r3.2.2 pa pb f 1 y hc
        generalize er4 : fmD_pass_f r3.1 r3.2.1 r3.2.2 f 1 y = r4 at he hp
        have he := he.trans (fm_letE _ _)
        have hp := fm_letP hp
        rw [er4] at K
        refine fm_cV0 O fmD_pass_o (i := 0) (as := [.inl f, .inl 1, .inr (.inr (.inr (.inl y)))]) (rest := []) (v := none) rfl fk_6_232 rfl (by decide) fn_D_pass (Nat.le_of_ble_eq_true rfl) (K) ?_
        refine fm_gr O 4 (C' := (93, [(0, .inr (.inr (.inr (.inr (24, 0))))), (1, .inl f), (2, .inr (.inr (.inr (.inl x)))), (4, .inr (.inr (.inr (.inl y)))), (6, .inr (.inr (.inr (.inl z)))), (8, .inl fu)], [.inr (.inr (.inr (.inl z))), .inl 2, .inl f, .inr (.inr (.inr (.inr (24, 0))))], (r4.1, r4.2.1, r4.2.2, fm_P pa pb))) rfl ?_
        have hc := hp.1
        have hp := hp.2
        have K := fmD_pass_c (d := d) hl (by omega) r4.1 r4.2.1 r4.2.2 pa pb f 2 z hc
        generalize er5 : fmD_pass_f r4.1 r4.2.1 r4.2.2 f 2 z = r5 at he hp
        have he := he.trans (fm_letE _ _)
        have hp := fm_letP hp
        rw [er5] at K
        refine fm_cV0 O fmD_pass_o (i := 0) (as := [.inl f, .inl 2, .inr (.inr (.inr (.inl z)))]) (rest := []) (v := none) rfl fk_6_232 rfl (by decide) fn_D_pass (Nat.le_of_ble_eq_true rfl) (K) ?_
        refine fm_gr O 2 (C' := (98, [(0, .inr (.inr (.inr (.inr (24, 0))))), (1, .inl f), (2, .inr (.inr (.inr (.inl x)))), (4, .inr (.inr (.inr (.inl y)))), (6, .inr (.inr (.inr (.inl z)))), (8, .inl fu)], [.inl f, .inr (.inr (.inr (.inr (24, 0))))], (r5.1, r5.2.1, r5.2.2, fm_P pa pb))) rfl ?_
        have hc := hp.1
        have hp := hp.2
        have K := fmD_enter_c (d := d) hl (by omega) r5.1 r5.2.1 r5.2.2 pa pb f hc
        generalize er6 : fmD_enter_f r5.1 r5.2.1 r5.2.2 pa pb f = r6 at he hp
        have he := he.trans (fm_letE _ _)
        have hp := fm_letP hp
        rw [er6] at K
        refine fm_cV0 O fmD_enter_o (i := 0) (as := [.inl f]) (rest := []) (v := none) rfl fk_6_219 rfl (by decide) fn_D_enter (Nat.le_of_ble_eq_true rfl) (K) ?_
        refine fm_gr O 2 (C' := (104, [(0, .inr (.inr (.inr (.inr (24, 0))))), (1, .inl f), (2, .inr (.inr (.inr (.inl x)))), (4, .inr (.inr (.inr (.inl y)))), (6, .inr (.inr (.inr (.inl z)))), (8, .inl fu)], [.inl fu, .inr (.inr (.inr (.inr (24, 0))))], (r6.1, r6.2.1, r6.2.2, fm_P pa pb))) rfl ?_
        have hc := hp.1
        have hp := hp.2
        have K := fmD_go_c (d := d) hl (by omega) r6.1 r6.2.1 r6.2.2 pa pb fu hc
        generalize er7 : fmD_go_f r6.1 r6.2.1 r6.2.2 pa pb fu = r7 at he hp
        have he := he.trans (fm_letE _ _)
        have hp := fm_letP hp
        rw [er7] at K
        refine fm_cV0 O fmD_go_o (i := 0) (as := [.inl fu]) (rest := []) (v := none) rfl fk_6_236 rfl (by decide) fn_D_go (Nat.le_of_ble_eq_true rfl) (K) ?_
        refine fm_gr O 2 (C' := (111, [(0, .inr (.inr (.inr (.inr (24, 0))))), (1, .inl f), (2, .inr (.inr (.inr (.inl x)))), (4, .inr (.inr (.inr (.inl y)))), (6, .inr (.inr (.inr (.inl z)))), (8, .inl fu)], [.inl (r7.1 24 0 18)], (r7.1, r7.2.1, r7.2.2, fm_P pa pb))) rfl ?_
        refine fm_gb O rfl (fun h => ?_) (fun h => ?_)
        · have h4 : (r7.1 24 0 18) ≤ 0 := h
          have he := he.trans (if_pos h4)
          have hp := hp.1 h4
          refine fm_gr O 3 (C' := (123, [(0, .inr (.inr (.inr (.inr (24, 0))))), (1, .inl f), (2, .inr (.inr (.inr (.inl x)))), (4, .inr (.inr (.inr (.inl y)))), (6, .inr (.inr (.inr (.inl z)))), (8, .inl fu)], [.inl f, .inr (.inr (.inr (.inr (31, 0))))], (r7.1, r7.2.1, r7.2.2, fm_P pa pb))) rfl ?_
          refine fm_gg O rfl hp.1 ?_
          have hp := hp.2
          refine fm_gr O 3 (C' := (129, [(0, .inr (.inr (.inr (.inr (24, 0))))), (1, .inl f), (2, .inr (.inr (.inr (.inl x)))), (4, .inr (.inr (.inr (.inl y)))), (6, .inr (.inr (.inr (.inl z)))), (8, .inl fu)], [.inl 0, .inr (.inr (.inr (.inr (40, 0)))), .inl (r7.1 31 0 f.toNatClampNeg)], (r7.1, r7.2.1, r7.2.2, fm_P pa pb))) rfl ?_
          refine fm_gg O rfl hp.1 ?_
          have hp := hp.2
          refine fm_gr O 3 (C' := (135, [(0, .inr (.inr (.inr (.inr (24, 0))))), (1, .inl f), (2, .inr (.inr (.inr (.inl x)))), (4, .inr (.inr (.inr (.inl y)))), (6, .inr (.inr (.inr (.inl z)))), (8, .inl fu)], [.inl 0, .inr (.inr (.inr (.inr (41, 0)))), .inr (.inl (r7.2.1 40 0 ((0 : Int32).toNatClampNeg))), .inl (r7.1 31 0 f.toNatClampNeg)], (r7.1, r7.2.1, r7.2.2, fm_P pa pb))) rfl ?_
          refine fm_gg O rfl hp ?_
          have K := fmD_told_c (d := d) hl (by omega) r7.1 r7.2.1 r7.2.2 pa pb (r7.1 31 0 f.toNatClampNeg) (r7.2.1 40 0 ((0 : Int32).toNatClampNeg)) (r7.2.2 41 0 ((0 : Int32).toNatClampNeg))
          generalize er8 : fmD_told_f (r7.1 31 0 f.toNatClampNeg) (r7.2.1 40 0 ((0 : Int32).toNatClampNeg)) (r7.2.2 41 0 ((0 : Int32).toNatClampNeg)) = r8 at he
          have he := he.trans (fm_letE _ _)
          rw [er8] at K
          refine fm_cS0 O fmD_told_o (as := [.inl (r7.1 31 0 f.toNatClampNeg), .inr (.inl (r7.2.1 40 0 ((0 : Int32).toNatClampNeg))), .inr (.inr (.inr (.inl (r7.2.2 41 0 ((0 : Int32).toNatClampNeg)))))]) (rest := []) (v := some (.inr (.inr (.inr (.inl r8))))) rfl fk_6_239 fn_D_told (Nat.le_of_ble_eq_true rfl) (K) ?_
          exact fm_gRe O rfl trivial (by first | (rw [he]; done) | (rw [he]; rfl) | rfl) (by first | (rw [he]; done) | (rw [he]; rfl) | rfl)
        · have h4 : ¬ (r7.1 24 0 18) ≤ 0 := h
          have he := he.trans (if_neg h4)
          refine fm_gr O 2 (C' := (139, [(0, .inr (.inr (.inr (.inr (24, 0))))), (1, .inl f), (2, .inr (.inr (.inr (.inl x)))), (4, .inr (.inr (.inr (.inl y)))), (6, .inr (.inr (.inr (.inl z)))), (8, .inl fu)], [.inr (.inr (.inr (.inl FP.dconst0)))], (r7.1, r7.2.1, r7.2.2, fm_P pa pb))) rfl ?_
          exact fm_gRe O rfl trivial (by first | (rw [he]; done) | (rw [he]; rfl) | rfl) (by first | (rw [he]; done) | (rw [he]; rfl) | rfl)
    · have h2 : ¬ r2.1 = 0 := h
      have he := he.trans (if_neg h2)
      refine fm_gr O 1 (C' := (33, [(0, .inr (.inr (.inr (.inr (24, 0))))), (1, .inl f), (2, .inr (.inr (.inr (.inl x)))), (4, .inr (.inr (.inr (.inl y)))), (6, .inr (.inr (.inr (.inl z)))), (8, .inl fu)], [.inr (.inr (.inr (.inl FP.dconst0)))], (r2.2, J, G, fm_P pa pb))) rfl ?_
      exact fm_gRe O rfl trivial (by first | (rw [he]; done) | (rw [he]; rfl) | rfl) (by first | (rw [he]; done) | (rw [he]; rfl) | rfl)
  · have h1 : ¬ r1 = 0 := h
    have he := he.trans (if_neg h1)
    have hp := hp.2 h1
    refine fm_gr O 3 (C' := (15, [(0, .inr (.inr (.inr (.inr (24, 0))))), (1, .inl f), (2, .inr (.inr (.inr (.inl x)))), (4, .inr (.inr (.inr (.inl y)))), (6, .inr (.inr (.inr (.inl z)))), (8, .inl fu)], [.inl 300, .inl 1, .inl fu, .inr (.inr (.inr (.inr (24, 0))))], (I, J, G, fm_P pa pb))) rfl ?_
    have K := fmD_in_c (d := d) hl (by omega) I J G pa pb fu 1 300
    generalize er9 : fmD_in_f fu 1 300 = r9 at he hp
    have he := he.trans (fm_letE _ _)
    have hp := fm_letP hp
    rw [er9] at K
    refine fm_cS0 O fmD_in_o (as := [.inl fu, .inl 1, .inl 300]) (rest := [.inr (.inr (.inr (.inr (24, 0))))]) (v := some (.inl r9)) rfl fk_6_86 fn_D_in (Nat.le_of_ble_eq_true rfl) (K) ?_
    refine fm_gb O rfl (fun h => ?_) (fun h => ?_)
    · have h2 : r9 = 0 := h
      have he := he.trans (if_pos h2)
      have hp := hp.1 h2
      refine fm_gr O 1 (C' := (26, [(0, .inr (.inr (.inr (.inr (24, 0))))), (1, .inl f), (2, .inr (.inr (.inr (.inl x)))), (4, .inr (.inr (.inr (.inl y)))), (6, .inr (.inr (.inr (.inl z)))), (8, .inl fu)], [.inl 0, .inr (.inr (.inr (.inr (24, 0))))], (I, J, G, fm_P pa pb))) rfl ?_
      have K := fmD_bad_c (d := d) hl (by omega) I J G pa pb 0
      generalize er10 : fmD_bad_f I 0 = r10 at he hp
      have he := he.trans (fm_letE _ _)
      have hp := fm_letP hp
      rw [er10] at K
      refine fm_cV0 O fmD_bad_o (i := 0) (as := [.inl 0]) (rest := []) (v := some (.inl r10.1)) rfl fk_6_90 rfl (by decide) fn_D_bad (Nat.le_of_ble_eq_true rfl) (K) ?_
      refine fm_gb O rfl (fun h => ?_) (fun h => ?_)
      · have h3 : r10.1 = 0 := h
        have he := he.trans (if_pos h3)
        have hp := hp.1 h3
        refine fm_gr O 2 (C' := (38, [(0, .inr (.inr (.inr (.inr (24, 0))))), (1, .inl f), (2, .inr (.inr (.inr (.inl x)))), (4, .inr (.inr (.inr (.inl y)))), (6, .inr (.inr (.inr (.inl z)))), (8, .inl fu)], [.inl (r10.2 24 0 19)], (r10.2, J, G, fm_P pa pb))) rfl ?_
        refine fm_gb O rfl (fun h => ?_) (fun h => ?_)
        · have h4 : (r10.2 24 0 19) = 0 := h
          have he := he.trans (if_pos h4)
          refine fm_gr O 4 (C' := (47, [(0, .inr (.inr (.inr (.inr (24, 0))))), (1, .inl f), (2, .inr (.inr (.inr (.inl x)))), (4, .inr (.inr (.inr (.inl y)))), (6, .inr (.inr (.inr (.inl z)))), (8, .inl fu)], [.inr (.inr (.inr (.inl FP.dconst0)))], (fm_u r10.2 24 0 18 2, J, G, fm_P pa pb))) rfl ?_
          exact fm_gRe O rfl trivial (by first | (rw [he]; done) | (rw [he]; rfl) | rfl) (by first | (rw [he]; done) | (rw [he]; rfl) | rfl)
        · have h4 : ¬ (r10.2 24 0 19) = 0 := h
          have he := he.trans (if_neg h4)
          have hp := hp.2 h4
          refine fm_gr O 19 (C' := (77, [(0, .inr (.inr (.inr (.inr (24, 0))))), (1, .inl f), (2, .inr (.inr (.inr (.inl x)))), (4, .inr (.inr (.inr (.inl y)))), (6, .inr (.inr (.inr (.inl z)))), (8, .inl fu)], [.inr (.inr (.inr (.inl x))), .inl 0, .inl f, .inr (.inr (.inr (.inr (24, 0))))], (fm_u (fm_u (fm_u (fm_u (fm_u r10.2 24 0 32 0) 24 0 31 0) 24 0 30 0) 24 0 29 0) 24 0 28 0, J, G, fm_P pa pb))) rfl ?_
          have hc := hp.1
          have hp := hp.2
          have K := fmD_pass_c (d := d) hl (by omega) (fm_u (fm_u (fm_u (fm_u (fm_u r10.2 24 0 32 0) 24 0 31 0) 24 0 30 0) 24 0 29 0) 24 0 28 0) J G pa pb f 0 x hc
          generalize er11 : fmD_pass_f (fm_u (fm_u (fm_u (fm_u (fm_u r10.2 24 0 32 0) 24 0 31 0) 24 0 30 0) 24 0 29 0) 24 0 28 0) J G f 0 x = r11 at he hp
          have he := he.trans (fm_letE _ _)
          have hp := fm_letP hp
          rw [er11] at K
          refine fm_cV0 O fmD_pass_o (i := 0) (as := [.inl f, .inl 0, .inr (.inr (.inr (.inl x)))]) (rest := []) (v := none) rfl fk_6_232 rfl (by decide) fn_D_pass (Nat.le_of_ble_eq_true rfl) (K) ?_
          refine fm_gr O 4 (C' := (85, [(0, .inr (.inr (.inr (.inr (24, 0))))), (1, .inl f), (2, .inr (.inr (.inr (.inl x)))), (4, .inr (.inr (.inr (.inl y)))), (6, .inr (.inr (.inr (.inl z)))), (8, .inl fu)], [.inr (.inr (.inr (.inl y))), .inl 1, .inl f, .inr (.inr (.inr (.inr (24, 0))))], (r11.1, r11.2.1, r11.2.2, fm_P pa pb))) rfl ?_
          have hc := hp.1
          have hp := hp.2
          have K := fmD_pass_c (d := d) hl (by omega) r11.1 r11.2.1 r11.2.2 pa pb f 1 y hc
          generalize er12 : fmD_pass_f r11.1 r11.2.1 r11.2.2 f 1 y = r12 at he hp
          have he := he.trans (fm_letE _ _)
          have hp := fm_letP hp
          rw [er12] at K
          refine fm_cV0 O fmD_pass_o (i := 0) (as := [.inl f, .inl 1, .inr (.inr (.inr (.inl y)))]) (rest := []) (v := none) rfl fk_6_232 rfl (by decide) fn_D_pass (Nat.le_of_ble_eq_true rfl) (K) ?_
          refine fm_gr O 4 (C' := (93, [(0, .inr (.inr (.inr (.inr (24, 0))))), (1, .inl f), (2, .inr (.inr (.inr (.inl x)))), (4, .inr (.inr (.inr (.inl y)))), (6, .inr (.inr (.inr (.inl z)))), (8, .inl fu)], [.inr (.inr (.inr (.inl z))), .inl 2, .inl f, .inr (.inr (.inr (.inr (24, 0))))], (r12.1, r12.2.1, r12.2.2, fm_P pa pb))) rfl ?_
          have hc := hp.1
          have hp := hp.2
          have K := fmD_pass_c (d := d) hl (by omega) r12.1 r12.2.1 r12.2.2 pa pb f 2 z hc
          generalize er13 : fmD_pass_f r12.1 r12.2.1 r12.2.2 f 2 z = r13 at he hp
          have he := he.trans (fm_letE _ _)
          have hp := fm_letP hp
          rw [er13] at K
          refine fm_cV0 O fmD_pass_o (i := 0) (as := [.inl f, .inl 2, .inr (.inr (.inr (.inl z)))]) (rest := []) (v := none) rfl fk_6_232 rfl (by decide) fn_D_pass (Nat.le_of_ble_eq_true rfl) (K) ?_
          refine fm_gr O 2 (C' := (98, [(0, .inr (.inr (.inr (.inr (24, 0))))), (1, .inl f), (2, .inr (.inr (.inr (.inl x)))), (4, .inr (.inr (.inr (.inl y)))), (6, .inr (.inr (.inr (.inl z)))), (8, .inl fu)], [.inl f, .inr (.inr (.inr (.inr (24, 0))))], (r13.1, r13.2.1, r13.2.2, fm_P pa pb))) rfl ?_
          have hc := hp.1
          have hp := hp.2
          have K := fmD_enter_c (d := d) hl (by omega) r13.1 r13.2.1 r13.2.2 pa pb f hc
          generalize er14 : fmD_enter_f r13.1 r13.2.1 r13.2.2 pa pb f = r14 at he hp
          have he := he.trans (fm_letE _ _)
          have hp := fm_letP hp
          rw [er14] at K
          refine fm_cV0 O fmD_enter_o (i := 0) (as := [.inl f]) (rest := []) (v := none) rfl fk_6_219 rfl (by decide) fn_D_enter (Nat.le_of_ble_eq_true rfl) (K) ?_
          refine fm_gr O 2 (C' := (104, [(0, .inr (.inr (.inr (.inr (24, 0))))), (1, .inl f), (2, .inr (.inr (.inr (.inl x)))), (4, .inr (.inr (.inr (.inl y)))), (6, .inr (.inr (.inr (.inl z)))), (8, .inl fu)], [.inl fu, .inr (.inr (.inr (.inr (24, 0))))], (r14.1, r14.2.1, r14.2.2, fm_P pa pb))) rfl ?_
          have hc := hp.1
          have hp := hp.2
          have K := fmD_go_c (d := d) hl (by omega) r14.1 r14.2.1 r14.2.2 pa pb fu hc
          generalize er15 : fmD_go_f r14.1 r14.2.1 r14.2.2 pa pb fu = r15 at he hp
          have he := he.trans (fm_letE _ _)
          have hp := fm_letP hp
          rw [er15] at K
          refine fm_cV0 O fmD_go_o (i := 0) (as := [.inl fu]) (rest := []) (v := none) rfl fk_6_236 rfl (by decide) fn_D_go (Nat.le_of_ble_eq_true rfl) (K) ?_
          refine fm_gr O 2 (C' := (111, [(0, .inr (.inr (.inr (.inr (24, 0))))), (1, .inl f), (2, .inr (.inr (.inr (.inl x)))), (4, .inr (.inr (.inr (.inl y)))), (6, .inr (.inr (.inr (.inl z)))), (8, .inl fu)], [.inl (r15.1 24 0 18)], (r15.1, r15.2.1, r15.2.2, fm_P pa pb))) rfl ?_
          refine fm_gb O rfl (fun h => ?_) (fun h => ?_)
          · have h5 : (r15.1 24 0 18) ≤ 0 := h
            have he := he.trans (if_pos h5)
            have hp := hp.1 h5
            refine fm_gr O 3 (C' := (123, [(0, .inr (.inr (.inr (.inr (24, 0))))), (1, .inl f), (2, .inr (.inr (.inr (.inl x)))), (4, .inr (.inr (.inr (.inl y)))), (6, .inr (.inr (.inr (.inl z)))), (8, .inl fu)], [.inl f, .inr (.inr (.inr (.inr (31, 0))))], (r15.1, r15.2.1, r15.2.2, fm_P pa pb))) rfl ?_
            refine fm_gg O rfl hp.1 ?_
            have hp := hp.2
            refine fm_gr O 3 (C' := (129, [(0, .inr (.inr (.inr (.inr (24, 0))))), (1, .inl f), (2, .inr (.inr (.inr (.inl x)))), (4, .inr (.inr (.inr (.inl y)))), (6, .inr (.inr (.inr (.inl z)))), (8, .inl fu)], [.inl 0, .inr (.inr (.inr (.inr (40, 0)))), .inl (r15.1 31 0 f.toNatClampNeg)], (r15.1, r15.2.1, r15.2.2, fm_P pa pb))) rfl ?_
            refine fm_gg O rfl hp.1 ?_
            have hp := hp.2
            refine fm_gr O 3 (C' := (135, [(0, .inr (.inr (.inr (.inr (24, 0))))), (1, .inl f), (2, .inr (.inr (.inr (.inl x)))), (4, .inr (.inr (.inr (.inl y)))), (6, .inr (.inr (.inr (.inl z)))), (8, .inl fu)], [.inl 0, .inr (.inr (.inr (.inr (41, 0)))), .inr (.inl (r15.2.1 40 0 ((0 : Int32).toNatClampNeg))), .inl (r15.1 31 0 f.toNatClampNeg)], (r15.1, r15.2.1, r15.2.2, fm_P pa pb))) rfl ?_
            refine fm_gg O rfl hp ?_
            have K := fmD_told_c (d := d) hl (by omega) r15.1 r15.2.1 r15.2.2 pa pb (r15.1 31 0 f.toNatClampNeg) (r15.2.1 40 0 ((0 : Int32).toNatClampNeg)) (r15.2.2 41 0 ((0 : Int32).toNatClampNeg))
            generalize er16 : fmD_told_f (r15.1 31 0 f.toNatClampNeg) (r15.2.1 40 0 ((0 : Int32).toNatClampNeg)) (r15.2.2 41 0 ((0 : Int32).toNatClampNeg)) = r16 at he
            have he := he.trans (fm_letE _ _)
            rw [er16] at K
            refine fm_cS0 O fmD_told_o (as := [.inl (r15.1 31 0 f.toNatClampNeg), .inr (.inl (r15.2.1 40 0 ((0 : Int32).toNatClampNeg))), .inr (.inr (.inr (.inl (r15.2.2 41 0 ((0 : Int32).toNatClampNeg)))))]) (rest := []) (v := some (.inr (.inr (.inr (.inl r16))))) rfl fk_6_239 fn_D_told (Nat.le_of_ble_eq_true rfl) (K) ?_
            exact fm_gRe O rfl trivial (by first | (rw [he]; done) | (rw [he]; rfl) | rfl) (by first | (rw [he]; done) | (rw [he]; rfl) | rfl)
          · have h5 : ¬ (r15.1 24 0 18) ≤ 0 := h
            have he := he.trans (if_neg h5)
            refine fm_gr O 2 (C' := (139, [(0, .inr (.inr (.inr (.inr (24, 0))))), (1, .inl f), (2, .inr (.inr (.inr (.inl x)))), (4, .inr (.inr (.inr (.inl y)))), (6, .inr (.inr (.inr (.inl z)))), (8, .inl fu)], [.inr (.inr (.inr (.inl FP.dconst0)))], (r15.1, r15.2.1, r15.2.2, fm_P pa pb))) rfl ?_
            exact fm_gRe O rfl trivial (by first | (rw [he]; done) | (rw [he]; rfl) | rfl) (by first | (rw [he]; done) | (rw [he]; rfl) | rfl)
      · have h3 : ¬ r10.1 = 0 := h
        have he := he.trans (if_neg h3)
        refine fm_gr O 1 (C' := (33, [(0, .inr (.inr (.inr (.inr (24, 0))))), (1, .inl f), (2, .inr (.inr (.inr (.inl x)))), (4, .inr (.inr (.inr (.inl y)))), (6, .inr (.inr (.inr (.inl z)))), (8, .inl fu)], [.inr (.inr (.inr (.inl FP.dconst0)))], (r10.2, J, G, fm_P pa pb))) rfl ?_
        exact fm_gRe O rfl trivial (by first | (rw [he]; done) | (rw [he]; rfl) | rfl) (by first | (rw [he]; done) | (rw [he]; rfl) | rfl)
    · have h2 : ¬ r9 = 0 := h
      have he := he.trans (if_neg h2)
      have hp := hp.2 h2
      refine fm_gr O 2 (C' := (26, [(0, .inr (.inr (.inr (.inr (24, 0))))), (1, .inl f), (2, .inr (.inr (.inr (.inl x)))), (4, .inr (.inr (.inr (.inl y)))), (6, .inr (.inr (.inr (.inl z)))), (8, .inl fu)], [.inl 1, .inr (.inr (.inr (.inr (24, 0))))], (I, J, G, fm_P pa pb))) rfl ?_
      have K := fmD_bad_c (d := d) hl (by omega) I J G pa pb 1
      generalize er17 : fmD_bad_f I 1 = r17 at he hp
      have he := he.trans (fm_letE _ _)
      have hp := fm_letP hp
      rw [er17] at K
      refine fm_cV0 O fmD_bad_o (i := 0) (as := [.inl 1]) (rest := []) (v := some (.inl r17.1)) rfl fk_6_90 rfl (by decide) fn_D_bad (Nat.le_of_ble_eq_true rfl) (K) ?_
      refine fm_gb O rfl (fun h => ?_) (fun h => ?_)
      · have h3 : r17.1 = 0 := h
        have he := he.trans (if_pos h3)
        have hp := hp.1 h3
        refine fm_gr O 2 (C' := (38, [(0, .inr (.inr (.inr (.inr (24, 0))))), (1, .inl f), (2, .inr (.inr (.inr (.inl x)))), (4, .inr (.inr (.inr (.inl y)))), (6, .inr (.inr (.inr (.inl z)))), (8, .inl fu)], [.inl (r17.2 24 0 19)], (r17.2, J, G, fm_P pa pb))) rfl ?_
        refine fm_gb O rfl (fun h => ?_) (fun h => ?_)
        · have h4 : (r17.2 24 0 19) = 0 := h
          have he := he.trans (if_pos h4)
          refine fm_gr O 4 (C' := (47, [(0, .inr (.inr (.inr (.inr (24, 0))))), (1, .inl f), (2, .inr (.inr (.inr (.inl x)))), (4, .inr (.inr (.inr (.inl y)))), (6, .inr (.inr (.inr (.inl z)))), (8, .inl fu)], [.inr (.inr (.inr (.inl FP.dconst0)))], (fm_u r17.2 24 0 18 2, J, G, fm_P pa pb))) rfl ?_
          exact fm_gRe O rfl trivial (by first | (rw [he]; done) | (rw [he]; rfl) | rfl) (by first | (rw [he]; done) | (rw [he]; rfl) | rfl)
        · have h4 : ¬ (r17.2 24 0 19) = 0 := h
          have he := he.trans (if_neg h4)
          have hp := hp.2 h4
          refine fm_gr O 19 (C' := (77, [(0, .inr (.inr (.inr (.inr (24, 0))))), (1, .inl f), (2, .inr (.inr (.inr (.inl x)))), (4, .inr (.inr (.inr (.inl y)))), (6, .inr (.inr (.inr (.inl z)))), (8, .inl fu)], [.inr (.inr (.inr (.inl x))), .inl 0, .inl f, .inr (.inr (.inr (.inr (24, 0))))], (fm_u (fm_u (fm_u (fm_u (fm_u r17.2 24 0 32 0) 24 0 31 0) 24 0 30 0) 24 0 29 0) 24 0 28 0, J, G, fm_P pa pb))) rfl ?_
          have hc := hp.1
          have hp := hp.2
          have K := fmD_pass_c (d := d) hl (by omega) (fm_u (fm_u (fm_u (fm_u (fm_u r17.2 24 0 32 0) 24 0 31 0) 24 0 30 0) 24 0 29 0) 24 0 28 0) J G pa pb f 0 x hc
          generalize er18 : fmD_pass_f (fm_u (fm_u (fm_u (fm_u (fm_u r17.2 24 0 32 0) 24 0 31 0) 24 0 30 0) 24 0 29 0) 24 0 28 0) J G f 0 x = r18 at he hp
          have he := he.trans (fm_letE _ _)
          have hp := fm_letP hp
          rw [er18] at K
          refine fm_cV0 O fmD_pass_o (i := 0) (as := [.inl f, .inl 0, .inr (.inr (.inr (.inl x)))]) (rest := []) (v := none) rfl fk_6_232 rfl (by decide) fn_D_pass (Nat.le_of_ble_eq_true rfl) (K) ?_
          refine fm_gr O 4 (C' := (85, [(0, .inr (.inr (.inr (.inr (24, 0))))), (1, .inl f), (2, .inr (.inr (.inr (.inl x)))), (4, .inr (.inr (.inr (.inl y)))), (6, .inr (.inr (.inr (.inl z)))), (8, .inl fu)], [.inr (.inr (.inr (.inl y))), .inl 1, .inl f, .inr (.inr (.inr (.inr (24, 0))))], (r18.1, r18.2.1, r18.2.2, fm_P pa pb))) rfl ?_
          have hc := hp.1
          have hp := hp.2
          have K := fmD_pass_c (d := d) hl (by omega) r18.1 r18.2.1 r18.2.2 pa pb f 1 y hc
          generalize er19 : fmD_pass_f r18.1 r18.2.1 r18.2.2 f 1 y = r19 at he hp
          have he := he.trans (fm_letE _ _)
          have hp := fm_letP hp
          rw [er19] at K
          refine fm_cV0 O fmD_pass_o (i := 0) (as := [.inl f, .inl 1, .inr (.inr (.inr (.inl y)))]) (rest := []) (v := none) rfl fk_6_232 rfl (by decide) fn_D_pass (Nat.le_of_ble_eq_true rfl) (K) ?_
          refine fm_gr O 4 (C' := (93, [(0, .inr (.inr (.inr (.inr (24, 0))))), (1, .inl f), (2, .inr (.inr (.inr (.inl x)))), (4, .inr (.inr (.inr (.inl y)))), (6, .inr (.inr (.inr (.inl z)))), (8, .inl fu)], [.inr (.inr (.inr (.inl z))), .inl 2, .inl f, .inr (.inr (.inr (.inr (24, 0))))], (r19.1, r19.2.1, r19.2.2, fm_P pa pb))) rfl ?_
          have hc := hp.1
          have hp := hp.2
          have K := fmD_pass_c (d := d) hl (by omega) r19.1 r19.2.1 r19.2.2 pa pb f 2 z hc
          generalize er20 : fmD_pass_f r19.1 r19.2.1 r19.2.2 f 2 z = r20 at he hp
          have he := he.trans (fm_letE _ _)
          have hp := fm_letP hp
          rw [er20] at K
          refine fm_cV0 O fmD_pass_o (i := 0) (as := [.inl f, .inl 2, .inr (.inr (.inr (.inl z)))]) (rest := []) (v := none) rfl fk_6_232 rfl (by decide) fn_D_pass (Nat.le_of_ble_eq_true rfl) (K) ?_
          refine fm_gr O 2 (C' := (98, [(0, .inr (.inr (.inr (.inr (24, 0))))), (1, .inl f), (2, .inr (.inr (.inr (.inl x)))), (4, .inr (.inr (.inr (.inl y)))), (6, .inr (.inr (.inr (.inl z)))), (8, .inl fu)], [.inl f, .inr (.inr (.inr (.inr (24, 0))))], (r20.1, r20.2.1, r20.2.2, fm_P pa pb))) rfl ?_
          have hc := hp.1
          have hp := hp.2
          have K := fmD_enter_c (d := d) hl (by omega) r20.1 r20.2.1 r20.2.2 pa pb f hc
          generalize er21 : fmD_enter_f r20.1 r20.2.1 r20.2.2 pa pb f = r21 at he hp
          have he := he.trans (fm_letE _ _)
          have hp := fm_letP hp
          rw [er21] at K
          refine fm_cV0 O fmD_enter_o (i := 0) (as := [.inl f]) (rest := []) (v := none) rfl fk_6_219 rfl (by decide) fn_D_enter (Nat.le_of_ble_eq_true rfl) (K) ?_
          refine fm_gr O 2 (C' := (104, [(0, .inr (.inr (.inr (.inr (24, 0))))), (1, .inl f), (2, .inr (.inr (.inr (.inl x)))), (4, .inr (.inr (.inr (.inl y)))), (6, .inr (.inr (.inr (.inl z)))), (8, .inl fu)], [.inl fu, .inr (.inr (.inr (.inr (24, 0))))], (r21.1, r21.2.1, r21.2.2, fm_P pa pb))) rfl ?_
          have hc := hp.1
          have hp := hp.2
          have K := fmD_go_c (d := d) hl (by omega) r21.1 r21.2.1 r21.2.2 pa pb fu hc
          generalize er22 : fmD_go_f r21.1 r21.2.1 r21.2.2 pa pb fu = r22 at he hp
          have he := he.trans (fm_letE _ _)
          have hp := fm_letP hp
          rw [er22] at K
          refine fm_cV0 O fmD_go_o (i := 0) (as := [.inl fu]) (rest := []) (v := none) rfl fk_6_236 rfl (by decide) fn_D_go (Nat.le_of_ble_eq_true rfl) (K) ?_
          refine fm_gr O 2 (C' := (111, [(0, .inr (.inr (.inr (.inr (24, 0))))), (1, .inl f), (2, .inr (.inr (.inr (.inl x)))), (4, .inr (.inr (.inr (.inl y)))), (6, .inr (.inr (.inr (.inl z)))), (8, .inl fu)], [.inl (r22.1 24 0 18)], (r22.1, r22.2.1, r22.2.2, fm_P pa pb))) rfl ?_
          refine fm_gb O rfl (fun h => ?_) (fun h => ?_)
          · have h5 : (r22.1 24 0 18) ≤ 0 := h
            have he := he.trans (if_pos h5)
            have hp := hp.1 h5
            refine fm_gr O 3 (C' := (123, [(0, .inr (.inr (.inr (.inr (24, 0))))), (1, .inl f), (2, .inr (.inr (.inr (.inl x)))), (4, .inr (.inr (.inr (.inl y)))), (6, .inr (.inr (.inr (.inl z)))), (8, .inl fu)], [.inl f, .inr (.inr (.inr (.inr (31, 0))))], (r22.1, r22.2.1, r22.2.2, fm_P pa pb))) rfl ?_
            refine fm_gg O rfl hp.1 ?_
            have hp := hp.2
            refine fm_gr O 3 (C' := (129, [(0, .inr (.inr (.inr (.inr (24, 0))))), (1, .inl f), (2, .inr (.inr (.inr (.inl x)))), (4, .inr (.inr (.inr (.inl y)))), (6, .inr (.inr (.inr (.inl z)))), (8, .inl fu)], [.inl 0, .inr (.inr (.inr (.inr (40, 0)))), .inl (r22.1 31 0 f.toNatClampNeg)], (r22.1, r22.2.1, r22.2.2, fm_P pa pb))) rfl ?_
            refine fm_gg O rfl hp.1 ?_
            have hp := hp.2
            refine fm_gr O 3 (C' := (135, [(0, .inr (.inr (.inr (.inr (24, 0))))), (1, .inl f), (2, .inr (.inr (.inr (.inl x)))), (4, .inr (.inr (.inr (.inl y)))), (6, .inr (.inr (.inr (.inl z)))), (8, .inl fu)], [.inl 0, .inr (.inr (.inr (.inr (41, 0)))), .inr (.inl (r22.2.1 40 0 ((0 : Int32).toNatClampNeg))), .inl (r22.1 31 0 f.toNatClampNeg)], (r22.1, r22.2.1, r22.2.2, fm_P pa pb))) rfl ?_
            refine fm_gg O rfl hp ?_
            have K := fmD_told_c (d := d) hl (by omega) r22.1 r22.2.1 r22.2.2 pa pb (r22.1 31 0 f.toNatClampNeg) (r22.2.1 40 0 ((0 : Int32).toNatClampNeg)) (r22.2.2 41 0 ((0 : Int32).toNatClampNeg))
            generalize er23 : fmD_told_f (r22.1 31 0 f.toNatClampNeg) (r22.2.1 40 0 ((0 : Int32).toNatClampNeg)) (r22.2.2 41 0 ((0 : Int32).toNatClampNeg)) = r23 at he
            have he := he.trans (fm_letE _ _)
            rw [er23] at K
            refine fm_cS0 O fmD_told_o (as := [.inl (r22.1 31 0 f.toNatClampNeg), .inr (.inl (r22.2.1 40 0 ((0 : Int32).toNatClampNeg))), .inr (.inr (.inr (.inl (r22.2.2 41 0 ((0 : Int32).toNatClampNeg)))))]) (rest := []) (v := some (.inr (.inr (.inr (.inl r23))))) rfl fk_6_239 fn_D_told (Nat.le_of_ble_eq_true rfl) (K) ?_
            exact fm_gRe O rfl trivial (by first | (rw [he]; done) | (rw [he]; rfl) | rfl) (by first | (rw [he]; done) | (rw [he]; rfl) | rfl)
          · have h5 : ¬ (r22.1 24 0 18) ≤ 0 := h
            have he := he.trans (if_neg h5)
            refine fm_gr O 2 (C' := (139, [(0, .inr (.inr (.inr (.inr (24, 0))))), (1, .inl f), (2, .inr (.inr (.inr (.inl x)))), (4, .inr (.inr (.inr (.inl y)))), (6, .inr (.inr (.inr (.inl z)))), (8, .inl fu)], [.inr (.inr (.inr (.inl FP.dconst0)))], (r22.1, r22.2.1, r22.2.2, fm_P pa pb))) rfl ?_
            exact fm_gRe O rfl trivial (by first | (rw [he]; done) | (rw [he]; rfl) | rfl) (by first | (rw [he]; done) | (rw [he]; rfl) | rfl)
      · have h3 : ¬ r17.1 = 0 := h
        have he := he.trans (if_neg h3)
        refine fm_gr O 1 (C' := (33, [(0, .inr (.inr (.inr (.inr (24, 0))))), (1, .inl f), (2, .inr (.inr (.inr (.inl x)))), (4, .inr (.inr (.inr (.inl y)))), (6, .inr (.inr (.inr (.inl z)))), (8, .inl fu)], [.inr (.inr (.inr (.inl FP.dconst0)))], (r17.2, J, G, fm_P pa pb))) rfl ?_
        exact fm_gRe O rfl trivial (by first | (rw [he]; done) | (rw [he]; rfl) | rfl) (by first | (rw [he]; done) | (rw [he]; rfl) | rfl)
def fmD_global_f (I : fm_MI) (J : fm_MJ) (G : fm_MG) (g : Int32) : UInt64 × fm_MI :=
  fm_let (fmD_in_f g 0 3) (fun (r1 : Int32) => fm_let (fmD_bad_f I r1) (fun (r2 : Int32 × fm_MI) => if r2.1 = 0 then (fm_let (fmD_told_f g (J 33 0 g.toNatClampNeg) (G 34 0 g.toNatClampNeg)) (fun (r3 : UInt64) => (r3, r2.2))) else ((FP.dconst0, r2.2))))
theorem fmD_global_e (I : fm_MI) (J : fm_MJ) (G : fm_MG) (g : Int32) : fmD_global_f I J G g = fm_let (fmD_in_f g 0 3) (fun (r1 : Int32) => fm_let (fmD_bad_f I r1) (fun (r2 : Int32 × fm_MI) => if r2.1 = 0 then (fm_let (fmD_told_f g (J 33 0 g.toNatClampNeg) (G 34 0 g.toNatClampNeg)) (fun (r3 : UInt64) => (r3, r2.2))) else ((FP.dconst0, r2.2)))) := rfl
def fmD_global_p (I : fm_MI) (g : Int32) : Prop :=
  fm_let (fmD_in_f g 0 3) (fun (r1 : Int32) => fm_let (fmD_bad_f I r1) (fun (r2 : Int32 × fm_MI) => (r2.1 = 0 → (vp_in g 4) ∧ (vp_in g 4)) ∧ (¬ r2.1 = 0 → True)))
set_option maxRecDepth 100000 in
set_option maxHeartbeats 4000000 in
theorem fmD_global_c {E : fm_Ev} (hl : E.1.stackTraces = false) {d : Nat} (hd : 1 ≤ d) (I : fm_MI) (J : fm_MJ) (G : fm_MG) (pa : Nat × Nat) (pb : Nat × Nat) (g : Int32) (hp : fmD_global_p I g) : fm_Ct E d fmD_global 0 [.inr (.inr (.inr (.inr (24, 0)))), .inl g] (I, J, G, fm_P pa pb) (some (.inr (.inr (.inr (.inl ((fmD_global_f I J G g).1)))))) ((fmD_global_f I J G g).2, J, G, fm_P pa pb) := by
  obtain ⟨d, rfl⟩ : ∃ d', d = d' + 1 := ⟨d - 1, by omega⟩
  refine fm_ct fmD_global_o hl (Nat.le_of_ble_eq_true rfl) ?_
  have O := fmD_global_o.1
  unfold fmD_global_p at hp
  have he := fmD_global_e I J G g
  refine fm_gr O 4 (C' := (4, [(0, .inr (.inr (.inr (.inr (24, 0))))), (1, .inl g)], [.inl 3, .inl 0, .inl g, .inr (.inr (.inr (.inr (24, 0))))], (I, J, G, fm_P pa pb))) rfl ?_
  have K := fmD_in_c (d := d) hl (by omega) I J G pa pb g 0 3
  generalize er1 : fmD_in_f g 0 3 = r1 at he hp
  have he := he.trans (fm_letE _ _)
  have hp := fm_letP hp
  rw [er1] at K
  refine fm_cS0 O fmD_in_o (as := [.inl g, .inl 0, .inl 3]) (rest := [.inr (.inr (.inr (.inr (24, 0))))]) (v := some (.inl r1)) rfl fk_6_86 fn_D_in (Nat.le_of_ble_eq_true rfl) (K) ?_
  have K := fmD_bad_c (d := d) hl (by omega) I J G pa pb r1
  generalize er2 : fmD_bad_f I r1 = r2 at he hp
  have he := he.trans (fm_letE _ _)
  have hp := fm_letP hp
  rw [er2] at K
  refine fm_cV0 O fmD_bad_o (i := 0) (as := [.inl r1]) (rest := []) (v := some (.inl r2.1)) rfl fk_6_90 rfl (by decide) fn_D_bad (Nat.le_of_ble_eq_true rfl) (K) ?_
  refine fm_gb O rfl (fun h => ?_) (fun h => ?_)
  · have h1 : r2.1 = 0 := h
    have he := he.trans (if_pos h1)
    have hp := hp.1 h1
    refine fm_gr O 4 (C' := (21, [(0, .inr (.inr (.inr (.inr (24, 0))))), (1, .inl g)], [.inl g, .inr (.inr (.inr (.inr (33, 0)))), .inl g], (r2.2, J, G, fm_P pa pb))) rfl ?_
    refine fm_gg O rfl hp.1 ?_
    have hp := hp.2
    refine fm_gr O 3 (C' := (27, [(0, .inr (.inr (.inr (.inr (24, 0))))), (1, .inl g)], [.inl g, .inr (.inr (.inr (.inr (34, 0)))), .inr (.inl (J 33 0 g.toNatClampNeg)), .inl g], (r2.2, J, G, fm_P pa pb))) rfl ?_
    refine fm_gg O rfl hp ?_
    have K := fmD_told_c (d := d) hl (by omega) r2.2 J G pa pb g (J 33 0 g.toNatClampNeg) (G 34 0 g.toNatClampNeg)
    generalize er3 : fmD_told_f g (J 33 0 g.toNatClampNeg) (G 34 0 g.toNatClampNeg) = r3 at he
    have he := he.trans (fm_letE _ _)
    rw [er3] at K
    refine fm_cS0 O fmD_told_o (as := [.inl g, .inr (.inl (J 33 0 g.toNatClampNeg)), .inr (.inr (.inr (.inl (G 34 0 g.toNatClampNeg))))]) (rest := []) (v := some (.inr (.inr (.inr (.inl r3))))) rfl fk_6_239 fn_D_told (Nat.le_of_ble_eq_true rfl) (K) ?_
    exact fm_gRe O rfl trivial (by first | (rw [he]; done) | (rw [he]; rfl) | rfl) (by first | (rw [he]; done) | (rw [he]; rfl) | rfl)
  · have h1 : ¬ r2.1 = 0 := h
    have he := he.trans (if_neg h1)
    refine fm_gr O 1 (C' := (14, [(0, .inr (.inr (.inr (.inr (24, 0))))), (1, .inl g)], [.inr (.inr (.inr (.inl FP.dconst0)))], (r2.2, J, G, fm_P pa pb))) rfl ?_
    exact fm_gRe O rfl trivial (by first | (rw [he]; done) | (rw [he]; rfl) | rfl) (by first | (rw [he]; done) | (rw [he]; rfl) | rfl)
def fmD_count_L46_f : Nat → fm_MI → fm_MJ → fm_MG → (Nat × Nat) → (Nat × Nat) → Int32 → Int32 → Int32 → Int32 × fm_MI
  | 0, I, J, G, pa, pb, y1, y2, y3 => (0, I)
  | n + 1, I, J, G, pa, pb, y1, y2, y3 => if 4 ≤ y3 then (if y1 = 0 then ((y2, I)) else (if y1 = 1 then (if (I 24 0 19) = 0 then ((0, I)) else ((1, I))) else (if y1 = 2 then ((I 24 0 31, I)) else (if y1 = 3 then ((I 24 0 32, I)) else ((-1, I)))))) else (if (I 32 0 y3.toNatClampNeg) = 0 then (fmD_count_L46_f n I J G pa pb y1 y2 (y3 + 1)) else (fmD_count_L46_f n I J G pa pb y1 (y2 + 1) (y3 + 1)))
theorem fmD_count_L46_e (n : Nat) (I : fm_MI) (J : fm_MJ) (G : fm_MG) (pa : Nat × Nat) (pb : Nat × Nat) (y1 : Int32) (y2 : Int32) (y3 : Int32) : fmD_count_L46_f (n + 1) I J G pa pb y1 y2 y3 = if 4 ≤ y3 then (if y1 = 0 then ((y2, I)) else (if y1 = 1 then (if (I 24 0 19) = 0 then ((0, I)) else ((1, I))) else (if y1 = 2 then ((I 24 0 31, I)) else (if y1 = 3 then ((I 24 0 32, I)) else ((-1, I)))))) else (if (I 32 0 y3.toNatClampNeg) = 0 then (fmD_count_L46_f n I J G pa pb y1 y2 (y3 + 1)) else (fmD_count_L46_f n I J G pa pb y1 (y2 + 1) (y3 + 1))) := rfl
def fmD_count_L46_p : Nat → fm_MI → fm_MJ → fm_MG → (Nat × Nat) → (Nat × Nat) → Int32 → Int32 → Int32 → Prop
  | 0, I, J, G, pa, pb, y1, y2, y3 => False
  | n + 1, I, J, G, pa, pb, y1, y2, y3 => (4 ≤ y3 → True) ∧ (¬ 4 ≤ y3 → (vp_in y3 4) ∧ (((I 32 0 y3.toNatClampNeg) = 0 → fmD_count_L46_p n I J G pa pb y1 y2 (y3 + 1)) ∧ (¬ (I 32 0 y3.toNatClampNeg) = 0 → fmD_count_L46_p n I J G pa pb y1 (y2 + 1) (y3 + 1))))
theorem fmD_count_L46_q (n : Nat) (I : fm_MI) (J : fm_MJ) (G : fm_MG) (pa : Nat × Nat) (pb : Nat × Nat) (y1 : Int32) (y2 : Int32) (y3 : Int32) : fmD_count_L46_p (n + 1) I J G pa pb y1 y2 y3 = ((4 ≤ y3 → True) ∧ (¬ 4 ≤ y3 → (vp_in y3 4) ∧ (((I 32 0 y3.toNatClampNeg) = 0 → fmD_count_L46_p n I J G pa pb y1 y2 (y3 + 1)) ∧ (¬ (I 32 0 y3.toNatClampNeg) = 0 → fmD_count_L46_p n I J G pa pb y1 (y2 + 1) (y3 + 1))))) := rfl
set_option maxRecDepth 100000 in
set_option maxHeartbeats 4000000 in
theorem fmD_count_L46_c {E : fm_Ev} (hl : E.1.stackTraces = false) {d : Nat} (hd : 1 ≤ d + 1) (n : Nat) : ∀ (I : fm_MI) (J : fm_MJ) (G : fm_MG) (pa : Nat × Nat) (pb : Nat × Nat) (y1 : Int32) (y2 : Int32) (y3 : Int32), fmD_count_L46_p n I J G pa pb y1 y2 y3 → fm_Go E (d + 1) fmD_count 0 (46, [(0, .inr (.inr (.inr (.inr (24, 0))))), (1, .inl y1), (2, .inl y2), (3, .inl y3)], [], (I, J, G, fm_P pa pb)) (fm_Zr E (some (.inl ((fmD_count_L46_f n I J G pa pb y1 y2 y3).1))) ((fmD_count_L46_f n I J G pa pb y1 y2 y3).2, J, G, fm_P pa pb)) := by
  have O := fmD_count_o.1
  induction n with
  | zero => intro I J G pa pb y1 y2 y3 hp; exact hp.elim
  | succ n ih =>
    intro I J G pa pb y1 y2 y3 hp
    rw [fmD_count_L46_q] at hp
    have he := fmD_count_L46_e n I J G pa pb y1 y2 y3
    refine fm_gr O 2 (C' := (48, [(0, .inr (.inr (.inr (.inr (24, 0))))), (1, .inl y1), (2, .inl y2), (3, .inl y3)], [.inl 4, .inl y3], (I, J, G, fm_P pa pb))) rfl ?_
    refine fm_gb O rfl (fun h => ?_) (fun h => ?_)
    · have h1 : 4 ≤ y3 := h
      have he := he.trans (if_pos h1)
      refine fm_gr O 1 (C' := (70, [(0, .inr (.inr (.inr (.inr (24, 0))))), (1, .inl y1), (2, .inl y2), (3, .inl y3)], [.inl y1], (I, J, G, fm_P pa pb))) rfl ?_
      refine fm_gb O rfl (fun h => ?_) (fun h => ?_)
      · have h2 : y1 = 0 := h
        have he := he.trans (if_pos h2)
        refine fm_gr O 2 (C' := (122, [(0, .inr (.inr (.inr (.inr (24, 0))))), (1, .inl y1), (2, .inl y2), (3, .inl y3)], [.inl y2], (I, J, G, fm_P pa pb))) rfl ?_
        exact fm_gRe O rfl trivial (by first | (rw [he]; done) | (rw [he]; rfl) | rfl) (by first | (rw [he]; done) | (rw [he]; rfl) | rfl)
      · have h2 : ¬ y1 = 0 := h
        have he := he.trans (if_neg h2)
        refine fm_gr O 2 (C' := (79, [(0, .inr (.inr (.inr (.inr (24, 0))))), (1, .inl y1), (2, .inl y2), (3, .inl y3)], [.inl 1, .inl y1], (I, J, G, fm_P pa pb))) rfl ?_
        refine fm_gb O rfl (fun h => ?_) (fun h => ?_)
        · have h3 : y1 = 1 := h
          have he := he.trans (if_pos h3)
          refine fm_gr O 2 (C' := (86, [(0, .inr (.inr (.inr (.inr (24, 0))))), (1, .inl y1), (2, .inl y2), (3, .inl y3)], [.inl (I 24 0 19)], (I, J, G, fm_P pa pb))) rfl ?_
          refine fm_gb O rfl (fun h => ?_) (fun h => ?_)
          · have h4 : (I 24 0 19) = 0 := h
            have he := he.trans (if_pos h4)
            refine fm_gr O 2 (C' := (122, [(0, .inr (.inr (.inr (.inr (24, 0))))), (1, .inl y1), (2, .inl y2), (3, .inl y3)], [.inl 0], (I, J, G, fm_P pa pb))) rfl ?_
            exact fm_gRe O rfl trivial (by first | (rw [he]; done) | (rw [he]; rfl) | rfl) (by first | (rw [he]; done) | (rw [he]; rfl) | rfl)
          · have h4 : ¬ (I 24 0 19) = 0 := h
            have he := he.trans (if_neg h4)
            refine fm_gr O 2 (C' := (122, [(0, .inr (.inr (.inr (.inr (24, 0))))), (1, .inl y1), (2, .inl y2), (3, .inl y3)], [.inl 1], (I, J, G, fm_P pa pb))) rfl ?_
            exact fm_gRe O rfl trivial (by first | (rw [he]; done) | (rw [he]; rfl) | rfl) (by first | (rw [he]; done) | (rw [he]; rfl) | rfl)
        · have h3 : ¬ y1 = 1 := h
          have he := he.trans (if_neg h3)
          refine fm_gr O 2 (C' := (99, [(0, .inr (.inr (.inr (.inr (24, 0))))), (1, .inl y1), (2, .inl y2), (3, .inl y3)], [.inl 2, .inl y1], (I, J, G, fm_P pa pb))) rfl ?_
          refine fm_gb O rfl (fun h => ?_) (fun h => ?_)
          · have h4 : y1 = 2 := h
            have he := he.trans (if_pos h4)
            refine fm_gr O 3 (C' := (122, [(0, .inr (.inr (.inr (.inr (24, 0))))), (1, .inl y1), (2, .inl y2), (3, .inl y3)], [.inl (I 24 0 31)], (I, J, G, fm_P pa pb))) rfl ?_
            exact fm_gRe O rfl trivial (by first | (rw [he]; done) | (rw [he]; rfl) | rfl) (by first | (rw [he]; done) | (rw [he]; rfl) | rfl)
          · have h4 : ¬ y1 = 2 := h
            have he := he.trans (if_neg h4)
            refine fm_gr O 2 (C' := (111, [(0, .inr (.inr (.inr (.inr (24, 0))))), (1, .inl y1), (2, .inl y2), (3, .inl y3)], [.inl 3, .inl y1], (I, J, G, fm_P pa pb))) rfl ?_
            refine fm_gb O rfl (fun h => ?_) (fun h => ?_)
            · have h5 : y1 = 3 := h
              have he := he.trans (if_pos h5)
              refine fm_gr O 3 (C' := (122, [(0, .inr (.inr (.inr (.inr (24, 0))))), (1, .inl y1), (2, .inl y2), (3, .inl y3)], [.inl (I 24 0 32)], (I, J, G, fm_P pa pb))) rfl ?_
              exact fm_gRe O rfl trivial (by first | (rw [he]; done) | (rw [he]; rfl) | rfl) (by first | (rw [he]; done) | (rw [he]; rfl) | rfl)
            · have h5 : ¬ y1 = 3 := h
              have he := he.trans (if_neg h5)
              refine fm_gr O 1 (C' := (122, [(0, .inr (.inr (.inr (.inr (24, 0))))), (1, .inl y1), (2, .inl y2), (3, .inl y3)], [.inl (-1)], (I, J, G, fm_P pa pb))) rfl ?_
              exact fm_gRe O rfl trivial (by first | (rw [he]; done) | (rw [he]; rfl) | rfl) (by first | (rw [he]; done) | (rw [he]; rfl) | rfl)
    · have h1 : ¬ 4 ≤ y3 := h
      have he := he.trans (if_neg h1)
      have hp := hp.2 h1
      refine fm_gr O 3 (C' := (56, [(0, .inr (.inr (.inr (.inr (24, 0))))), (1, .inl y1), (2, .inl y2), (3, .inl y3)], [.inl y3, .inr (.inr (.inr (.inr (32, 0))))], (I, J, G, fm_P pa pb))) rfl ?_
      refine fm_gg O rfl hp.1 ?_
      have hp := hp.2
      refine fm_gb O rfl (fun h => ?_) (fun h => ?_)
      · have h2 : (I 32 0 y3.toNatClampNeg) = 0 := h
        have he := he.trans (if_pos h2)
        have hp := hp.1 h2
        refine fm_gr O 2 (C' := (46, [(3, .inl (y3 + 1)), (0, .inr (.inr (.inr (.inr (24, 0))))), (1, .inl y1), (2, .inl y2)], [], (I, J, G, fm_P pa pb))) rfl ?_
        refine fm_gL O [1, 2, 3, 0] rfl ?_
        rw [he]
        exact ih I J G pa pb y1 y2 (y3 + 1) hp
      · have h2 : ¬ (I 32 0 y3.toNatClampNeg) = 0 := h
        have he := he.trans (if_neg h2)
        have hp := hp.2 h2
        refine fm_gr O 3 (C' := (46, [(3, .inl (y3 + 1)), (2, .inl (y2 + 1)), (0, .inr (.inr (.inr (.inr (24, 0))))), (1, .inl y1)], [], (I, J, G, fm_P pa pb))) rfl ?_
        refine fm_gL O [2, 3, 1, 0] rfl ?_
        rw [he]
        exact ih I J G pa pb y1 (y2 + 1) (y3 + 1) hp
def fmD_count_f (I : fm_MI) (J : fm_MJ) (G : fm_MG) (pa : Nat × Nat) (pb : Nat × Nat) (wh : Int32) : Int32 × fm_MI :=
  fm_let (fmD_in_f wh 10 13) (fun (r1 : Int32) => if r1 = 0 then (fmD_count_L46_f 5 (fm_u I 24 0 18 0) J G pa pb wh 0 0) else (if (I 32 0 ((wh - 10).toNatClampNeg)) = 0 then ((0, fm_u I 24 0 18 0)) else ((I 27 0 ((wh - 10).toNatClampNeg), fm_u I 24 0 18 0))))
theorem fmD_count_e (I : fm_MI) (J : fm_MJ) (G : fm_MG) (pa : Nat × Nat) (pb : Nat × Nat) (wh : Int32) : fmD_count_f I J G pa pb wh = fm_let (fmD_in_f wh 10 13) (fun (r1 : Int32) => if r1 = 0 then (fmD_count_L46_f 5 (fm_u I 24 0 18 0) J G pa pb wh 0 0) else (if (I 32 0 ((wh - 10).toNatClampNeg)) = 0 then ((0, fm_u I 24 0 18 0)) else ((I 27 0 ((wh - 10).toNatClampNeg), fm_u I 24 0 18 0)))) := rfl
def fmD_count_p (I : fm_MI) (J : fm_MJ) (G : fm_MG) (pa : Nat × Nat) (pb : Nat × Nat) (wh : Int32) : Prop :=
  fm_let (fmD_in_f wh 10 13) (fun (r1 : Int32) => (r1 = 0 → fmD_count_L46_p 5 (fm_u I 24 0 18 0) J G pa pb wh 0 0) ∧ (¬ r1 = 0 → (vp_in (wh - 10) 4) ∧ (((I 32 0 ((wh - 10).toNatClampNeg)) = 0 → True) ∧ (¬ (I 32 0 ((wh - 10).toNatClampNeg)) = 0 → vp_in (wh - 10) 4))))
set_option maxRecDepth 100000 in
set_option maxHeartbeats 4000000 in
theorem fmD_count_c {E : fm_Ev} (hl : E.1.stackTraces = false) {d : Nat} (hd : 1 ≤ d) (I : fm_MI) (J : fm_MJ) (G : fm_MG) (pa : Nat × Nat) (pb : Nat × Nat) (wh : Int32) (hp : fmD_count_p I J G pa pb wh) : fm_Ct E d fmD_count 0 [.inr (.inr (.inr (.inr (24, 0)))), .inl wh] (I, J, G, fm_P pa pb) (some (.inl ((fmD_count_f I J G pa pb wh).1))) ((fmD_count_f I J G pa pb wh).2, J, G, fm_P pa pb) := by
  obtain ⟨d, rfl⟩ : ∃ d', d = d' + 1 := ⟨d - 1, by omega⟩
  refine fm_ct fmD_count_o hl (Nat.le_of_ble_eq_true rfl) ?_
  have O := fmD_count_o.1
  unfold fmD_count_p at hp
  have he := fmD_count_e I J G pa pb wh
  refine fm_gr O 6 (C' := (10, [(0, .inr (.inr (.inr (.inr (24, 0))))), (1, .inl wh)], [.inl 13, .inl 10, .inl wh], (fm_u I 24 0 18 0, J, G, fm_P pa pb))) rfl ?_
  have K := fmD_in_c (d := d) hl (by omega) (fm_u I 24 0 18 0) J G pa pb wh 10 13
  generalize er1 : fmD_in_f wh 10 13 = r1 at he hp
  have he := he.trans (fm_letE _ _)
  have hp := fm_letP hp
  rw [er1] at K
  refine fm_cS0 O fmD_in_o (as := [.inl wh, .inl 10, .inl 13]) (rest := []) (v := some (.inl r1)) rfl fk_6_86 fn_D_in (Nat.le_of_ble_eq_true rfl) (K) ?_
  refine fm_gb O rfl (fun h => ?_) (fun h => ?_)
  · have h1 : r1 = 0 := h
    have he := he.trans (if_pos h1)
    have hp := hp.1 h1
    refine fm_gr O 4 (C' := (46, [(3, .inl 0), (2, .inl 0), (0, .inr (.inr (.inr (.inr (24, 0))))), (1, .inl wh)], [], (fm_u I 24 0 18 0, J, G, fm_P pa pb))) rfl ?_
    refine fm_gL O [2, 3, 1, 0] rfl ?_
    rw [he]
    exact fmD_count_L46_c hl hd 5 (fm_u I 24 0 18 0) J G pa pb wh 0 0 hp
  · have h1 : ¬ r1 = 0 := h
    have he := he.trans (if_neg h1)
    have hp := hp.2 h1
    refine fm_gr O 5 (C' := (24, [(0, .inr (.inr (.inr (.inr (24, 0))))), (1, .inl wh)], [.inl (wh - 10), .inr (.inr (.inr (.inr (32, 0))))], (fm_u I 24 0 18 0, J, G, fm_P pa pb))) rfl ?_
    refine fm_gg O rfl hp.1 ?_
    have hp := hp.2
    refine fm_gb O rfl (fun h => ?_) (fun h => ?_)
    · have h2 : (I 32 0 ((wh - 10).toNatClampNeg)) = 0 := h
      have he := he.trans (if_pos h2)
      refine fm_gr O 1 (C' := (41, [(0, .inr (.inr (.inr (.inr (24, 0))))), (1, .inl wh)], [.inl 0], (fm_u I 24 0 18 0, J, G, fm_P pa pb))) rfl ?_
      exact fm_gRe O rfl trivial (by first | (rw [he]; done) | (rw [he]; rfl) | rfl) (by first | (rw [he]; done) | (rw [he]; rfl) | rfl)
    · have h2 : ¬ (I 32 0 ((wh - 10).toNatClampNeg)) = 0 := h
      have he := he.trans (if_neg h2)
      have hp := hp.2 h2
      refine fm_gr O 5 (C' := (36, [(0, .inr (.inr (.inr (.inr (24, 0))))), (1, .inl wh)], [.inl (wh - 10), .inr (.inr (.inr (.inr (27, 0))))], (fm_u I 24 0 18 0, J, G, fm_P pa pb))) rfl ?_
      refine fm_gg O rfl hp ?_
      refine fm_gr O 1 (C' := (41, [(0, .inr (.inr (.inr (.inr (24, 0))))), (1, .inl wh)], [.inl (I 27 0 ((wh - 10).toNatClampNeg))], (fm_u I 24 0 18 0, J, G, fm_P pa pb))) rfl ?_
      exact fm_gRe O rfl trivial (by first | (rw [he]; done) | (rw [he]; rfl) | rfl) (by first | (rw [he]; done) | (rw [he]; rfl) | rfl)
