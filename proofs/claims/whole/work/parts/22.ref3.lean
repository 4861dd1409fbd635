/-! THE REFERENCE, by program (wip/tools/walk.py, gen_c3.py) -/
def fmD_push_f (I : fm_MI) (J : fm_MJ) (G : fm_MG) (t : Int32) (v : Int64) (x : UInt64) : fm_MI × fm_MJ × fm_MG :=
  if t = 0 then (if t = 2 then ((fm_u I 24 0 28 ((I 24 0 28) + 1), fm_u J 40 0 ((I 24 0 28).toNatClampNeg) v.toInt32.toInt64, fm_u G 41 0 ((I 24 0 28).toNatClampNeg) (FP.f2d (FP.d2f x)))) else ((fm_u I 24 0 28 ((I 24 0 28) + 1), fm_u J 40 0 ((I 24 0 28).toNatClampNeg) v.toInt32.toInt64, fm_u G 41 0 ((I 24 0 28).toNatClampNeg) x))) else (if t = 2 then ((fm_u I 24 0 28 ((I 24 0 28) + 1), fm_u J 40 0 ((I 24 0 28).toNatClampNeg) v, fm_u G 41 0 ((I 24 0 28).toNatClampNeg) (FP.f2d (FP.d2f x)))) else ((fm_u I 24 0 28 ((I 24 0 28) + 1), fm_u J 40 0 ((I 24 0 28).toNatClampNeg) v, fm_u G 41 0 ((I 24 0 28).toNatClampNeg) x)))
theorem fmD_push_e (I : fm_MI) (J : fm_MJ) (G : fm_MG) (t : Int32) (v : Int64) (x : UInt64) : fmD_push_f I J G t v x = if t = 0 then (if t = 2 then ((fm_u I 24 0 28 ((I 24 0 28) + 1), fm_u J 40 0 ((I 24 0 28).toNatClampNeg) v.toInt32.toInt64, fm_u G 41 0 ((I 24 0 28).toNatClampNeg) (FP.f2d (FP.d2f x)))) else ((fm_u I 24 0 28 ((I 24 0 28) + 1), fm_u J 40 0 ((I 24 0 28).toNatClampNeg) v.toInt32.toInt64, fm_u G 41 0 ((I 24 0 28).toNatClampNeg) x))) else (if t = 2 then ((fm_u I 24 0 28 ((I 24 0 28) + 1), fm_u J 40 0 ((I 24 0 28).toNatClampNeg) v, fm_u G 41 0 ((I 24 0 28).toNatClampNeg) (FP.f2d (FP.d2f x)))) else ((fm_u I 24 0 28 ((I 24 0 28) + 1), fm_u J 40 0 ((I 24 0 28).toNatClampNeg) v, fm_u G 41 0 ((I 24 0 28).toNatClampNeg) x))) := rfl
def fmD_push_p (I : fm_MI) (t : Int32) (x : UInt64) : Prop :=
  (t = 0 → (vp_in (I 24 0 28) 260) ∧ ((t = 2 → (vf_n32 (FP.d2f x)) ∧ ((vf_n64 (FP.f2d (FP.d2f x))) ∧ (vp_in (I 24 0 28) 260))) ∧ (¬ t = 2 → vp_in (I 24 0 28) 260))) ∧ (¬ t = 0 → (vp_in (I 24 0 28) 260) ∧ ((t = 2 → (vf_n32 (FP.d2f x)) ∧ ((vf_n64 (FP.f2d (FP.d2f x))) ∧ (vp_in (I 24 0 28) 260))) ∧ (¬ t = 2 → vp_in (I 24 0 28) 260)))
set_option maxRecDepth 100000 in
set_option maxHeartbeats 4000000 in
theorem fmD_push_c {E : fm_Ev} (hl : E.1.stackTraces = false) {d : Nat} (hd : 0 ≤ d) (I : fm_MI) (J : fm_MJ) (G : fm_MG) (pa : Nat × Nat) (pb : Nat × Nat) (t : Int32) (v : Int64) (x : UInt64) (hp : fmD_push_p I t x) : fm_Ct E d fmD_push 0 [.inr (.inr (.inr (.inr (24, 0)))), .inl t, .inr (.inl v), .inr (.inr (.inr (.inl x)))] (I, J, G, fm_P pa pb) none ((fmD_push_f I J G t v x).1, (fmD_push_f I J G t v x).2.1, (fmD_push_f I J G t v x).2.2, fm_P pa pb) := by
  refine fm_ct fmD_push_o hl (Nat.le_of_ble_eq_true rfl) ?_
  have O := fmD_push_o.1
  unfold fmD_push_p at hp
  have he := fmD_push_e I J G t v x
  refine fm_gr O 5 (C' := (9, [(0, .inr (.inr (.inr (.inr (24, 0))))), (1, .inl t), (2, .inr (.inl v)), (4, .inr (.inr (.inr (.inl x))))], [.inl t, .inl (I 24 0 28), .inr (.inr (.inr (.inr (40, 0))))], (I, J, G, fm_P pa pb))) rfl ?_
  refine fm_gb O rfl (fun h => ?_) (fun h => ?_)
  · have h1 : t = 0 := h
    have he := he.trans (if_pos h1)
    have hp := hp.1 h1
    refine fm_gr O 4 (C' := (19, [(0, .inr (.inr (.inr (.inr (24, 0))))), (1, .inl t), (2, .inr (.inl v)), (4, .inr (.inr (.inr (.inl x))))], [.inr (.inl v.toInt32.toInt64), .inl (I 24 0 28), .inr (.inr (.inr (.inr (40, 0))))], (I, J, G, fm_P pa pb))) rfl ?_
    refine fm_gg O rfl hp.1 ?_
    have hp := hp.2
    refine fm_gr O 6 (C' := (30, [(0, .inr (.inr (.inr (.inr (24, 0))))), (1, .inl t), (2, .inr (.inl v)), (4, .inr (.inr (.inr (.inl x))))], [.inl 2, .inl t, .inl (I 24 0 28), .inr (.inr (.inr (.inr (41, 0))))], (I, fm_u J 40 0 ((I 24 0 28).toNatClampNeg) v.toInt32.toInt64, G, fm_P pa pb))) rfl ?_
    refine fm_gb O rfl (fun h => ?_) (fun h => ?_)
    · have h2 : t = 2 := h
      have he := he.trans (if_pos h2)
      have hp := hp.1 h2
      refine fm_gr O 1 (C' := (35, [(0, .inr (.inr (.inr (.inr (24, 0))))), (1, .inl t), (2, .inr (.inl v)), (4, .inr (.inr (.inr (.inl x))))], [.inr (.inr (.inr (.inl x))), .inl (I 24 0 28), .inr (.inr (.inr (.inr (41, 0))))], (I, fm_u J 40 0 ((I 24 0 28).toNatClampNeg) v.toInt32.toInt64, G, fm_P pa pb))) rfl ?_
      refine fm_gg O rfl hp.1 ?_
      have hp := hp.2
      refine fm_gg O rfl hp.1 ?_
      have hp := hp.2
      refine fm_gr O 1 (C' := (42, [(0, .inr (.inr (.inr (.inr (24, 0))))), (1, .inl t), (2, .inr (.inl v)), (4, .inr (.inr (.inr (.inl x))))], [.inr (.inr (.inr (.inl (FP.f2d (FP.d2f x))))), .inl (I 24 0 28), .inr (.inr (.inr (.inr (41, 0))))], (I, fm_u J 40 0 ((I 24 0 28).toNatClampNeg) v.toInt32.toInt64, G, fm_P pa pb))) rfl ?_
      refine fm_gg O rfl hp ?_
      refine fm_gr O 6 (C' := (53, [(0, .inr (.inr (.inr (.inr (24, 0))))), (1, .inl t), (2, .inr (.inl v)), (4, .inr (.inr (.inr (.inl x))))], [], (fm_u I 24 0 28 ((I 24 0 28) + 1), fm_u J 40 0 ((I 24 0 28).toNatClampNeg) v.toInt32.toInt64, fm_u G 41 0 ((I 24 0 28).toNatClampNeg) (FP.f2d (FP.d2f x)), fm_P pa pb))) rfl ?_
      exact fm_gRe O rfl trivial (by first | (rw [he]; done) | (rw [he]; rfl) | rfl) (by first | (rw [he]; done) | (rw [he]; rfl) | rfl)
    · have h2 : ¬ t = 2 := h
      have he := he.trans (if_neg h2)
      have hp := hp.2 h2
      refine fm_gr O 1 (C' := (42, [(0, .inr (.inr (.inr (.inr (24, 0))))), (1, .inl t), (2, .inr (.inl v)), (4, .inr (.inr (.inr (.inl x))))], [.inr (.inr (.inr (.inl x))), .inl (I 24 0 28), .inr (.inr (.inr (.inr (41, 0))))], (I, fm_u J 40 0 ((I 24 0 28).toNatClampNeg) v.toInt32.toInt64, G, fm_P pa pb))) rfl ?_
      refine fm_gg O rfl hp ?_
      refine fm_gr O 6 (C' := (53, [(0, .inr (.inr (.inr (.inr (24, 0))))), (1, .inl t), (2, .inr (.inl v)), (4, .inr (.inr (.inr (.inl x))))], [], (fm_u I 24 0 28 ((I 24 0 28) + 1), fm_u J 40 0 ((I 24 0 28).toNatClampNeg) v.toInt32.toInt64, fm_u G 41 0 ((I 24 0 28).toNatClampNeg) x, fm_P pa pb))) rfl ?_
      exact fm_gRe O rfl trivial (by first | (rw [he]; done) | (rw [he]; rfl) | rfl) (by first | (rw [he]; done) | (rw [he]; rfl) | rfl)
  · have h1 : ¬ t = 0 := h
    have he := he.trans (if_neg h1)
    have hp := hp.2 h1
    refine fm_gr O 1 (C' := (19, [(0, .inr (.inr (.inr (.inr (24, 0))))), (1, .inl t), (2, .inr (.inl v)), (4, .inr (.inr (.inr (.inl x))))], [.inr (.inl v), .inl (I 24 0 28), .inr (.inr (.inr (.inr (40, 0))))], (I, J, G, fm_P pa pb))) rfl ?_
    refine fm_gg O rfl hp.1 ?_
    have hp := hp.2
    refine fm_gr O 6 (C' := (30, [(0, .inr (.inr (.inr (.inr (24, 0))))), (1, .inl t), (2, .inr (.inl v)), (4, .inr (.inr (.inr (.inl x))))], [.inl 2, .inl t, .inl (I 24 0 28), .inr (.inr (.inr (.inr (41, 0))))], (I, fm_u J 40 0 ((I 24 0 28).toNatClampNeg) v, G, fm_P pa pb))) rfl ?_
    refine fm_gb O rfl (fun h => ?_) (fun h => ?_)
    · have h2 : t = 2 := h
      have he := he.trans (if_pos h2)
      have hp := hp.1 h2
      refine fm_gr O 1 (C' := (35, [(0, .inr (.inr (.inr (.inr (24, 0))))), (1, .inl t), (2, .inr (.inl v)), (4, .inr (.inr (.inr (.inl x))))], [.inr (.inr (.inr (.inl x))), .inl (I 24 0 28), .inr (.inr (.inr (.inr (41, 0))))], (I, fm_u J 40 0 ((I 24 0 28).toNatClampNeg) v, G, fm_P pa pb))) rfl ?_
      refine fm_gg O rfl hp.1 ?_
      have hp := hp.2
      refine fm_gg O rfl hp.1 ?_
      have hp := hp.2
      refine fm_gr O 1 (C' := (42, [(0, .inr (.inr (.inr (.inr (24, 0))))), (1, .inl t), (2, .inr (.inl v)), (4, .inr (.inr (.inr (.inl x))))], [.inr (.inr (.inr (.inl (FP.f2d (FP.d2f x))))), .inl (I 24 0 28), .inr (.inr (.inr (.inr (41, 0))))], (I, fm_u J 40 0 ((I 24 0 28).toNatClampNeg) v, G, fm_P pa pb))) rfl ?_
      refine fm_gg O rfl hp ?_
      refine fm_gr O 6 (C' := (53, [(0, .inr (.inr (.inr (.inr (24, 0))))), (1, .inl t), (2, .inr (.inl v)), (4, .inr (.inr (.inr (.inl x))))], [], (fm_u I 24 0 28 ((I 24 0 28) + 1), fm_u J 40 0 ((I 24 0 28).toNatClampNeg) v, fm_u G 41 0 ((I 24 0 28).toNatClampNeg) (FP.f2d (FP.d2f x)), fm_P pa pb))) rfl ?_
      exact fm_gRe O rfl trivial (by first | (rw [he]; done) | (rw [he]; rfl) | rfl) (by first | (rw [he]; done) | (rw [he]; rfl) | rfl)
    · have h2 : ¬ t = 2 := h
      have he := he.trans (if_neg h2)
      have hp := hp.2 h2
      refine fm_gr O 1 (C' := (42, [(0, .inr (.inr (.inr (.inr (24, 0))))), (1, .inl t), (2, .inr (.inl v)), (4, .inr (.inr (.inr (.inl x))))], [.inr (.inr (.inr (.inl x))), .inl (I 24 0 28), .inr (.inr (.inr (.inr (41, 0))))], (I, fm_u J 40 0 ((I 24 0 28).toNatClampNeg) v, G, fm_P pa pb))) rfl ?_
      refine fm_gg O rfl hp ?_
      refine fm_gr O 6 (C' := (53, [(0, .inr (.inr (.inr (.inr (24, 0))))), (1, .inl t), (2, .inr (.inl v)), (4, .inr (.inr (.inr (.inl x))))], [], (fm_u I 24 0 28 ((I 24 0 28) + 1), fm_u J 40 0 ((I 24 0 28).toNatClampNeg) v, fm_u G 41 0 ((I 24 0 28).toNatClampNeg) x, fm_P pa pb))) rfl ?_
      exact fm_gRe O rfl trivial (by first | (rw [he]; done) | (rw [he]; rfl) | rfl) (by first | (rw [he]; done) | (rw [he]; rfl) | rfl)
def fmD_large_f (x : UInt64) : Int32 :=
  if 0 < (Op.cmpValue (FP.dcmp x 4741671816366391296) .l) then 1 else (if 0 ≤ (Op.cmpValue (FP.dcmp x 13965043853221167104) .g) then 0 else 1)
theorem fmD_large_e (x : UInt64) : fmD_large_f x = if 0 < (Op.cmpValue (FP.dcmp x 4741671816366391296) .l) then 1 else (if 0 ≤ (Op.cmpValue (FP.dcmp x 13965043853221167104) .g) then 0 else 1) := rfl
set_option maxRecDepth 100000 in
set_option maxHeartbeats 4000000 in
theorem fmD_large_c {E : fm_Ev} (hl : E.1.stackTraces = false) {d : Nat} (hd : 0 ≤ d) (I : fm_MI) (J : fm_MJ) (G : fm_MG) (pa : Nat × Nat) (pb : Nat × Nat) (x : UInt64) : fm_Ct E d fmD_large 0 [.inr (.inr (.inr (.inl x)))] (I, J, G, fm_P pa pb) (some (.inl (fmD_large_f x))) (I, J, G, fm_P pa pb) := by
  refine fm_ct fmD_large_o hl (Nat.le_of_ble_eq_true rfl) ?_
  have O := fmD_large_o.1
  have he := fmD_large_e x
  refine fm_gr O 3 (C' := (5, [(0, .inr (.inr (.inr (.inl x))))], [.inl (Op.cmpValue (FP.dcmp x 4741671816366391296) .l)], (I, J, G, fm_P pa pb))) rfl ?_
  refine fm_gb O rfl (fun h => ?_) (fun h => ?_)
  · have h1 : 0 < (Op.cmpValue (FP.dcmp x 4741671816366391296) .l) := h
    have he := he.trans (if_pos h1)
    refine fm_gr O 2 (C' := (21, [(0, .inr (.inr (.inr (.inl x))))], [.inl 1], (I, J, G, fm_P pa pb))) rfl ?_
    exact fm_gRe O rfl (Or.inr rfl) (by first | (rw [he]; done) | (rw [he]; rfl) | rfl) (by first | (rw [he]; done) | (rw [he]; rfl) | rfl)
  · have h1 : ¬ 0 < (Op.cmpValue (FP.dcmp x 4741671816366391296) .l) := h
    have he := he.trans (if_neg h1)
    refine fm_gr O 3 (C' := (13, [(0, .inr (.inr (.inr (.inl x))))], [.inl (Op.cmpValue (FP.dcmp x 13965043853221167104) .g)], (I, J, G, fm_P pa pb))) rfl ?_
    refine fm_gb O rfl (fun h => ?_) (fun h => ?_)
    · have h2 : 0 ≤ (Op.cmpValue (FP.dcmp x 13965043853221167104) .g) := h
      have he := he.trans (if_pos h2)
      refine fm_gr O 1 (C' := (21, [(0, .inr (.inr (.inr (.inl x))))], [.inl 0], (I, J, G, fm_P pa pb))) rfl ?_
      exact fm_gRe O rfl (Or.inl rfl) (by first | (rw [he]; done) | (rw [he]; rfl) | rfl) (by first | (rw [he]; done) | (rw [he]; rfl) | rfl)
    · have h2 : ¬ 0 ≤ (Op.cmpValue (FP.dcmp x 13965043853221167104) .g) := h
      have he := he.trans (if_neg h2)
      refine fm_gr O 2 (C' := (21, [(0, .inr (.inr (.inr (.inl x))))], [.inl 1], (I, J, G, fm_P pa pb))) rfl ?_
      exact fm_gRe O rfl (Or.inr rfl) (by first | (rw [he]; done) | (rw [he]; rfl) | rfl) (by first | (rw [he]; done) | (rw [he]; rfl) | rfl)
def fmD_small_f (o : Int32) (x : UInt32) (y : UInt32) : UInt32 :=
  if o = 11 then (FP.fadd x y) else (if o = 12 then (FP.fsub x y) else (if o = 13 then (FP.fmul x y) else (FP.fdiv x y)))
theorem fmD_small_e (o : Int32) (x : UInt32) (y : UInt32) : fmD_small_f o x y = if o = 11 then (FP.fadd x y) else (if o = 12 then (FP.fsub x y) else (if o = 13 then (FP.fmul x y) else (FP.fdiv x y))) := rfl
def fmD_small_p (o : Int32) (x : UInt32) (y : UInt32) : Prop :=
  (o = 11 → vf_n32 (FP.fadd x y)) ∧ (¬ o = 11 → (o = 12 → vf_n32 (FP.fsub x y)) ∧ (¬ o = 12 → (o = 13 → vf_n32 (FP.fmul x y)) ∧ (¬ o = 13 → vf_n32 (FP.fdiv x y))))
set_option maxRecDepth 100000 in
set_option maxHeartbeats 4000000 in
theorem fmD_small_c {E : fm_Ev} (hl : E.1.stackTraces = false) {d : Nat} (hd : 0 ≤ d) (I : fm_MI) (J : fm_MJ) (G : fm_MG) (pa : Nat × Nat) (pb : Nat × Nat) (o : Int32) (x : UInt32) (y : UInt32) (hp : fmD_small_p o x y) : fm_Ct E d fmD_small 0 [.inl o, .inr (.inr (.inl x)), .inr (.inr (.inl y))] (I, J, G, fm_P pa pb) (some (.inr (.inr (.inl (fmD_small_f o x y))))) (I, J, G, fm_P pa pb) := by
  refine fm_ct fmD_small_o hl (Nat.le_of_ble_eq_true rfl) ?_
  have O := fmD_small_o.1
  unfold fmD_small_p at hp
  have he := fmD_small_e o x y
  refine fm_gr O 2 (C' := (3, [(0, .inl o), (1, .inr (.inr (.inl x))), (2, .inr (.inr (.inl y)))], [.inl 11, .inl o], (I, J, G, fm_P pa pb))) rfl ?_
  refine fm_gb O rfl (fun h => ?_) (fun h => ?_)
  · have h1 : o = 11 := h
    have he := he.trans (if_pos h1)
    have hp := hp.1 h1
    refine fm_gr O 2 (C' := (8, [(0, .inl o), (1, .inr (.inr (.inl x))), (2, .inr (.inr (.inl y)))], [.inr (.inr (.inl y)), .inr (.inr (.inl x))], (I, J, G, fm_P pa pb))) rfl ?_
    refine fm_gg O rfl hp ?_
    refine fm_gr O 1 (C' := (39, [(0, .inl o), (1, .inr (.inr (.inl x))), (2, .inr (.inr (.inl y)))], [.inr (.inr (.inl (FP.fadd x y)))], (I, J, G, fm_P pa pb))) rfl ?_
    exact fm_gRe O rfl trivial (by first | (rw [he]; done) | (rw [he]; rfl) | rfl) (by first | (rw [he]; done) | (rw [he]; rfl) | rfl)
  · have h1 : ¬ o = 11 := h
    have he := he.trans (if_neg h1)
    have hp := hp.2 h1
    refine fm_gr O 2 (C' := (15, [(0, .inl o), (1, .inr (.inr (.inl x))), (2, .inr (.inr (.inl y)))], [.inl 12, .inl o], (I, J, G, fm_P pa pb))) rfl ?_
    refine fm_gb O rfl (fun h => ?_) (fun h => ?_)
    · have h2 : o = 12 := h
      have he := he.trans (if_pos h2)
      have hp := hp.1 h2
      refine fm_gr O 2 (C' := (20, [(0, .inl o), (1, .inr (.inr (.inl x))), (2, .inr (.inr (.inl y)))], [.inr (.inr (.inl y)), .inr (.inr (.inl x))], (I, J, G, fm_P pa pb))) rfl ?_
      refine fm_gg O rfl hp ?_
      refine fm_gr O 1 (C' := (39, [(0, .inl o), (1, .inr (.inr (.inl x))), (2, .inr (.inr (.inl y)))], [.inr (.inr (.inl (FP.fsub x y)))], (I, J, G, fm_P pa pb))) rfl ?_
      exact fm_gRe O rfl trivial (by first | (rw [he]; done) | (rw [he]; rfl) | rfl) (by first | (rw [he]; done) | (rw [he]; rfl) | rfl)
    · have h2 : ¬ o = 12 := h
      have he := he.trans (if_neg h2)
      have hp := hp.2 h2
      refine fm_gr O 2 (C' := (27, [(0, .inl o), (1, .inr (.inr (.inl x))), (2, .inr (.inr (.inl y)))], [.inl 13, .inl o], (I, J, G, fm_P pa pb))) rfl ?_
      refine fm_gb O rfl (fun h => ?_) (fun h => ?_)
      · have h3 : o = 13 := h
        have he := he.trans (if_pos h3)
        have hp := hp.1 h3
        refine fm_gr O 2 (C' := (32, [(0, .inl o), (1, .inr (.inr (.inl x))), (2, .inr (.inr (.inl y)))], [.inr (.inr (.inl y)), .inr (.inr (.inl x))], (I, J, G, fm_P pa pb))) rfl ?_
        refine fm_gg O rfl hp ?_
        refine fm_gr O 1 (C' := (39, [(0, .inl o), (1, .inr (.inr (.inl x))), (2, .inr (.inr (.inl y)))], [.inr (.inr (.inl (FP.fmul x y)))], (I, J, G, fm_P pa pb))) rfl ?_
        exact fm_gRe O rfl trivial (by first | (rw [he]; done) | (rw [he]; rfl) | rfl) (by first | (rw [he]; done) | (rw [he]; rfl) | rfl)
      · have h3 : ¬ o = 13 := h
        have he := he.trans (if_neg h3)
        have hp := hp.2 h3
        refine fm_gr O 2 (C' := (38, [(0, .inl o), (1, .inr (.inr (.inl x))), (2, .inr (.inr (.inl y)))], [.inr (.inr (.inl y)), .inr (.inr (.inl x))], (I, J, G, fm_P pa pb))) rfl ?_
        refine fm_gg O rfl hp ?_
        exact fm_gRe O rfl trivial (by first | (rw [he]; done) | (rw [he]; rfl) | rfl) (by first | (rw [he]; done) | (rw [he]; rfl) | rfl)
def fmD_fractions_f (I : fm_MI) (J : fm_MJ) (G : fm_MG) (o : Int32) (t : Int32) (x : UInt64) (y : UInt64) : fm_MI × fm_MJ × fm_MG :=
  if o ≤ 17 then (if o = 14 then (if (Op.cmpValue (FP.dcmp y FP.dconst0) .l) = 0 then ((fm_u I 24 0 18 3, J, G)) else (if t = 2 then (fm_let (fmD_small_f o (FP.d2f x) (FP.d2f y)) (fun (r1 : UInt32) => fm_let (fmD_large_f (FP.f2d r1)) (fun (r2 : Int32) => if r2 = 0 then (fm_let (fmD_push_f I J G t 0 (FP.f2d r1)) (fun (r3 : fm_MI × fm_MJ × fm_MG) => (r3.1, r3.2.1, r3.2.2))) else ((fm_u I 24 0 18 3, J, G))))) else (if o = 11 then (fm_let (fmD_large_f (FP.dadd x y)) (fun (r4 : Int32) => if r4 = 0 then (fm_let (fmD_push_f I J G t 0 (FP.dadd x y)) (fun (r5 : fm_MI × fm_MJ × fm_MG) => (r5.1, r5.2.1, r5.2.2))) else ((fm_u I 24 0 18 3, J, G)))) else (if o = 12 then (fm_let (fmD_large_f (FP.dsub x y)) (fun (r6 : Int32) => if r6 = 0 then (fm_let (fmD_push_f I J G t 0 (FP.dsub x y)) (fun (r7 : fm_MI × fm_MJ × fm_MG) => (r7.1, r7.2.1, r7.2.2))) else ((fm_u I 24 0 18 3, J, G)))) else (if o = 13 then (fm_let (fmD_large_f (FP.dmul x y)) (fun (r8 : Int32) => if r8 = 0 then (fm_let (fmD_push_f I J G t 0 (FP.dmul x y)) (fun (r9 : fm_MI × fm_MJ × fm_MG) => (r9.1, r9.2.1, r9.2.2))) else ((fm_u I 24 0 18 3, J, G)))) else (fm_let (fmD_large_f (FP.ddiv x y)) (fun (r10 : Int32) => if r10 = 0 then (fm_let (fmD_push_f I J G t 0 (FP.ddiv x y)) (fun (r11 : fm_MI × fm_MJ × fm_MG) => (r11.1, r11.2.1, r11.2.2))) else ((fm_u I 24 0 18 3, J, G))))))))) else (if t = 2 then (fm_let (fmD_small_f o (FP.d2f x) (FP.d2f y)) (fun (r12 : UInt32) => fm_let (fmD_large_f (FP.f2d r12)) (fun (r13 : Int32) => if r13 = 0 then (fm_let (fmD_push_f I J G t 0 (FP.f2d r12)) (fun (r14 : fm_MI × fm_MJ × fm_MG) => (r14.1, r14.2.1, r14.2.2))) else ((fm_u I 24 0 18 3, J, G))))) else (if o = 11 then (fm_let (fmD_large_f (FP.dadd x y)) (fun (r15 : Int32) => if r15 = 0 then (fm_let (fmD_push_f I J G t 0 (FP.dadd x y)) (fun (r16 : fm_MI × fm_MJ × fm_MG) => (r16.1, r16.2.1, r16.2.2))) else ((fm_u I 24 0 18 3, J, G)))) else (if o = 12 then (fm_let (fmD_large_f (FP.dsub x y)) (fun (r17 : Int32) => if r17 = 0 then (fm_let (fmD_push_f I J G t 0 (FP.dsub x y)) (fun (r18 : fm_MI × fm_MJ × fm_MG) => (r18.1, r18.2.1, r18.2.2))) else ((fm_u I 24 0 18 3, J, G)))) else (if o = 13 then (fm_let (fmD_large_f (FP.dmul x y)) (fun (r19 : Int32) => if r19 = 0 then (fm_let (fmD_push_f I J G t 0 (FP.dmul x y)) (fun (r20 : fm_MI × fm_MJ × fm_MG) => (r20.1, r20.2.1, r20.2.2))) else ((fm_u I 24 0 18 3, J, G)))) else (fm_let (fmD_large_f (FP.ddiv x y)) (fun (r21 : Int32) => if r21 = 0 then (fm_let (fmD_push_f I J G t 0 (FP.ddiv x y)) (fun (r22 : fm_MI × fm_MJ × fm_MG) => (r22.1, r22.2.1, r22.2.2))) else ((fm_u I 24 0 18 3, J, G))))))))) else (if o = 18 then (if 0 ≤ (Op.cmpValue (FP.dcmp x y) .g) then (fm_let (fmD_push_f I J G 0 0 FP.dconst0) (fun (r23 : fm_MI × fm_MJ × fm_MG) => (r23.1, r23.2.1, r23.2.2))) else (fm_let (fmD_push_f I J G 0 1 FP.dconst0) (fun (r24 : fm_MI × fm_MJ × fm_MG) => (r24.1, r24.2.1, r24.2.2)))) else (if (Op.cmpValue (FP.dcmp x y) .l) = 0 then (fm_let (fmD_push_f I J G 0 1 FP.dconst0) (fun (r25 : fm_MI × fm_MJ × fm_MG) => (r25.1, r25.2.1, r25.2.2))) else (fm_let (fmD_push_f I J G 0 0 FP.dconst0) (fun (r26 : fm_MI × fm_MJ × fm_MG) => (r26.1, r26.2.1, r26.2.2)))))
theorem fmD_fractions_e (I : fm_MI) (J : fm_MJ) (G : fm_MG) (o : Int32) (t : Int32) (x : UInt64) (y : UInt64) : fmD_fractions_f I J G o t x y = if o ≤ 17 then (if o = 14 then (if (Op.cmpValue (FP.dcmp y FP.dconst0) .l) = 0 then ((fm_u I 24 0 18 3, J, G)) else (if t = 2 then (fm_let (fmD_small_f o (FP.d2f x) (FP.d2f y)) (fun (r1 : UInt32) => fm_let (fmD_large_f (FP.f2d r1)) (fun (r2 : Int32) => if r2 = 0 then (fm_let (fmD_push_f I J G t 0 (FP.f2d r1)) (fun (r3 : fm_MI × fm_MJ × fm_MG) => (r3.1, r3.2.1, r3.2.2))) else ((fm_u I 24 0 18 3, J, G))))) else (if o = 11 then (fm_let (fmD_large_f (FP.dadd x y)) (fun (r4 : Int32) => if r4 = 0 then (fm_let (fmD_push_f I J G t 0 (FP.dadd x y)) (fun (r5 : fm_MI × fm_MJ × fm_MG) => (r5.1, r5.2.1, r5.2.2))) else ((fm_u I 24 0 18 3, J, G)))) else (if o = 12 then (fm_let (fmD_large_f (FP.dsub x y)) (fun (r6 : Int32) => if r6 = 0 then (fm_let (fmD_push_f I J G t 0 (FP.dsub x y)) (fun (r7 : fm_MI × fm_MJ × fm_MG) => (r7.1, r7.2.1, r7.2.2))) else ((fm_u I 24 0 18 3, J, G)))) else (if o = 13 then (fm_let (fmD_large_f (FP.dmul x y)) (fun (r8 : Int32) => if r8 = 0 then (fm_let (fmD_push_f I J G t 0 (FP.dmul x y)) (fun (r9 : fm_MI × fm_MJ × fm_MG) => (r9.1, r9.2.1, r9.2.2))) else ((fm_u I 24 0 18 3, J, G)))) else (fm_let (fmD_large_f (FP.ddiv x y)) (fun (r10 : Int32) => if r10 = 0 then (fm_let (fmD_push_f I J G t 0 (FP.ddiv x y)) (fun (r11 : fm_MI × fm_MJ × fm_MG) => (r11.1, r11.2.1, r11.2.2))) else ((fm_u I 24 0 18 3, J, G))))))))) else (if t = 2 then (fm_let (fmD_small_f o (FP.d2f x) (FP.d2f y)) (fun (r12 : UInt32) => fm_let (fmD_large_f (FP.f2d r12)) (fun (r13 : Int32) => if r13 = 0 then (fm_let (fmD_push_f I J G t 0 (FP.f2d r12)) (fun (r14 : fm_MI × fm_MJ × fm_MG) => (r14.1, r14.2.1, r14.2.2))) else ((fm_u I 24 0 18 3, J, G))))) else (if o = 11 then (fm_let (fmD_large_f (FP.dadd x y)) (fun (r15 : Int32) => if r15 = 0 then (fm_let (fmD_push_f I J G t 0 (FP.dadd x y)) (fun (r16 : fm_MI × fm_MJ × fm_MG) => (r16.1, r16.2.1, r16.2.2))) else ((fm_u I 24 0 18 3, J, G)))) else (if o = 12 then (fm_let (fmD_large_f (FP.dsub x y)) (fun (r17 : Int32) => if r17 = 0 then (fm_let (fmD_push_f I J G t 0 (FP.dsub x y)) (fun (r18 : fm_MI × fm_MJ × fm_MG) => (r18.1, r18.2.1, r18.2.2))) else ((fm_u I 24 0 18 3, J, G)))) else (if o = 13 then (fm_let (fmD_large_f (FP.dmul x y)) (fun (r19 : Int32) => if r19 = 0 then (fm_let (fmD_push_f I J G t 0 (FP.dmul x y)) (fun (r20 : fm_MI × fm_MJ × fm_MG) => (r20.1, r20.2.1, r20.2.2))) else ((fm_u I 24 0 18 3, J, G)))) else (fm_let (fmD_large_f (FP.ddiv x y)) (fun (r21 : Int32) => if r21 = 0 then (fm_let (fmD_push_f I J G t 0 (FP.ddiv x y)) (fun (r22 : fm_MI × fm_MJ × fm_MG) => (r22.1, r22.2.1, r22.2.2))) else ((fm_u I 24 0 18 3, J, G))))))))) else (if o = 18 then (if 0 ≤ (Op.cmpValue (FP.dcmp x y) .g) then (fm_let (fmD_push_f I J G 0 0 FP.dconst0) (fun (r23 : fm_MI × fm_MJ × fm_MG) => (r23.1, r23.2.1, r23.2.2))) else (fm_let (fmD_push_f I J G 0 1 FP.dconst0) (fun (r24 : fm_MI × fm_MJ × fm_MG) => (r24.1, r24.2.1, r24.2.2)))) else (if (Op.cmpValue (FP.dcmp x y) .l) = 0 then (fm_let (fmD_push_f I J G 0 1 FP.dconst0) (fun (r25 : fm_MI × fm_MJ × fm_MG) => (r25.1, r25.2.1, r25.2.2))) else (fm_let (fmD_push_f I J G 0 0 FP.dconst0) (fun (r26 : fm_MI × fm_MJ × fm_MG) => (r26.1, r26.2.1, r26.2.2))))) := rfl
def fmD_fractions_p (I : fm_MI) (o : Int32) (t : Int32) (x : UInt64) (y : UInt64) : Prop :=
  (o ≤ 17 → (o = 14 → ((Op.cmpValue (FP.dcmp y FP.dconst0) .l) = 0 → True) ∧ (¬ (Op.cmpValue (FP.dcmp y FP.dconst0) .l) = 0 → (t = 2 → (vf_n32 (FP.d2f x)) ∧ ((vf_n32 (FP.d2f y)) ∧ (fmD_small_p o (FP.d2f x) (FP.d2f y) ∧ (fm_let (fmD_small_f o (FP.d2f x) (FP.d2f y)) (fun (r1 : UInt32) => (vf_n64 (FP.f2d r1)) ∧ (fm_let (fmD_large_f (FP.f2d r1)) (fun (r2 : Int32) => (r2 = 0 → fmD_push_p I t (FP.f2d r1)) ∧ (¬ r2 = 0 → True)))))))) ∧ (¬ t = 2 → (o = 11 → (vf_n64 (FP.dadd x y)) ∧ (fm_let (fmD_large_f (FP.dadd x y)) (fun (r4 : Int32) => (r4 = 0 → fmD_push_p I t (FP.dadd x y)) ∧ (¬ r4 = 0 → True)))) ∧ (¬ o = 11 → (o = 12 → (vf_n64 (FP.dsub x y)) ∧ (fm_let (fmD_large_f (FP.dsub x y)) (fun (r6 : Int32) => (r6 = 0 → fmD_push_p I t (FP.dsub x y)) ∧ (¬ r6 = 0 → True)))) ∧ (¬ o = 12 → (o = 13 → (vf_n64 (FP.dmul x y)) ∧ (fm_let (fmD_large_f (FP.dmul x y)) (fun (r8 : Int32) => (r8 = 0 → fmD_push_p I t (FP.dmul x y)) ∧ (¬ r8 = 0 → True)))) ∧ (¬ o = 13 → (vf_n64 (FP.ddiv x y)) ∧ (fm_let (fmD_large_f (FP.ddiv x y)) (fun (r10 : Int32) => (r10 = 0 → fmD_push_p I t (FP.ddiv x y)) ∧ (¬ r10 = 0 → True))))))))) ∧ (¬ o = 14 → (t = 2 → (vf_n32 (FP.d2f x)) ∧ ((vf_n32 (FP.d2f y)) ∧ (fmD_small_p o (FP.d2f x) (FP.d2f y) ∧ (fm_let (fmD_small_f o (FP.d2f x) (FP.d2f y)) (fun (r12 : UInt32) => (vf_n64 (FP.f2d r12)) ∧ (fm_let (fmD_large_f (FP.f2d r12)) (fun (r13 : Int32) => (r13 = 0 → fmD_push_p I t (FP.f2d r12)) ∧ (¬ r13 = 0 → True)))))))) ∧ (¬ t = 2 → (o = 11 → (vf_n64 (FP.dadd x y)) ∧ (fm_let (fmD_large_f (FP.dadd x y)) (fun (r15 : Int32) => (r15 = 0 → fmD_push_p I t (FP.dadd x y)) ∧ (¬ r15 = 0 → True)))) ∧ (¬ o = 11 → (o = 12 → (vf_n64 (FP.dsub x y)) ∧ (fm_let (fmD_large_f (FP.dsub x y)) (fun (r17 : Int32) => (r17 = 0 → fmD_push_p I t (FP.dsub x y)) ∧ (¬ r17 = 0 → True)))) ∧ (¬ o = 12 → (o = 13 → (vf_n64 (FP.dmul x y)) ∧ (fm_let (fmD_large_f (FP.dmul x y)) (fun (r19 : Int32) => (r19 = 0 → fmD_push_p I t (FP.dmul x y)) ∧ (¬ r19 = 0 → True)))) ∧ (¬ o = 13 → (vf_n64 (FP.ddiv x y)) ∧ (fm_let (fmD_large_f (FP.ddiv x y)) (fun (r21 : Int32) => (r21 = 0 → fmD_push_p I t (FP.ddiv x y)) ∧ (¬ r21 = 0 → True))))))))) ∧ (¬ o ≤ 17 → (o = 18 → (0 ≤ (Op.cmpValue (FP.dcmp x y) .g) → fmD_push_p I 0 FP.dconst0) ∧ (¬ 0 ≤ (Op.cmpValue (FP.dcmp x y) .g) → fmD_push_p I 0 FP.dconst0)) ∧ (¬ o = 18 → ((Op.cmpValue (FP.dcmp x y) .l) = 0 → fmD_push_p I 0 FP.dconst0) ∧ (¬ (Op.cmpValue (FP.dcmp x y) .l) = 0 → fmD_push_p I 0 FP.dconst0)))
set_option maxRecDepth 100000 in
set_option maxHeartbeats 4000000 in
theorem fmD_fractions_c {E : fm_Ev} (hl : E.1.stackTraces = false) {d : Nat} (hd : 1 ≤ d) (I : fm_MI) (J : fm_MJ) (G : fm_MG) (pa : Nat × Nat) (pb : Nat × Nat) (o : Int32) (t : Int32) (x : UInt64) (y : UInt64) (hp : fmD_fractions_p I o t x y) : fm_Ct E d fmD_fractions 0 [.inr (.inr (.inr (.inr (24, 0)))), .inl o, .inl t, .inr (.inr (.inr (.inl x))), .inr (.inr (.inr (.inl y)))] (I, J, G, fm_P pa pb) none ((fmD_fractions_f I J G o t x y).1, (fmD_fractions_f I J G o t x y).2.1, (fmD_fractions_f I J G o t x y).2.2, fm_P pa pb) := by
  obtain ⟨d, rfl⟩ : ∃ d', d = d' + 1 := ⟨d - 1, by omega⟩
  refine fm_ct fmD_fractions_o hl (Nat.le_of_ble_eq_true rfl) ?_
  have O := fmD_fractions_o.1
  unfold fmD_fractions_p at hp
  have he := fmD_fractions_e I J G o t x y
  refine fm_gr O 2 (C' := (3, [(0, .inr (.inr (.inr (.inr (24, 0))))), (1, .inl o), (2, .inl t), (3, .inr (.inr (.inr (.inl x)))), (5, .inr (.inr (.inr (.inl y))))], [.inl 17, .inl o], (I, J, G, fm_P pa pb))) rfl ?_
  refine fm_gb O rfl (fun h => ?_) (fun h => ?_)
  · have h1 : o ≤ 17 := h
    have he := he.trans (if_pos h1)
    have hp := hp.1 h1
    refine fm_gr O 2 (C' := (44, [(0, .inr (.inr (.inr (.inr (24, 0))))), (1, .inl o), (2, .inl t), (3, .inr (.inr (.inr (.inl x)))), (5, .inr (.inr (.inr (.inl y))))], [.inl 14, .inl o], (I, J, G, fm_P pa pb))) rfl ?_
    refine fm_gb O rfl (fun h => ?_) (fun h => ?_)
    · have h2 : o = 14 := h
      have he := he.trans (if_pos h2)
      have hp := hp.1 h2
      refine fm_gr O 3 (C' := (51, [(0, .inr (.inr (.inr (.inr (24, 0))))), (1, .inl o), (2, .inl t), (3, .inr (.inr (.inr (.inl x)))), (5, .inr (.inr (.inr (.inl y))))], [.inl (Op.cmpValue (FP.dcmp y FP.dconst0) .l)], (I, J, G, fm_P pa pb))) rfl ?_
      refine fm_gb O rfl (fun h => ?_) (fun h => ?_)
      · have h3 : (Op.cmpValue (FP.dcmp y FP.dconst0) .l) = 0 := h
        have he := he.trans (if_pos h3)
        refine fm_gr O 3 (C' := (59, [(0, .inr (.inr (.inr (.inr (24, 0))))), (1, .inl o), (2, .inl t), (3, .inr (.inr (.inr (.inl x)))), (5, .inr (.inr (.inr (.inl y))))], [], (fm_u I 24 0 18 3, J, G, fm_P pa pb))) rfl ?_
        exact fm_gRe O rfl trivial (by first | (rw [he]; done) | (rw [he]; rfl) | rfl) (by first | (rw [he]; done) | (rw [he]; rfl) | rfl)
      · have h3 : ¬ (Op.cmpValue (FP.dcmp y FP.dconst0) .l) = 0 := h
        have he := he.trans (if_neg h3)
        have hp := hp.2 h3
        refine fm_gr O 2 (C' := (62, [(0, .inr (.inr (.inr (.inr (24, 0))))), (1, .inl o), (2, .inl t), (3, .inr (.inr (.inr (.inl x)))), (5, .inr (.inr (.inr (.inl y))))], [.inl 2, .inl t], (I, J, G, fm_P pa pb))) rfl ?_
        refine fm_gb O rfl (fun h => ?_) (fun h => ?_)
        · have h4 : t = 2 := h
          have he := he.trans (if_pos h4)
          have hp := hp.1 h4
          refine fm_gr O 2 (C' := (67, [(0, .inr (.inr (.inr (.inr (24, 0))))), (1, .inl o), (2, .inl t), (3, .inr (.inr (.inr (.inl x)))), (5, .inr (.inr (.inr (.inl y))))], [.inr (.inr (.inr (.inl x))), .inl o], (I, J, G, fm_P pa pb))) rfl ?_
          refine fm_gg O rfl hp.1 ?_
          have hp := hp.2
          refine fm_gr O 1 (C' := (70, [(0, .inr (.inr (.inr (.inr (24, 0))))), (1, .inl o), (2, .inl t), (3, .inr (.inr (.inr (.inl x)))), (5, .inr (.inr (.inr (.inl y))))], [.inr (.inr (.inr (.inl y))), .inr (.inr (.inl (FP.d2f x))), .inl o], (I, J, G, fm_P pa pb))) rfl ?_
          refine fm_gg O rfl hp.1 ?_
          have hp := hp.2
          have hc := hp.1
          have hp := hp.2
          have K := fmD_small_c (d := d) hl (by omega) I J G pa pb o (FP.d2f x) (FP.d2f y) hc
          generalize er1 : fmD_small_f o (FP.d2f x) (FP.d2f y) = r1 at he hp
          have he := he.trans (fm_letE _ _)
          have hp := fm_letP hp
          rw [er1] at K
          refine fm_cS0 O fmD_small_o (as := [.inl o, .inr (.inr (.inl (FP.d2f x))), .inr (.inr (.inl (FP.d2f y)))]) (rest := []) (v := some (.inr (.inr (.inl r1)))) rfl fk_6_176 fn_D_small (Nat.le_of_ble_eq_true rfl) (K) ?_
          refine fm_gg O rfl hp.1 ?_
          have hp := hp.2
          refine fm_gr O 3 (C' := (125, [(7, .inr (.inr (.inr (.inl (FP.f2d r1))))), (0, .inr (.inr (.inr (.inr (24, 0))))), (1, .inl o), (2, .inl t), (3, .inr (.inr (.inr (.inl x)))), (5, .inr (.inr (.inr (.inl y))))], [.inr (.inr (.inr (.inl (FP.f2d r1))))], (I, J, G, fm_P pa pb))) rfl ?_
          have K := fmD_large_c (d := d) hl (by omega) I J G pa pb (FP.f2d r1)
          generalize er2 : fmD_large_f (FP.f2d r1) = r2 at he hp
          have he := he.trans (fm_letE _ _)
          have hp := fm_letP hp
          rw [er2] at K
          refine fm_cS0 O fmD_large_o (as := [.inr (.inr (.inr (.inl (FP.f2d r1))))]) (rest := []) (v := some (.inl r2)) rfl fk_6_180 fn_D_large (Nat.le_of_ble_eq_true rfl) (K) ?_
          refine fm_gb O rfl (fun h => ?_) (fun h => ?_)
          · have h5 : r2 = 0 := h
            have he := he.trans (if_pos h5)
            have hp := hp.1 h5
            refine fm_gr O 4 (C' := (144, [(7, .inr (.inr (.inr (.inl (FP.f2d r1))))), (0, .inr (.inr (.inr (.inr (24, 0))))), (1, .inl o), (2, .inl t), (3, .inr (.inr (.inr (.inl x)))), (5, .inr (.inr (.inr (.inl y))))], [.inr (.inr (.inr (.inl (FP.f2d r1)))), .inr (.inl 0), .inl t, .inr (.inr (.inr (.inr (24, 0))))], (I, J, G, fm_P pa pb))) rfl ?_
            have K := fmD_push_c (d := d) hl (by omega) I J G pa pb t 0 (FP.f2d r1) hp
            generalize er3 : fmD_push_f I J G t 0 (FP.f2d r1) = r3 at he
            have he := he.trans (fm_letE _ _)
            rw [er3] at K
            refine fm_cV0 O fmD_push_o (i := 0) (as := [.inl t, .inr (.inl 0), .inr (.inr (.inr (.inl (FP.f2d r1))))]) (rest := []) (v := none) rfl fk_6_172 rfl (by decide) fn_D_push (Nat.le_of_ble_eq_true rfl) (K) ?_
            exact fm_gRe O rfl trivial (by first | (rw [he]; done) | (rw [he]; rfl) | rfl) (by first | (rw [he]; done) | (rw [he]; rfl) | rfl)
          · have h5 : ¬ r2 = 0 := h
            have he := he.trans (if_neg h5)
            refine fm_gr O 4 (C' := (147, [(7, .inr (.inr (.inr (.inl (FP.f2d r1))))), (0, .inr (.inr (.inr (.inr (24, 0))))), (1, .inl o), (2, .inl t), (3, .inr (.inr (.inr (.inl x)))), (5, .inr (.inr (.inr (.inl y))))], [], (fm_u I 24 0 18 3, J, G, fm_P pa pb))) rfl ?_
            exact fm_gRe O rfl trivial (by first | (rw [he]; done) | (rw [he]; rfl) | rfl) (by first | (rw [he]; done) | (rw [he]; rfl) | rfl)
        · have h4 : ¬ t = 2 := h
          have he := he.trans (if_neg h4)
          have hp := hp.2 h4
          refine fm_gr O 2 (C' := (81, [(0, .inr (.inr (.inr (.inr (24, 0))))), (1, .inl o), (2, .inl t), (3, .inr (.inr (.inr (.inl x)))), (5, .inr (.inr (.inr (.inl y))))], [.inl 11, .inl o], (I, J, G, fm_P pa pb))) rfl ?_
          refine fm_gb O rfl (fun h => ?_) (fun h => ?_)
          · have h5 : o = 11 := h
            have he := he.trans (if_pos h5)
            have hp := hp.1 h5
            refine fm_gr O 2 (C' := (87, [(0, .inr (.inr (.inr (.inr (24, 0))))), (1, .inl o), (2, .inl t), (3, .inr (.inr (.inr (.inl x)))), (5, .inr (.inr (.inr (.inl y))))], [.inr (.inr (.inr (.inl y))), .inr (.inr (.inr (.inl x)))], (I, J, G, fm_P pa pb))) rfl ?_
            refine fm_gg O rfl hp.1 ?_
            have hp := hp.2
            refine fm_gr O 3 (C' := (125, [(7, .inr (.inr (.inr (.inl (FP.dadd x y))))), (0, .inr (.inr (.inr (.inr (24, 0))))), (1, .inl o), (2, .inl t), (3, .inr (.inr (.inr (.inl x)))), (5, .inr (.inr (.inr (.inl y))))], [.inr (.inr (.inr (.inl (FP.dadd x y))))], (I, J, G, fm_P pa pb))) rfl ?_
            have K := fmD_large_c (d := d) hl (by omega) I J G pa pb (FP.dadd x y)
            generalize er4 : fmD_large_f (FP.dadd x y) = r4 at he hp
            have he := he.trans (fm_letE _ _)
            have hp := fm_letP hp
            rw [er4] at K
            refine fm_cS0 O fmD_large_o (as := [.inr (.inr (.inr (.inl (FP.dadd x y))))]) (rest := []) (v := some (.inl r4)) rfl fk_6_180 fn_D_large (Nat.le_of_ble_eq_true rfl) (K) ?_
            refine fm_gb O rfl (fun h => ?_) (fun h => ?_)
            · have h6 : r4 = 0 := h
              have he := he.trans (if_pos h6)
              have hp := hp.1 h6
              refine fm_gr O 4 (C' := (144, [(7, .inr (.inr (.inr (.inl (FP.dadd x y))))), (0, .inr (.inr (.inr (.inr (24, 0))))), (1, .inl o), (2, .inl t), (3, .inr (.inr (.inr (.inl x)))), (5, .inr (.inr (.inr (.inl y))))], [.inr (.inr (.inr (.inl (FP.dadd x y)))), .inr (.inl 0), .inl t, .inr (.inr (.inr (.inr (24, 0))))], (I, J, G, fm_P pa pb))) rfl ?_
              have K := fmD_push_c (d := d) hl (by omega) I J G pa pb t 0 (FP.dadd x y) hp
              generalize er5 : fmD_push_f I J G t 0 (FP.dadd x y) = r5 at he
              have he := he.trans (fm_letE _ _)
              rw [er5] at K
              refine fm_cV0 O fmD_push_o (i := 0) (as := [.inl t, .inr (.inl 0), .inr (.inr (.inr (.inl (FP.dadd x y))))]) (rest := []) (v := none) rfl fk_6_172 rfl (by decide) fn_D_push (Nat.le_of_ble_eq_true rfl) (K) ?_
              exact fm_gRe O rfl trivial (by first | (rw [he]; done) | (rw [he]; rfl) | rfl) (by first | (rw [he]; done) | (rw [he]; rfl) | rfl)
            · have h6 : ¬ r4 = 0 := h
              have he := he.trans (if_neg h6)
              refine fm_gr O 4 (C' := (147, [(7, .inr (.inr (.inr (.inl (FP.dadd x y))))), (0, .inr (.inr (.inr (.inr (24, 0))))), (1, .inl o), (2, .inl t), (3, .inr (.inr (.inr (.inl x)))), (5, .inr (.inr (.inr (.inl y))))], [], (fm_u I 24 0 18 3, J, G, fm_P pa pb))) rfl ?_
              exact fm_gRe O rfl trivial (by first | (rw [he]; done) | (rw [he]; rfl) | rfl) (by first | (rw [he]; done) | (rw [he]; rfl) | rfl)
          · have h5 : ¬ o = 11 := h
            have he := he.trans (if_neg h5)
            have hp := hp.2 h5
            refine fm_gr O 2 (C' := (94, [(0, .inr (.inr (.inr (.inr (24, 0))))), (1, .inl o), (2, .inl t), (3, .inr (.inr (.inr (.inl x)))), (5, .inr (.inr (.inr (.inl y))))], [.inl 12, .inl o], (I, J, G, fm_P pa pb))) rfl ?_
            refine fm_gb O rfl (fun h => ?_) (fun h => ?_)
            · have h6 : o = 12 := h
              have he := he.trans (if_pos h6)
              have hp := hp.1 h6
              refine fm_gr O 2 (C' := (100, [(0, .inr (.inr (.inr (.inr (24, 0))))), (1, .inl o), (2, .inl t), (3, .inr (.inr (.inr (.inl x)))), (5, .inr (.inr (.inr (.inl y))))], [.inr (.inr (.inr (.inl y))), .inr (.inr (.inr (.inl x)))], (I, J, G, fm_P pa pb))) rfl ?_
              refine fm_gg O rfl hp.1 ?_
              have hp := hp.2
              refine fm_gr O 3 (C' := (125, [(7, .inr (.inr (.inr (.inl (FP.dsub x y))))), (0, .inr (.inr (.inr (.inr (24, 0))))), (1, .inl o), (2, .inl t), (3, .inr (.inr (.inr (.inl x)))), (5, .inr (.inr (.inr (.inl y))))], [.inr (.inr (.inr (.inl (FP.dsub x y))))], (I, J, G, fm_P pa pb))) rfl ?_
              have K := fmD_large_c (d := d) hl (by omega) I J G pa pb (FP.dsub x y)
              generalize er6 : fmD_large_f (FP.dsub x y) = r6 at he hp
              have he := he.trans (fm_letE _ _)
              have hp := fm_letP hp
              rw [er6] at K
              refine fm_cS0 O fmD_large_o (as := [.inr (.inr (.inr (.inl (FP.dsub x y))))]) (rest := []) (v := some (.inl r6)) rfl fk_6_180 fn_D_large (Nat.le_of_ble_eq_true rfl) (K) ?_
              refine fm_gb O rfl (fun h => ?_) (fun h => ?_)
              · have h7 : r6 = 0 := h
                have he := he.trans (if_pos h7)
                have hp := hp.1 h7
                refine fm_gr O 4 (C' := (144, [(7, .inr (.inr (.inr (.inl (FP.dsub x y))))), (0, .inr (.inr (.inr (.inr (24, 0))))), (1, .inl o), (2, .inl t), (3, .inr (.inr (.inr (.inl x)))), (5, .inr (.inr (.inr (.inl y))))], [.inr (.inr (.inr (.inl (FP.dsub x y)))), .inr (.inl 0), .inl t, .inr (.inr (.inr (.inr (24, 0))))], (I, J, G, fm_P pa pb))) rfl ?_
                have K := fmD_push_c (d := d) hl (by omega) I J G pa pb t 0 (FP.dsub x y) hp
                generalize er7 : fmD_push_f I J G t 0 (FP.dsub x y) = r7 at he
                have he := he.trans (fm_letE _ _)
                rw [er7] at K
                refine fm_cV0 O fmD_push_o (i := 0) (as := [.inl t, .inr (.inl 0), .inr (.inr (.inr (.inl (FP.dsub x y))))]) (rest := []) (v := none) rfl fk_6_172 rfl (by decide) fn_D_push (Nat.le_of_ble_eq_true rfl) (K) ?_
                exact fm_gRe O rfl trivial (by first | (rw [he]; done) | (rw [he]; rfl) | rfl) (by first | (rw [he]; done) | (rw [he]; rfl) | rfl)
              · have h7 : ¬ r6 = 0 := h
                have he := he.trans (if_neg h7)
                refine fm_gr O 4 (C' := (147, [(7, .inr (.inr (.inr (.inl (FP.dsub x y))))), (0, .inr (.inr (.inr (.inr (24, 0))))), (1, .inl o), (2, .inl t), (3, .inr (.inr (.inr (.inl x)))), (5, .inr (.inr (.inr (.inl y))))], [], (fm_u I 24 0 18 3, J, G, fm_P pa pb))) rfl ?_
                exact fm_gRe O rfl trivial (by first | (rw [he]; done) | (rw [he]; rfl) | rfl) (by first | (rw [he]; done) | (rw [he]; rfl) | rfl)
            · have h6 : ¬ o = 12 := h
              have he := he.trans (if_neg h6)
              have hp := hp.2 h6
              refine fm_gr O 2 (C' := (107, [(0, .inr (.inr (.inr (.inr (24, 0))))), (1, .inl o), (2, .inl t), (3, .inr (.inr (.inr (.inl x)))), (5, .inr (.inr (.inr (.inl y))))], [.inl 13, .inl o], (I, J, G, fm_P pa pb))) rfl ?_
              refine fm_gb O rfl (fun h => ?_) (fun h => ?_)
              · have h7 : o = 13 := h
                have he := he.trans (if_pos h7)
                have hp := hp.1 h7
                refine fm_gr O 2 (C' := (113, [(0, .inr (.inr (.inr (.inr (24, 0))))), (1, .inl o), (2, .inl t), (3, .inr (.inr (.inr (.inl x)))), (5, .inr (.inr (.inr (.inl y))))], [.inr (.inr (.inr (.inl y))), .inr (.inr (.inr (.inl x)))], (I, J, G, fm_P pa pb))) rfl ?_
                refine fm_gg O rfl hp.1 ?_
                have hp := hp.2
                refine fm_gr O 3 (C' := (125, [(7, .inr (.inr (.inr (.inl (FP.dmul x y))))), (0, .inr (.inr (.inr (.inr (24, 0))))), (1, .inl o), (2, .inl t), (3, .inr (.inr (.inr (.inl x)))), (5, .inr (.inr (.inr (.inl y))))], [.inr (.inr (.inr (.inl (FP.dmul x y))))], (I, J, G, fm_P pa pb))) rfl ?_
                have K := fmD_large_c (d := d) hl (by omega) I J G pa pb (FP.dmul x y)
                generalize er8 : fmD_large_f (FP.dmul x y) = r8 at he hp
                have he := he.trans (fm_letE _ _)
                have hp := fm_letP hp
                rw [er8] at K
                refine fm_cS0 O fmD_large_o (as := [.inr (.inr (.inr (.inl (FP.dmul x y))))]) (rest := []) (v := some (.inl r8)) rfl fk_6_180 fn_D_large (Nat.le_of_ble_eq_true rfl) (K) ?_
                refine fm_gb O rfl (fun h => ?_) (fun h => ?_)
                · have h8 : r8 = 0 := h
                  have he := he.trans (if_pos h8)
                  have hp := hp.1 h8
                  refine fm_gr O 4 (C' := (144, [(7, .inr (.inr (.inr (.inl (FP.dmul x y))))), (0, .inr (.inr (.inr (.inr (24, 0))))), (1, .inl o), (2, .inl t), (3, .inr (.inr (.inr (.inl x)))), (5, .inr (.inr (.inr (.inl y))))], [.inr (.inr (.inr (.inl (FP.dmul x y)))), .inr (.inl 0), .inl t, .inr (.inr (.inr (.inr (24, 0))))], (I, J, G, fm_P pa pb))) rfl ?_
                  have K := fmD_push_c (d := d) hl (by omega) I J G pa pb t 0 (FP.dmul x y) hp
                  generalize er9 : fmD_push_f I J G t 0 (FP.dmul x y) = r9 at he
                  have he := he.trans (fm_letE _ _)
                  rw [er9] at K
                  refine fm_cV0 O fmD_push_o (i := 0) (as := [.inl t, .inr (.inl 0), .inr (.inr (.inr (.inl (FP.dmul x y))))]) (rest := []) (v := none) rfl fk_6_172 rfl (by decide) fn_D_push (Nat.le_of_ble_eq_true rfl) (K) ?_
                  exact fm_gRe O rfl trivial (by first | (rw [he]; done) | (rw [he]; rfl) | rfl) (by first | (rw [he]; done) | (rw [he]; rfl) | rfl)
                · have h8 : ¬ r8 = 0 := h
                  have he := he.trans (if_neg h8)
                  refine fm_gr O 4 (C' := (147, [(7, .inr (.inr (.inr (.inl (FP.dmul x y))))), (0, .inr (.inr (.inr (.inr (24, 0))))), (1, .inl o), (2, .inl t), (3, .inr (.inr (.inr (.inl x)))), (5, .inr (.inr (.inr (.inl y))))], [], (fm_u I 24 0 18 3, J, G, fm_P pa pb))) rfl ?_
                  exact fm_gRe O rfl trivial (by first | (rw [he]; done) | (rw [he]; rfl) | rfl) (by first | (rw [he]; done) | (rw [he]; rfl) | rfl)
              · have h7 : ¬ o = 13 := h
                have he := he.trans (if_neg h7)
                have hp := hp.2 h7
                refine fm_gr O 2 (C' := (120, [(0, .inr (.inr (.inr (.inr (24, 0))))), (1, .inl o), (2, .inl t), (3, .inr (.inr (.inr (.inl x)))), (5, .inr (.inr (.inr (.inl y))))], [.inr (.inr (.inr (.inl y))), .inr (.inr (.inr (.inl x)))], (I, J, G, fm_P pa pb))) rfl ?_
                refine fm_gg O rfl hp.1 ?_
                have hp := hp.2
                refine fm_gr O 2 (C' := (125, [(7, .inr (.inr (.inr (.inl (FP.ddiv x y))))), (0, .inr (.inr (.inr (.inr (24, 0))))), (1, .inl o), (2, .inl t), (3, .inr (.inr (.inr (.inl x)))), (5, .inr (.inr (.inr (.inl y))))], [.inr (.inr (.inr (.inl (FP.ddiv x y))))], (I, J, G, fm_P pa pb))) rfl ?_
                have K := fmD_large_c (d := d) hl (by omega) I J G pa pb (FP.ddiv x y)
                generalize er10 : fmD_large_f (FP.ddiv x y) = r10 at he hp
                have he := he.trans (fm_letE _ _)
                have hp := fm_letP hp
                rw [er10] at K
                refine fm_cS0 O fmD_large_o (as := [.inr (.inr (.inr (.inl (FP.ddiv x y))))]) (rest := []) (v := some (.inl r10)) rfl fk_6_180 fn_D_large (Nat.le_of_ble_eq_true rfl) (K) ?_
                refine fm_gb O rfl (fun h => ?_) (fun h => ?_)
                · have h8 : r10 = 0 := h
                  have he := he.trans (if_pos h8)
                  have hp := hp.1 h8
                  refine fm_gr O 4 (C' := (144, [(7, .inr (.inr (.inr (.inl (FP.ddiv x y))))), (0, .inr (.inr (.inr (.inr (24, 0))))), (1, .inl o), (2, .inl t), (3, .inr (.inr (.inr (.inl x)))), (5, .inr (.inr (.inr (.inl y))))], [.inr (.inr (.inr (.inl (FP.ddiv x y)))), .inr (.inl 0), .inl t, .inr (.inr (.inr (.inr (24, 0))))], (I, J, G, fm_P pa pb))) rfl ?_
                  have K := fmD_push_c (d := d) hl (by omega) I J G pa pb t 0 (FP.ddiv x y) hp
                  generalize er11 : fmD_push_f I J G t 0 (FP.ddiv x y) = r11 at he
                  have he := he.trans (fm_letE _ _)
                  rw [er11] at K
                  refine fm_cV0 O fmD_push_o (i := 0) (as := [.inl t, .inr (.inl 0), .inr (.inr (.inr (.inl (FP.ddiv x y))))]) (rest := []) (v := none) rfl fk_6_172 rfl (by decide) fn_D_push (Nat.le_of_ble_eq_true rfl) (K) ?_
                  exact fm_gRe O rfl trivial (by first | (rw [he]; done) | (rw [he]; rfl) | rfl) (by first | (rw [he]; done) | (rw [he]; rfl) | rfl)
                · have h8 : ¬ r10 = 0 := h
                  have he := he.trans (if_neg h8)
                  refine fm_gr O 4 (C' := (147, [(7, .inr (.inr (.inr (.inl (FP.ddiv x y))))), (0, .inr (.inr (.inr (.inr (24, 0))))), (1, .inl o), (2, .inl t), (3, .inr (.inr (.inr (.inl x)))), (5, .inr (.inr (.inr (.inl y))))], [], (fm_u I 24 0 18 3, J, G, fm_P pa pb))) rfl ?_
                  exact fm_gRe O rfl trivial (by first | (rw [he]; done) | (rw [he]; rfl) | rfl) (by first | (rw [he]; done) | (rw [he]; rfl) | rfl)
    · have h2 : ¬ o = 14 := h
      have he := he.trans (if_neg h2)
      have hp := hp.2 h2
      refine fm_gr O 2 (C' := (62, [(0, .inr (.inr (.inr (.inr (24, 0))))), (1, .inl o), (2, .inl t), (3, .inr (.inr (.inr (.inl x)))), (5, .inr (.inr (.inr (.inl y))))], [.inl 2, .inl t], (I, J, G, fm_P pa pb))) rfl ?_
      refine fm_gb O rfl (fun h => ?_) (fun h => ?_)
      · have h3 : t = 2 := h
        have he := he.trans (if_pos h3)
        have hp := hp.1 h3
        refine fm_gr O 2 (C' := (67, [(0, .inr (.inr (.inr (.inr (24, 0))))), (1, .inl o), (2, .inl t), (3, .inr (.inr (.inr (.inl x)))), (5, .inr (.inr (.inr (.inl y))))], [.inr (.inr (.inr (.inl x))), .inl o], (I, J, G, fm_P pa pb))) rfl ?_
        refine fm_gg O rfl hp.1 ?_
        have hp := hp.2
        refine fm_gr O 1 (C' := (70, [(0, .inr (.inr (.inr (.inr (24, 0))))), (1, .inl o), (2, .inl t), (3, .inr (.inr (.inr (.inl x)))), (5, .inr (.inr (.inr (.inl y))))], [.inr (.inr (.inr (.inl y))), .inr (.inr (.inl (FP.d2f x))), .inl o], (I, J, G, fm_P pa pb))) rfl ?_
        refine fm_gg O rfl hp.1 ?_
        have hp := hp.2
        have hc := hp.1
        have hp := hp.2
        have K := fmD_small_c (d := d) hl (by omega) I J G pa pb o (FP.d2f x) (FP.d2f y) hc
        generalize er12 : fmD_small_f o (FP.d2f x) (FP.d2f y) = r12 at he hp
        have he := he.trans (fm_letE _ _)
        have hp := fm_letP hp
        rw [er12] at K
        refine fm_cS0 O fmD_small_o (as := [.inl o, .inr (.inr (.inl (FP.d2f x))), .inr (.inr (.inl (FP.d2f y)))]) (rest := []) (v := some (.inr (.inr (.inl r12)))) rfl fk_6_176 fn_D_small (Nat.le_of_ble_eq_true rfl) (K) ?_
        refine fm_gg O rfl hp.1 ?_
        have hp := hp.2
        refine fm_gr O 3 (C' := (125, [(7, .inr (.inr (.inr (.inl (FP.f2d r12))))), (0, .inr (.inr (.inr (.inr (24, 0))))), (1, .inl o), (2, .inl t), (3, .inr (.inr (.inr (.inl x)))), (5, .inr (.inr (.inr (.inl y))))], [.inr (.inr (.inr (.inl (FP.f2d r12))))], (I, J, G, fm_P pa pb))) rfl ?_
        have K := fmD_large_c (d := d) hl (by omega) I J G pa pb (FP.f2d r12)
        generalize er13 : fmD_large_f (FP.f2d r12) = r13 at he hp
        have he := he.trans (fm_letE _ _)
        have hp := fm_letP hp
        rw [er13] at K
        refine fm_cS0 O fmD_large_o (as := [.inr (.inr (.inr (.inl (FP.f2d r12))))]) (rest := []) (v := some (.inl r13)) rfl fk_6_180 fn_D_large (Nat.le_of_ble_eq_true rfl) (K) ?_
        refine fm_gb O rfl (fun h => ?_) (fun h => ?_)
        · have h4 : r13 = 0 := h
          have he := he.trans (if_pos h4)
          have hp := hp.1 h4
          refine fm_gr O 4 (C' := (144, [(7, .inr (.inr (.inr (.inl (FP.f2d r12))))), (0, .inr (.inr (.inr (.inr (24, 0))))), (1, .inl o), (2, .inl t), (3, .inr (.inr (.inr (.inl x)))), (5, .inr (.inr (.inr (.inl y))))], [.inr (.inr (.inr (.inl (FP.f2d r12)))), .inr (.inl 0), .inl t, .inr (.inr (.inr (.inr (24, 0))))], (I, J, G, fm_P pa pb))) rfl ?_
          have K := fmD_push_c (d := d) hl (by omega) I J G pa pb t 0 (FP.f2d r12) hp
          generalize er14 : fmD_push_f I J G t 0 (FP.f2d r12) = r14 at he
          have he := he.trans (fm_letE _ _)
          rw [er14] at K
          refine fm_cV0 O fmD_push_o (i := 0) (as := [.inl t, .inr (.inl 0), .inr (.inr (.inr (.inl (FP.f2d r12))))]) (rest := []) (v := none) rfl fk_6_172 rfl (by decide) fn_D_push (Nat.le_of_ble_eq_true rfl) (K) ?_
          exact fm_gRe O rfl trivial (by first | (rw [he]; done) | (rw [he]; rfl) | rfl) (by first | (rw [he]; done) | (rw [he]; rfl) | rfl)
        · have h4 : ¬ r13 = 0 := h
          have he := he.trans (if_neg h4)
          refine fm_gr O 4 (C' := (147, [(7, .inr (.inr (.inr (.inl (FP.f2d r12))))), (0, .inr (.inr (.inr (.inr (24, 0))))), (1, .inl o), (2, .inl t), (3, .inr (.inr (.inr (.inl x)))), (5, .inr (.inr (.inr (.inl y))))], [], (fm_u I 24 0 18 3, J, G, fm_P pa pb))) rfl ?_
          exact fm_gRe O rfl trivial (by first | (rw [he]; done) | (rw [he]; rfl) | rfl) (by first | (rw [he]; done) | (rw [he]; rfl) | rfl)
      · have h3 : ¬ t = 2 := h
        have he := he.trans (if_neg h3)
        have hp := hp.2 h3
        refine fm_gr O 2 (C' := (81, [(0, .inr (.inr (.inr (.inr (24, 0))))), (1, .inl o), (2, .inl t), (3, .inr (.inr (.inr (.inl x)))), (5, .inr (.inr (.inr (.inl y))))], [.inl 11, .inl o], (I, J, G, fm_P pa pb))) rfl ?_
        refine fm_gb O rfl (fun h => ?_) (fun h => ?_)
        · have h4 : o = 11 := h
          have he := he.trans (if_pos h4)
          have hp := hp.1 h4
          refine fm_gr O 2 (C' := (87, [(0, .inr (.inr (.inr (.inr (24, 0))))), (1, .inl o), (2, .inl t), (3, .inr (.inr (.inr (.inl x)))), (5, .inr (.inr (.inr (.inl y))))], [.inr (.inr (.inr (.inl y))), .inr (.inr (.inr (.inl x)))], (I, J, G, fm_P pa pb))) rfl ?_
          refine fm_gg O rfl hp.1 ?_
          have hp := hp.2
          refine fm_gr O 3 (C' := (125, [(7, .inr (.inr (.inr (.inl (FP.dadd x y))))), (0, .inr (.inr (.inr (.inr (24, 0))))), (1, .inl o), (2, .inl t), (3, .inr (.inr (.inr (.inl x)))), (5, .inr (.inr (.inr (.inl y))))], [.inr (.inr (.inr (.inl (FP.dadd x y))))], (I, J, G, fm_P pa pb))) rfl ?_
          have K := fmD_large_c (d := d) hl (by omega) I J G pa pb (FP.dadd x y)
          generalize er15 : fmD_large_f (FP.dadd x y) = r15 at he hp
          have he := he.trans (fm_letE _ _)
          have hp := fm_letP hp
          rw [er15] at K
          refine fm_cS0 O fmD_large_o (as := [.inr (.inr (.inr (.inl (FP.dadd x y))))]) (rest := []) (v := some (.inl r15)) rfl fk_6_180 fn_D_large (Nat.le_of_ble_eq_true rfl) (K) ?_
          refine fm_gb O rfl (fun h => ?_) (fun h => ?_)
          · have h5 : r15 = 0 := h
            have he := he.trans (if_pos h5)
            have hp := hp.1 h5
            refine fm_gr O 4 (C' := (144, [(7, .inr (.inr (.inr (.inl (FP.dadd x y))))), (0, .inr (.inr (.inr (.inr (24, 0))))), (1, .inl o), (2, .inl t), (3, .inr (.inr (.inr (.inl x)))), (5, .inr (.inr (.inr (.inl y))))], [.inr (.inr (.inr (.inl (FP.dadd x y)))), .inr (.inl 0), .inl t, .inr (.inr (.inr (.inr (24, 0))))], (I, J, G, fm_P pa pb))) rfl ?_
            have K := fmD_push_c (d := d) hl (by omega) I J G pa pb t 0 (FP.dadd x y) hp
            generalize er16 : fmD_push_f I J G t 0 (FP.dadd x y) = r16 at he
            have he := he.trans (fm_letE _ _)
            rw [er16] at K
            refine fm_cV0 O fmD_push_o (i := 0) (as := [.inl t, .inr (.inl 0), .inr (.inr (.inr (.inl (FP.dadd x y))))]) (rest := []) (v := none) rfl fk_6_172 rfl (by decide) fn_D_push (Nat.le_of_ble_eq_true rfl) (K) ?_
            exact fm_gRe O rfl trivial (by first | (rw [he]; done) | (rw [he]; rfl) | rfl) (by first | (rw [he]; done) | (rw [he]; rfl) | rfl)
          · have h5 : ¬ r15 = 0 := h
            have he := he.trans (if_neg h5)
            refine fm_gr O 4 (C' := (147, [(7, .inr (.inr (.inr (.inl (FP.dadd x y))))), (0, .inr (.inr (.inr (.inr (24, 0))))), (1, .inl o), (2, .inl t), (3, .inr (.inr (.inr (.inl x)))), (5, .inr (.inr (.inr (.inl y))))], [], (fm_u I 24 0 18 3, J, G, fm_P pa pb))) rfl ?_
            exact fm_gRe O rfl trivial (by first | (rw [he]; done) | (rw [he]; rfl) | rfl) (by first | (rw [he]; done) | (rw [he]; rfl) | rfl)
        · have h4 : ¬ o = 11 := h
          have he := he.trans (if_neg h4)
          have hp := hp.2 h4
          refine fm_gr O 2 (C' := (94, [(0, .inr (.inr (.inr (.inr (24, 0))))), (1, .inl o), (2, .inl t), (3, .inr (.inr (.inr (.inl x)))), (5, .inr (.inr (.inr (.inl y))))], [.inl 12, .inl o], (I, J, G, fm_P pa pb))) rfl ?_
          refine fm_gb O rfl (fun h => ?_) (fun h => ?_)
          · have h5 : o = 12 := h
            have he := he.trans (if_pos h5)
            have hp := hp.1 h5
            refine fm_gr O 2 (C' := (100, [(0, .inr (.inr (.inr (.inr (24, 0))))), (1, .inl o), (2, .inl t), (3, .inr (.inr (.inr (.inl x)))), (5, .inr (.inr (.inr (.inl y))))], [.inr (.inr (.inr (.inl y))), .inr (.inr (.inr (.inl x)))], (I, J, G, fm_P pa pb))) rfl ?_
            refine fm_gg O rfl hp.1 ?_
            have hp := hp.2
            refine fm_gr O 3 (C' := (125, [(7, .inr (.inr (.inr (.inl (FP.dsub x y))))), (0, .inr (.inr (.inr (.inr (24, 0))))), (1, .inl o), (2, .inl t), (3, .inr (.inr (.inr (.inl x)))), (5, .inr (.inr (.inr (.inl y))))], [.inr (.inr (.inr (.inl (FP.dsub x y))))], (I, J, G, fm_P pa pb))) rfl ?_
            have K := fmD_large_c (d := d) hl (by omega) I J G pa pb (FP.dsub x y)
            generalize er17 : fmD_large_f (FP.dsub x y) = r17 at he hp
            have he := he.trans (fm_letE _ _)
            have hp := fm_letP hp
            rw [er17] at K
            refine fm_cS0 O fmD_large_o (as := [.inr (.inr (.inr (.inl (FP.dsub x y))))]) (rest := []) (v := some (.inl r17)) rfl fk_6_180 fn_D_large (Nat.le_of_ble_eq_true rfl) (K) ?_
            refine fm_gb O rfl (fun h => ?_) (fun h => ?_)
            · have h6 : r17 = 0 := h
              have he := he.trans (if_pos h6)
              have hp := hp.1 h6
              refine fm_gr O 4 (C' := (144, [(7, .inr (.inr (.inr (.inl (FP.dsub x y))))), (0, .inr (.inr (.inr (.inr (24, 0))))), (1, .inl o), (2, .inl t), (3, .inr (.inr (.inr (.inl x)))), (5, .inr (.inr (.inr (.inl y))))], [.inr (.inr (.inr (.inl (FP.dsub x y)))), .inr (.inl 0), .inl t, .inr (.inr (.inr (.inr (24, 0))))], (I, J, G, fm_P pa pb))) rfl ?_
              have K := fmD_push_c (d := d) hl (by omega) I J G pa pb t 0 (FP.dsub x y) hp
              generalize er18 : fmD_push_f I J G t 0 (FP.dsub x y) = r18 at he
              have he := he.trans (fm_letE _ _)
              rw [er18] at K
              refine fm_cV0 O fmD_push_o (i := 0) (as := [.inl t, .inr (.inl 0), .inr (.inr (.inr (.inl (FP.dsub x y))))]) (rest := []) (v := none) rfl fk_6_172 rfl (by decide) fn_D_push (Nat.le_of_ble_eq_true rfl) (K) ?_
              exact fm_gRe O rfl trivial (by first | (rw [he]; done) | (rw [he]; rfl) | rfl) (by first | (rw [he]; done) | (rw [he]; rfl) | rfl)
            · have h6 : ¬ r17 = 0 := h
              have he := he.trans (if_neg h6)
              refine fm_gr O 4 (C' := (147, [(7, .inr (.inr (.inr (.inl (FP.dsub x y))))), (0, .inr (.inr (.inr (.inr (24, 0))))), (1, .inl o), (2, .inl t), (3, .inr (.inr (.inr (.inl x)))), (5, .inr (.inr (.inr (.inl y))))], [], (fm_u I 24 0 18 3, J, G, fm_P pa pb))) rfl ?_
              exact fm_gRe O rfl trivial (by first | (rw [he]; done) | (rw [he]; rfl) | rfl) (by first | (rw [he]; done) | (rw [he]; rfl) | rfl)
          · have h5 : ¬ o = 12 := h
            have he := he.trans (if_neg h5)
            have hp := hp.2 h5
            refine fm_gr O 2 (C' := (107, [(0, .inr (.inr (.inr (.inr (24, 0))))), (1, .inl o), (2, .inl t), (3, .inr (.inr (.inr (.inl x)))), (5, .inr (.inr (.inr (.inl y))))], [.inl 13, .inl o], (I, J, G, fm_P pa pb))) rfl ?_
            refine fm_gb O rfl (fun h => ?_) (fun h => ?_)
            · have h6 : o = 13 := h
              have he := he.trans (if_pos h6)
              have hp := hp.1 h6
              refine fm_gr O 2 (C' := (113, [(0, .inr (.inr (.inr (.inr (24, 0))))), (1, .inl o), (2, .inl t), (3, .inr (.inr (.inr (.inl x)))), (5, .inr (.inr (.inr (.inl y))))], [.inr (.inr (.inr (.inl y))), .inr (.inr (.inr (.inl x)))], (I, J, G, fm_P pa pb))) rfl ?_
              refine fm_gg O rfl hp.1 ?_
              have hp := hp.2
              refine fm_gr O 3 (C' := (125, [(7, .inr (.inr (.inr (.inl (FP.dmul x y))))), (0, .inr (.inr (.inr (.inr (24, 0))))), (1, .inl o), (2, .inl t), (3, .inr (.inr (.inr (.inl x)))), (5, .inr (.inr (.inr (.inl y))))], [.inr (.inr (.inr (.inl (FP.dmul x y))))], (I, J, G, fm_P pa pb))) rfl ?_
              have K := fmD_large_c (d := d) hl (by omega) I J G pa pb (FP.dmul x y)
              generalize er19 : fmD_large_f (FP.dmul x y) = r19 at he hp
              have he := he.trans (fm_letE _ _)
              have hp := fm_letP hp
              rw [er19] at K
              refine fm_cS0 O fmD_large_o (as := [.inr (.inr (.inr (.inl (FP.dmul x y))))]) (rest := []) (v := some (.inl r19)) rfl fk_6_180 fn_D_large (Nat.le_of_ble_eq_true rfl) (K) ?_
              refine fm_gb O rfl (fun h => ?_) (fun h => ?_)
              · have h7 : r19 = 0 := h
                have he := he.trans (if_pos h7)
                have hp := hp.1 h7
                refine fm_gr O 4 (C' := (144, [(7, .inr (.inr (.inr (.inl (FP.dmul x y))))), (0, .inr (.inr (.inr (.inr (24, 0))))), (1, .inl o), (2, .inl t), (3, .inr (.inr (.inr (.inl x)))), (5, .inr (.inr (.inr (.inl y))))], [.inr (.inr (.inr (.inl (FP.dmul x y)))), .inr (.inl 0), .inl t, .inr (.inr (.inr (.inr (24, 0))))], (I, J, G, fm_P pa pb))) rfl ?_
                have K := fmD_push_c (d := d) hl (by omega) I J G pa pb t 0 (FP.dmul x y) hp
                generalize er20 : fmD_push_f I J G t 0 (FP.dmul x y) = r20 at he
                have he := he.trans (fm_letE _ _)
                rw [er20] at K
                refine fm_cV0 O fmD_push_o (i := 0) (as := [.inl t, .inr (.inl 0), .inr (.inr (.inr (.inl (FP.dmul x y))))]) (rest := []) (v := none) rfl fk_6_172 rfl (by decide) fn_D_push (Nat.le_of_ble_eq_true rfl) (K) ?_
                exact fm_gRe O rfl trivial (by first | (rw [he]; done) | (rw [he]; rfl) | rfl) (by first | (rw [he]; done) | (rw [he]; rfl) | rfl)
              · have h7 : ¬ r19 = 0 := h
                have he := he.trans (if_neg h7)
                refine fm_gr O 4 (C' := (147, [(7, .inr (.inr (.inr (.inl (FP.dmul x y))))), (0, .inr (.inr (.inr (.inr (24, 0))))), (1, .inl o), (2, .inl t), (3, .inr (.inr (.inr (.inl x)))), (5, .inr (.inr (.inr (.inl y))))], [], (fm_u I 24 0 18 3, J, G, fm_P pa pb))) rfl ?_
                exact fm_gRe O rfl trivial (by first | (rw [he]; done) | (rw [he]; rfl) | rfl) (by first | (rw [he]; done) | (rw [he]; rfl) | rfl)
            · have h6 : ¬ o = 13 := h
              have he := he.trans (if_neg h6)
              have hp := hp.2 h6
              refine fm_gr O 2 (C' := (120, [(0, .inr (.inr (.inr (.inr (24, 0))))), (1, .inl o), (2, .inl t), (3, .inr (.inr (.inr (.inl x)))), (5, .inr (.inr (.inr (.inl y))))], [.inr (.inr (.inr (.inl y))), .inr (.inr (.inr (.inl x)))], (I, J, G, fm_P pa pb))) rfl ?_
              refine fm_gg O rfl hp.1 ?_
              have hp := hp.2
              refine fm_gr O 2 (C' := (125, [(7, .inr (.inr (.inr (.inl (FP.ddiv x y))))), (0, .inr (.inr (.inr (.inr (24, 0))))), (1, .inl o), (2, .inl t), (3, .inr (.inr (.inr (.inl x)))), (5, .inr (.inr (.inr (.inl y))))], [.inr (.inr (.inr (.inl (FP.ddiv x y))))], (I, J, G, fm_P pa pb))) rfl ?_
              have K := fmD_large_c (d := d) hl (by omega) I J G pa pb (FP.ddiv x y)
              generalize er21 : fmD_large_f (FP.ddiv x y) = r21 at he hp
              have he := he.trans (fm_letE _ _)
              have hp := fm_letP hp
              rw [er21] at K
              refine fm_cS0 O fmD_large_o (as := [.inr (.inr (.inr (.inl (FP.ddiv x y))))]) (rest := []) (v := some (.inl r21)) rfl fk_6_180 fn_D_large (Nat.le_of_ble_eq_true rfl) (K) ?_
              refine fm_gb O rfl (fun h => ?_) (fun h => ?_)
              · have h7 : r21 = 0 := h
                have he := he.trans (if_pos h7)
                have hp := hp.1 h7
                refine fm_gr O 4 (C' := (144, [(7, .inr (.inr (.inr (.inl (FP.ddiv x y))))), (0, .inr (.inr (.inr (.inr (24, 0))))), (1, .inl o), (2, .inl t), (3, .inr (.inr (.inr (.inl x)))), (5, .inr (.inr (.inr (.inl y))))], [.inr (.inr (.inr (.inl (FP.ddiv x y)))), .inr (.inl 0), .inl t, .inr (.inr (.inr (.inr (24, 0))))], (I, J, G, fm_P pa pb))) rfl ?_
                have K := fmD_push_c (d := d) hl (by omega) I J G pa pb t 0 (FP.ddiv x y) hp
                generalize er22 : fmD_push_f I J G t 0 (FP.ddiv x y) = r22 at he
                have he := he.trans (fm_letE _ _)
                rw [er22] at K
                refine fm_cV0 O fmD_push_o (i := 0) (as := [.inl t, .inr (.inl 0), .inr (.inr (.inr (.inl (FP.ddiv x y))))]) (rest := []) (v := none) rfl fk_6_172 rfl (by decide) fn_D_push (Nat.le_of_ble_eq_true rfl) (K) ?_
                exact fm_gRe O rfl trivial (by first | (rw [he]; done) | (rw [he]; rfl) | rfl) (by first | (rw [he]; done) | (rw [he]; rfl) | rfl)
              · have h7 : ¬ r21 = 0 := h
                have he := he.trans (if_neg h7)
                refine fm_gr O 4 (C' := (147, [(7, .inr (.inr (.inr (.inl (FP.ddiv x y))))), (0, .inr (.inr (.inr (.inr (24, 0))))), (1, .inl o), (2, .inl t), (3, .inr (.inr (.inr (.inl x)))), (5, .inr (.inr (.inr (.inl y))))], [], (fm_u I 24 0 18 3, J, G, fm_P pa pb))) rfl ?_
                exact fm_gRe O rfl trivial (by first | (rw [he]; done) | (rw [he]; rfl) | rfl) (by first | (rw [he]; done) | (rw [he]; rfl) | rfl)
  · have h1 : ¬ o ≤ 17 := h
    have he := he.trans (if_neg h1)
    have hp := hp.2 h1
    refine fm_gr O 4 (C' := (11, [(0, .inr (.inr (.inr (.inr (24, 0))))), (1, .inl o), (2, .inl t), (3, .inr (.inr (.inr (.inl x)))), (5, .inr (.inr (.inr (.inl y))))], [.inl 18, .inl o, .inl 0, .inr (.inr (.inr (.inr (24, 0))))], (I, J, G, fm_P pa pb))) rfl ?_
    refine fm_gb O rfl (fun h => ?_) (fun h => ?_)
    · have h2 : o = 18 := h
      have he := he.trans (if_pos h2)
      have hp := hp.1 h2
      refine fm_gr O 3 (C' := (18, [(0, .inr (.inr (.inr (.inr (24, 0))))), (1, .inl o), (2, .inl t), (3, .inr (.inr (.inr (.inl x)))), (5, .inr (.inr (.inr (.inl y))))], [.inl (Op.cmpValue (FP.dcmp x y) .g), .inl 0, .inr (.inr (.inr (.inr (24, 0))))], (I, J, G, fm_P pa pb))) rfl ?_
      refine fm_gb O rfl (fun h => ?_) (fun h => ?_)
      · have h3 : 0 ≤ (Op.cmpValue (FP.dcmp x y) .g) := h
        have he := he.trans (if_pos h3)
        have hp := hp.1 h3
        refine fm_gr O 2 (C' := (37, [(0, .inr (.inr (.inr (.inr (24, 0))))), (1, .inl o), (2, .inl t), (3, .inr (.inr (.inr (.inl x)))), (5, .inr (.inr (.inr (.inl y))))], [.inr (.inr (.inr (.inl FP.dconst0))), .inr (.inl 0), .inl 0, .inr (.inr (.inr (.inr (24, 0))))], (I, J, G, fm_P pa pb))) rfl ?_
        have K := fmD_push_c (d := d) hl (by omega) I J G pa pb 0 0 FP.dconst0 hp
        generalize er23 : fmD_push_f I J G 0 0 FP.dconst0 = r23 at he
        have he := he.trans (fm_letE _ _)
        rw [er23] at K
        refine fm_cV0 O fmD_push_o (i := 0) (as := [.inl 0, .inr (.inl 0), .inr (.inr (.inr (.inl FP.dconst0)))]) (rest := []) (v := none) rfl fk_6_172 rfl (by decide) fn_D_push (Nat.le_of_ble_eq_true rfl) (K) ?_
        exact fm_gRe O rfl trivial (by first | (rw [he]; done) | (rw [he]; rfl) | rfl) (by first | (rw [he]; done) | (rw [he]; rfl) | rfl)
      · have h3 : ¬ 0 ≤ (Op.cmpValue (FP.dcmp x y) .g) := h
        have he := he.trans (if_neg h3)
        have hp := hp.2 h3
        refine fm_gr O 4 (C' := (37, [(0, .inr (.inr (.inr (.inr (24, 0))))), (1, .inl o), (2, .inl t), (3, .inr (.inr (.inr (.inl x)))), (5, .inr (.inr (.inr (.inl y))))], [.inr (.inr (.inr (.inl FP.dconst0))), .inr (.inl 1), .inl 0, .inr (.inr (.inr (.inr (24, 0))))], (I, J, G, fm_P pa pb))) rfl ?_
        have K := fmD_push_c (d := d) hl (by omega) I J G pa pb 0 1 FP.dconst0 hp
        generalize er24 : fmD_push_f I J G 0 1 FP.dconst0 = r24 at he
        have he := he.trans (fm_letE _ _)
        rw [er24] at K
        refine fm_cV0 O fmD_push_o (i := 0) (as := [.inl 0, .inr (.inl 1), .inr (.inr (.inr (.inl FP.dconst0)))]) (rest := []) (v := none) rfl fk_6_172 rfl (by decide) fn_D_push (Nat.le_of_ble_eq_true rfl) (K) ?_
        exact fm_gRe O rfl trivial (by first | (rw [he]; done) | (rw [he]; rfl) | rfl) (by first | (rw [he]; done) | (rw [he]; rfl) | rfl)
    · have h2 : ¬ o = 18 := h
      have he := he.trans (if_neg h2)
      have hp := hp.2 h2
      refine fm_gr O 3 (C' := (28, [(0, .inr (.inr (.inr (.inr (24, 0))))), (1, .inl o), (2, .inl t), (3, .inr (.inr (.inr (.inl x)))), (5, .inr (.inr (.inr (.inl y))))], [.inl (Op.cmpValue (FP.dcmp x y) .l), .inl 0, .inr (.inr (.inr (.inr (24, 0))))], (I, J, G, fm_P pa pb))) rfl ?_
      refine fm_gb O rfl (fun h => ?_) (fun h => ?_)
      · have h3 : (Op.cmpValue (FP.dcmp x y) .l) = 0 := h
        have he := he.trans (if_pos h3)
        have hp := hp.1 h3
        refine fm_gr O 3 (C' := (37, [(0, .inr (.inr (.inr (.inr (24, 0))))), (1, .inl o), (2, .inl t), (3, .inr (.inr (.inr (.inl x)))), (5, .inr (.inr (.inr (.inl y))))], [.inr (.inr (.inr (.inl FP.dconst0))), .inr (.inl 1), .inl 0, .inr (.inr (.inr (.inr (24, 0))))], (I, J, G, fm_P pa pb))) rfl ?_
        have K := fmD_push_c (d := d) hl (by omega) I J G pa pb 0 1 FP.dconst0 hp
        generalize er25 : fmD_push_f I J G 0 1 FP.dconst0 = r25 at he
        have he := he.trans (fm_letE _ _)
        rw [er25] at K
        refine fm_cV0 O fmD_push_o (i := 0) (as := [.inl 0, .inr (.inl 1), .inr (.inr (.inr (.inl FP.dconst0)))]) (rest := []) (v := none) rfl fk_6_172 rfl (by decide) fn_D_push (Nat.le_of_ble_eq_true rfl) (K) ?_
        exact fm_gRe O rfl trivial (by first | (rw [he]; done) | (rw [he]; rfl) | rfl) (by first | (rw [he]; done) | (rw [he]; rfl) | rfl)
      · have h3 : ¬ (Op.cmpValue (FP.dcmp x y) .l) = 0 := h
        have he := he.trans (if_neg h3)
        have hp := hp.2 h3
        refine fm_gr O 2 (C' := (37, [(0, .inr (.inr (.inr (.inr (24, 0))))), (1, .inl o), (2, .inl t), (3, .inr (.inr (.inr (.inl x)))), (5, .inr (.inr (.inr (.inl y))))], [.inr (.inr (.inr (.inl FP.dconst0))), .inr (.inl 0), .inl 0, .inr (.inr (.inr (.inr (24, 0))))], (I, J, G, fm_P pa pb))) rfl ?_
        have K := fmD_push_c (d := d) hl (by omega) I J G pa pb 0 0 FP.dconst0 hp
        generalize er26 : fmD_push_f I J G 0 0 FP.dconst0 = r26 at he
        have he := he.trans (fm_letE _ _)
        rw [er26] at K
        refine fm_cV0 O fmD_push_o (i := 0) (as := [.inl 0, .inr (.inl 0), .inr (.inr (.inr (.inl FP.dconst0)))]) (rest := []) (v := none) rfl fk_6_172 rfl (by decide) fn_D_push (Nat.le_of_ble_eq_true rfl) (K) ?_
        exact fm_gRe O rfl trivial (by first | (rw [he]; done) | (rw [he]; rfl) | rfl) (by first | (rw [he]; done) | (rw [he]; rfl) | rfl)
def fmD_arithmetic_f (I : fm_MI) (J : fm_MJ) (G : fm_MG) (o : Int32) (t : Int32) : fm_MI × fm_MJ × fm_MG :=
  if t ≤ 1 then (if o = 14 then (if (lg_cmp (J 40 0 ((((I 24 0 28) - 2) + 1).toNatClampNeg)) 0) = 0 then ((fm_u (fm_u I 24 0 28 ((I 24 0 28) - 2)) 24 0 18 3, J, G)) else (if t = 0 then (if o = 11 then (fm_let (fmD_push_f (fm_u I 24 0 28 ((I 24 0 28) - 2)) J G t ((J 40 0 (((I 24 0 28) - 2).toNatClampNeg)) + (J 40 0 ((((I 24 0 28) - 2) + 1).toNatClampNeg))) FP.dconst0) (fun (r1 : fm_MI × fm_MJ × fm_MG) => (r1.1, r1.2.1, r1.2.2))) else (if o = 12 then (fm_let (fmD_push_f (fm_u I 24 0 28 ((I 24 0 28) - 2)) J G t ((J 40 0 (((I 24 0 28) - 2).toNatClampNeg)) - (J 40 0 ((((I 24 0 28) - 2) + 1).toNatClampNeg))) FP.dconst0) (fun (r2 : fm_MI × fm_MJ × fm_MG) => (r2.1, r2.2.1, r2.2.2))) else (if o = 13 then (fm_let (fmD_push_f (fm_u I 24 0 28 ((I 24 0 28) - 2)) J G t ((J 40 0 (((I 24 0 28) - 2).toNatClampNeg)) * (J 40 0 ((((I 24 0 28) - 2) + 1).toNatClampNeg))) FP.dconst0) (fun (r3 : fm_MI × fm_MJ × fm_MG) => (r3.1, r3.2.1, r3.2.2))) else (if o = 14 then (fm_let (fmD_push_f (fm_u I 24 0 28 ((I 24 0 28) - 2)) J G t ((J 40 0 (((I 24 0 28) - 2).toNatClampNeg)) / (J 40 0 ((((I 24 0 28) - 2) + 1).toNatClampNeg))) FP.dconst0) (fun (r4 : fm_MI × fm_MJ × fm_MG) => (r4.1, r4.2.1, r4.2.2))) else (if o = 15 then (fm_let (fmD_push_f (fm_u I 24 0 28 ((I 24 0 28) - 2)) J G t ((J 40 0 (((I 24 0 28) - 2).toNatClampNeg)) - (J 40 0 (((I 24 0 28) - 2).toNatClampNeg)) / (J 40 0 ((((I 24 0 28) - 2) + 1).toNatClampNeg)) * (J 40 0 ((((I 24 0 28) - 2) + 1).toNatClampNeg))) FP.dconst0) (fun (r5 : fm_MI × fm_MJ × fm_MG) => (r5.1, r5.2.1, r5.2.2))) else (if o = 16 then (fm_let (fmD_push_f (fm_u I 24 0 28 ((I 24 0 28) - 2)) J G t ((J 40 0 (((I 24 0 28) - 2).toNatClampNeg)) &&& (J 40 0 ((((I 24 0 28) - 2) + 1).toNatClampNeg))) FP.dconst0) (fun (r6 : fm_MI × fm_MJ × fm_MG) => (r6.1, r6.2.1, r6.2.2))) else (if o = 17 then (fm_let (fmD_push_f (fm_u I 24 0 28 ((I 24 0 28) - 2)) J G t ((J 40 0 (((I 24 0 28) - 2).toNatClampNeg)) <<< ((((J 40 0 ((((I 24 0 28) - 2) + 1).toNatClampNeg)).toInt32) &&& 31).toInt64 &&& 63)) FP.dconst0) (fun (r7 : fm_MI × fm_MJ × fm_MG) => (r7.1, r7.2.1, r7.2.2))) else (if o = 18 then (if 0 ≤ (lg_cmp (J 40 0 (((I 24 0 28) - 2).toNatClampNeg)) (J 40 0 ((((I 24 0 28) - 2) + 1).toNatClampNeg))) then (fm_let (fmD_push_f (fm_u I 24 0 28 ((I 24 0 28) - 2)) J G 0 0 FP.dconst0) (fun (r8 : fm_MI × fm_MJ × fm_MG) => (r8.1, r8.2.1, r8.2.2))) else (fm_let (fmD_push_f (fm_u I 24 0 28 ((I 24 0 28) - 2)) J G 0 1 FP.dconst0) (fun (r9 : fm_MI × fm_MJ × fm_MG) => (r9.1, r9.2.1, r9.2.2)))) else (if (lg_cmp (J 40 0 (((I 24 0 28) - 2).toNatClampNeg)) (J 40 0 ((((I 24 0 28) - 2) + 1).toNatClampNeg))) = 0 then (fm_let (fmD_push_f (fm_u I 24 0 28 ((I 24 0 28) - 2)) J G 0 1 FP.dconst0) (fun (r10 : fm_MI × fm_MJ × fm_MG) => (r10.1, r10.2.1, r10.2.2))) else (fm_let (fmD_push_f (fm_u I 24 0 28 ((I 24 0 28) - 2)) J G 0 0 FP.dconst0) (fun (r11 : fm_MI × fm_MJ × fm_MG) => (r11.1, r11.2.1, r11.2.2)))))))))))) else (if o = 11 then (fm_let (fmD_push_f (fm_u I 24 0 28 ((I 24 0 28) - 2)) J G t ((J 40 0 (((I 24 0 28) - 2).toNatClampNeg)) + (J 40 0 ((((I 24 0 28) - 2) + 1).toNatClampNeg))) FP.dconst0) (fun (r12 : fm_MI × fm_MJ × fm_MG) => (r12.1, r12.2.1, r12.2.2))) else (if o = 12 then (fm_let (fmD_push_f (fm_u I 24 0 28 ((I 24 0 28) - 2)) J G t ((J 40 0 (((I 24 0 28) - 2).toNatClampNeg)) - (J 40 0 ((((I 24 0 28) - 2) + 1).toNatClampNeg))) FP.dconst0) (fun (r13 : fm_MI × fm_MJ × fm_MG) => (r13.1, r13.2.1, r13.2.2))) else (if o = 13 then (fm_let (fmD_push_f (fm_u I 24 0 28 ((I 24 0 28) - 2)) J G t ((J 40 0 (((I 24 0 28) - 2).toNatClampNeg)) * (J 40 0 ((((I 24 0 28) - 2) + 1).toNatClampNeg))) FP.dconst0) (fun (r14 : fm_MI × fm_MJ × fm_MG) => (r14.1, r14.2.1, r14.2.2))) else (if o = 14 then (fm_let (fmD_push_f (fm_u I 24 0 28 ((I 24 0 28) - 2)) J G t ((J 40 0 (((I 24 0 28) - 2).toNatClampNeg)) / (J 40 0 ((((I 24 0 28) - 2) + 1).toNatClampNeg))) FP.dconst0) (fun (r15 : fm_MI × fm_MJ × fm_MG) => (r15.1, r15.2.1, r15.2.2))) else (if o = 15 then (fm_let (fmD_push_f (fm_u I 24 0 28 ((I 24 0 28) - 2)) J G t ((J 40 0 (((I 24 0 28) - 2).toNatClampNeg)) - (J 40 0 (((I 24 0 28) - 2).toNatClampNeg)) / (J 40 0 ((((I 24 0 28) - 2) + 1).toNatClampNeg)) * (J 40 0 ((((I 24 0 28) - 2) + 1).toNatClampNeg))) FP.dconst0) (fun (r16 : fm_MI × fm_MJ × fm_MG) => (r16.1, r16.2.1, r16.2.2))) else (if o = 16 then (fm_let (fmD_push_f (fm_u I 24 0 28 ((I 24 0 28) - 2)) J G t ((J 40 0 (((I 24 0 28) - 2).toNatClampNeg)) &&& (J 40 0 ((((I 24 0 28) - 2) + 1).toNatClampNeg))) FP.dconst0) (fun (r17 : fm_MI × fm_MJ × fm_MG) => (r17.1, r17.2.1, r17.2.2))) else (if o = 17 then (fm_let (fmD_push_f (fm_u I 24 0 28 ((I 24 0 28) - 2)) J G t ((J 40 0 (((I 24 0 28) - 2).toNatClampNeg)) <<< ((((J 40 0 ((((I 24 0 28) - 2) + 1).toNatClampNeg)).toInt32) &&& 63).toInt64 &&& 63)) FP.dconst0) (fun (r18 : fm_MI × fm_MJ × fm_MG) => (r18.1, r18.2.1, r18.2.2))) else (if o = 18 then (if 0 ≤ (lg_cmp (J 40 0 (((I 24 0 28) - 2).toNatClampNeg)) (J 40 0 ((((I 24 0 28) - 2) + 1).toNatClampNeg))) then (fm_let (fmD_push_f (fm_u I 24 0 28 ((I 24 0 28) - 2)) J G 0 0 FP.dconst0) (fun (r19 : fm_MI × fm_MJ × fm_MG) => (r19.1, r19.2.1, r19.2.2))) else (fm_let (fmD_push_f (fm_u I 24 0 28 ((I 24 0 28) - 2)) J G 0 1 FP.dconst0) (fun (r20 : fm_MI × fm_MJ × fm_MG) => (r20.1, r20.2.1, r20.2.2)))) else (if (lg_cmp (J 40 0 (((I 24 0 28) - 2).toNatClampNeg)) (J 40 0 ((((I 24 0 28) - 2) + 1).toNatClampNeg))) = 0 then (fm_let (fmD_push_f (fm_u I 24 0 28 ((I 24 0 28) - 2)) J G 0 1 FP.dconst0) (fun (r21 : fm_MI × fm_MJ × fm_MG) => (r21.1, r21.2.1, r21.2.2))) else (fm_let (fmD_push_f (fm_u I 24 0 28 ((I 24 0 28) - 2)) J G 0 0 FP.dconst0) (fun (r22 : fm_MI × fm_MJ × fm_MG) => (r22.1, r22.2.1, r22.2.2)))))))))))))) else (if o = 15 then (if (lg_cmp (J 40 0 ((((I 24 0 28) - 2) + 1).toNatClampNeg)) 0) = 0 then ((fm_u (fm_u I 24 0 28 ((I 24 0 28) - 2)) 24 0 18 3, J, G)) else (if t = 0 then (if o = 11 then (fm_let (fmD_push_f (fm_u I 24 0 28 ((I 24 0 28) - 2)) J G t ((J 40 0 (((I 24 0 28) - 2).toNatClampNeg)) + (J 40 0 ((((I 24 0 28) - 2) + 1).toNatClampNeg))) FP.dconst0) (fun (r23 : fm_MI × fm_MJ × fm_MG) => (r23.1, r23.2.1, r23.2.2))) else (if o = 12 then (fm_let (fmD_push_f (fm_u I 24 0 28 ((I 24 0 28) - 2)) J G t ((J 40 0 (((I 24 0 28) - 2).toNatClampNeg)) - (J 40 0 ((((I 24 0 28) - 2) + 1).toNatClampNeg))) FP.dconst0) (fun (r24 : fm_MI × fm_MJ × fm_MG) => (r24.1, r24.2.1, r24.2.2))) else (if o = 13 then (fm_let (fmD_push_f (fm_u I 24 0 28 ((I 24 0 28) - 2)) J G t ((J 40 0 (((I 24 0 28) - 2).toNatClampNeg)) * (J 40 0 ((((I 24 0 28) - 2) + 1).toNatClampNeg))) FP.dconst0) (fun (r25 : fm_MI × fm_MJ × fm_MG) => (r25.1, r25.2.1, r25.2.2))) else (if o = 14 then (fm_let (fmD_push_f (fm_u I 24 0 28 ((I 24 0 28) - 2)) J G t ((J 40 0 (((I 24 0 28) - 2).toNatClampNeg)) / (J 40 0 ((((I 24 0 28) - 2) + 1).toNatClampNeg))) FP.dconst0) (fun (r26 : fm_MI × fm_MJ × fm_MG) => (r26.1, r26.2.1, r26.2.2))) else (if o = 15 then (fm_let (fmD_push_f (fm_u I 24 0 28 ((I 24 0 28) - 2)) J G t ((J 40 0 (((I 24 0 28) - 2).toNatClampNeg)) - (J 40 0 (((I 24 0 28) - 2).toNatClampNeg)) / (J 40 0 ((((I 24 0 28) - 2) + 1).toNatClampNeg)) * (J 40 0 ((((I 24 0 28) - 2) + 1).toNatClampNeg))) FP.dconst0) (fun (r27 : fm_MI × fm_MJ × fm_MG) => (r27.1, r27.2.1, r27.2.2))) else (if o = 16 then (fm_let (fmD_push_f (fm_u I 24 0 28 ((I 24 0 28) - 2)) J G t ((J 40 0 (((I 24 0 28) - 2).toNatClampNeg)) &&& (J 40 0 ((((I 24 0 28) - 2) + 1).toNatClampNeg))) FP.dconst0) (fun (r28 : fm_MI × fm_MJ × fm_MG) => (r28.1, r28.2.1, r28.2.2))) else (if o = 17 then (fm_let (fmD_push_f (fm_u I 24 0 28 ((I 24 0 28) - 2)) J G t ((J 40 0 (((I 24 0 28) - 2).toNatClampNeg)) <<< ((((J 40 0 ((((I 24 0 28) - 2) + 1).toNatClampNeg)).toInt32) &&& 31).toInt64 &&& 63)) FP.dconst0) (fun (r29 : fm_MI × fm_MJ × fm_MG) => (r29.1, r29.2.1, r29.2.2))) else (if o = 18 then (if 0 ≤ (lg_cmp (J 40 0 (((I 24 0 28) - 2).toNatClampNeg)) (J 40 0 ((((I 24 0 28) - 2) + 1).toNatClampNeg))) then (fm_let (fmD_push_f (fm_u I 24 0 28 ((I 24 0 28) - 2)) J G 0 0 FP.dconst0) (fun (r30 : fm_MI × fm_MJ × fm_MG) => (r30.1, r30.2.1, r30.2.2))) else (fm_let (fmD_push_f (fm_u I 24 0 28 ((I 24 0 28) - 2)) J G 0 1 FP.dconst0) (fun (r31 : fm_MI × fm_MJ × fm_MG) => (r31.1, r31.2.1, r31.2.2)))) else (if (lg_cmp (J 40 0 (((I 24 0 28) - 2).toNatClampNeg)) (J 40 0 ((((I 24 0 28) - 2) + 1).toNatClampNeg))) = 0 then (fm_let (fmD_push_f (fm_u I 24 0 28 ((I 24 0 28) - 2)) J G 0 1 FP.dconst0) (fun (r32 : fm_MI × fm_MJ × fm_MG) => (r32.1, r32.2.1, r32.2.2))) else (fm_let (fmD_push_f (fm_u I 24 0 28 ((I 24 0 28) - 2)) J G 0 0 FP.dconst0) (fun (r33 : fm_MI × fm_MJ × fm_MG) => (r33.1, r33.2.1, r33.2.2)))))))))))) else (if o = 11 then (fm_let (fmD_push_f (fm_u I 24 0 28 ((I 24 0 28) - 2)) J G t ((J 40 0 (((I 24 0 28) - 2).toNatClampNeg)) + (J 40 0 ((((I 24 0 28) - 2) + 1).toNatClampNeg))) FP.dconst0) (fun (r34 : fm_MI × fm_MJ × fm_MG) => (r34.1, r34.2.1, r34.2.2))) else (if o = 12 then (fm_let (fmD_push_f (fm_u I 24 0 28 ((I 24 0 28) - 2)) J G t ((J 40 0 (((I 24 0 28) - 2).toNatClampNeg)) - (J 40 0 ((((I 24 0 28) - 2) + 1).toNatClampNeg))) FP.dconst0) (fun (r35 : fm_MI × fm_MJ × fm_MG) => (r35.1, r35.2.1, r35.2.2))) else (if o = 13 then (fm_let (fmD_push_f (fm_u I 24 0 28 ((I 24 0 28) - 2)) J G t ((J 40 0 (((I 24 0 28) - 2).toNatClampNeg)) * (J 40 0 ((((I 24 0 28) - 2) + 1).toNatClampNeg))) FP.dconst0) (fun (r36 : fm_MI × fm_MJ × fm_MG) => (r36.1, r36.2.1, r36.2.2))) else (if o = 14 then (fm_let (fmD_push_f (fm_u I 24 0 28 ((I 24 0 28) - 2)) J G t ((J 40 0 (((I 24 0 28) - 2).toNatClampNeg)) / (J 40 0 ((((I 24 0 28) - 2) + 1).toNatClampNeg))) FP.dconst0) (fun (r37 : fm_MI × fm_MJ × fm_MG) => (r37.1, r37.2.1, r37.2.2))) else (if o = 15 then (fm_let (fmD_push_f (fm_u I 24 0 28 ((I 24 0 28) - 2)) J G t ((J 40 0 (((I 24 0 28) - 2).toNatClampNeg)) - (J 40 0 (((I 24 0 28) - 2).toNatClampNeg)) / (J 40 0 ((((I 24 0 28) - 2) + 1).toNatClampNeg)) * (J 40 0 ((((I 24 0 28) - 2) + 1).toNatClampNeg))) FP.dconst0) (fun (r38 : fm_MI × fm_MJ × fm_MG) => (r38.1, r38.2.1, r38.2.2))) else (if o = 16 then (fm_let (fmD_push_f (fm_u I 24 0 28 ((I 24 0 28) - 2)) J G t ((J 40 0 (((I 24 0 28) - 2).toNatClampNeg)) &&& (J 40 0 ((((I 24 0 28) - 2) + 1).toNatClampNeg))) FP.dconst0) (fun (r39 : fm_MI × fm_MJ × fm_MG) => (r39.1, r39.2.1, r39.2.2))) else (if o = 17 then (fm_let (fmD_push_f (fm_u I 24 0 28 ((I 24 0 28) - 2)) J G t ((J 40 0 (((I 24 0 28) - 2).toNatClampNeg)) <<< ((((J 40 0 ((((I 24 0 28) - 2) + 1).toNatClampNeg)).toInt32) &&& 63).toInt64 &&& 63)) FP.dconst0) (fun (r40 : fm_MI × fm_MJ × fm_MG) => (r40.1, r40.2.1, r40.2.2))) else (if o = 18 then (if 0 ≤ (lg_cmp (J 40 0 (((I 24 0 28) - 2).toNatClampNeg)) (J 40 0 ((((I 24 0 28) - 2) + 1).toNatClampNeg))) then (fm_let (fmD_push_f (fm_u I 24 0 28 ((I 24 0 28) - 2)) J G 0 0 FP.dconst0) (fun (r41 : fm_MI × fm_MJ × fm_MG) => (r41.1, r41.2.1, r41.2.2))) else (fm_let (fmD_push_f (fm_u I 24 0 28 ((I 24 0 28) - 2)) J G 0 1 FP.dconst0) (fun (r42 : fm_MI × fm_MJ × fm_MG) => (r42.1, r42.2.1, r42.2.2)))) else (if (lg_cmp (J 40 0 (((I 24 0 28) - 2).toNatClampNeg)) (J 40 0 ((((I 24 0 28) - 2) + 1).toNatClampNeg))) = 0 then (fm_let (fmD_push_f (fm_u I 24 0 28 ((I 24 0 28) - 2)) J G 0 1 FP.dconst0) (fun (r43 : fm_MI × fm_MJ × fm_MG) => (r43.1, r43.2.1, r43.2.2))) else (fm_let (fmD_push_f (fm_u I 24 0 28 ((I 24 0 28) - 2)) J G 0 0 FP.dconst0) (fun (r44 : fm_MI × fm_MJ × fm_MG) => (r44.1, r44.2.1, r44.2.2)))))))))))))) else (if t = 0 then (if o = 11 then (fm_let (fmD_push_f (fm_u I 24 0 28 ((I 24 0 28) - 2)) J G t ((J 40 0 (((I 24 0 28) - 2).toNatClampNeg)) + (J 40 0 ((((I 24 0 28) - 2) + 1).toNatClampNeg))) FP.dconst0) (fun (r45 : fm_MI × fm_MJ × fm_MG) => (r45.1, r45.2.1, r45.2.2))) else (if o = 12 then (fm_let (fmD_push_f (fm_u I 24 0 28 ((I 24 0 28) - 2)) J G t ((J 40 0 (((I 24 0 28) - 2).toNatClampNeg)) - (J 40 0 ((((I 24 0 28) - 2) + 1).toNatClampNeg))) FP.dconst0) (fun (r46 : fm_MI × fm_MJ × fm_MG) => (r46.1, r46.2.1, r46.2.2))) else (if o = 13 then (fm_let (fmD_push_f (fm_u I 24 0 28 ((I 24 0 28) - 2)) J G t ((J 40 0 (((I 24 0 28) - 2).toNatClampNeg)) * (J 40 0 ((((I 24 0 28) - 2) + 1).toNatClampNeg))) FP.dconst0) (fun (r47 : fm_MI × fm_MJ × fm_MG) => (r47.1, r47.2.1, r47.2.2))) else (if o = 14 then (fm_let (fmD_push_f (fm_u I 24 0 28 ((I 24 0 28) - 2)) J G t ((J 40 0 (((I 24 0 28) - 2).toNatClampNeg)) / (J 40 0 ((((I 24 0 28) - 2) + 1).toNatClampNeg))) FP.dconst0) (fun (r48 : fm_MI × fm_MJ × fm_MG) => (r48.1, r48.2.1, r48.2.2))) else (if o = 15 then (fm_let (fmD_push_f (fm_u I 24 0 28 ((I 24 0 28) - 2)) J G t ((J 40 0 (((I 24 0 28) - 2).toNatClampNeg)) - (J 40 0 (((I 24 0 28) - 2).toNatClampNeg)) / (J 40 0 ((((I 24 0 28) - 2) + 1).toNatClampNeg)) * (J 40 0 ((((I 24 0 28) - 2) + 1).toNatClampNeg))) FP.dconst0) (fun (r49 : fm_MI × fm_MJ × fm_MG) => (r49.1, r49.2.1, r49.2.2))) else (if o = 16 then (fm_let (fmD_push_f (fm_u I 24 0 28 ((I 24 0 28) - 2)) J G t ((J 40 0 (((I 24 0 28) - 2).toNatClampNeg)) &&& (J 40 0 ((((I 24 0 28) - 2) + 1).toNatClampNeg))) FP.dconst0) (fun (r50 : fm_MI × fm_MJ × fm_MG) => (r50.1, r50.2.1, r50.2.2))) else (if o = 17 then (fm_let (fmD_push_f (fm_u I 24 0 28 ((I 24 0 28) - 2)) J G t ((J 40 0 (((I 24 0 28) - 2).toNatClampNeg)) <<< ((((J 40 0 ((((I 24 0 28) - 2) + 1).toNatClampNeg)).toInt32) &&& 31).toInt64 &&& 63)) FP.dconst0) (fun (r51 : fm_MI × fm_MJ × fm_MG) => (r51.1, r51.2.1, r51.2.2))) else (if o = 18 then (if 0 ≤ (lg_cmp (J 40 0 (((I 24 0 28) - 2).toNatClampNeg)) (J 40 0 ((((I 24 0 28) - 2) + 1).toNatClampNeg))) then (fm_let (fmD_push_f (fm_u I 24 0 28 ((I 24 0 28) - 2)) J G 0 0 FP.dconst0) (fun (r52 : fm_MI × fm_MJ × fm_MG) => (r52.1, r52.2.1, r52.2.2))) else (fm_let (fmD_push_f (fm_u I 24 0 28 ((I 24 0 28) - 2)) J G 0 1 FP.dconst0) (fun (r53 : fm_MI × fm_MJ × fm_MG) => (r53.1, r53.2.1, r53.2.2)))) else (if (lg_cmp (J 40 0 (((I 24 0 28) - 2).toNatClampNeg)) (J 40 0 ((((I 24 0 28) - 2) + 1).toNatClampNeg))) = 0 then (fm_let (fmD_push_f (fm_u I 24 0 28 ((I 24 0 28) - 2)) J G 0 1 FP.dconst0) (fun (r54 : fm_MI × fm_MJ × fm_MG) => (r54.1, r54.2.1, r54.2.2))) else (fm_let (fmD_push_f (fm_u I 24 0 28 ((I 24 0 28) - 2)) J G 0 0 FP.dconst0) (fun (r55 : fm_MI × fm_MJ × fm_MG) => (r55.1, r55.2.1, r55.2.2)))))))))))) else (if o = 11 then (fm_let (fmD_push_f (fm_u I 24 0 28 ((I 24 0 28) - 2)) J G t ((J 40 0 (((I 24 0 28) - 2).toNatClampNeg)) + (J 40 0 ((((I 24 0 28) - 2) + 1).toNatClampNeg))) FP.dconst0) (fun (r56 : fm_MI × fm_MJ × fm_MG) => (r56.1, r56.2.1, r56.2.2))) else (if o = 12 then (fm_let (fmD_push_f (fm_u I 24 0 28 ((I 24 0 28) - 2)) J G t ((J 40 0 (((I 24 0 28) - 2).toNatClampNeg)) - (J 40 0 ((((I 24 0 28) - 2) + 1).toNatClampNeg))) FP.dconst0) (fun (r57 : fm_MI × fm_MJ × fm_MG) => (r57.1, r57.2.1, r57.2.2))) else (if o = 13 then (fm_let (fmD_push_f (fm_u I 24 0 28 ((I 24 0 28) - 2)) J G t ((J 40 0 (((I 24 0 28) - 2).toNatClampNeg)) * (J 40 0 ((((I 24 0 28) - 2) + 1).toNatClampNeg))) FP.dconst0) (fun (r58 : fm_MI × fm_MJ × fm_MG) => (r58.1, r58.2.1, r58.2.2))) else (if o = 14 then (fm_let (fmD_push_f (fm_u I 24 0 28 ((I 24 0 28) - 2)) J G t ((J 40 0 (((I 24 0 28) - 2).toNatClampNeg)) / (J 40 0 ((((I 24 0 28) - 2) + 1).toNatClampNeg))) FP.dconst0) (fun (r59 : fm_MI × fm_MJ × fm_MG) => (r59.1, r59.2.1, r59.2.2))) else (if o = 15 then (fm_let (fmD_push_f (fm_u I 24 0 28 ((I 24 0 28) - 2)) J G t ((J 40 0 (((I 24 0 28) - 2).toNatClampNeg)) - (J 40 0 (((I 24 0 28) - 2).toNatClampNeg)) / (J 40 0 ((((I 24 0 28) - 2) + 1).toNatClampNeg)) * (J 40 0 ((((I 24 0 28) - 2) + 1).toNatClampNeg))) FP.dconst0) (fun (r60 : fm_MI × fm_MJ × fm_MG) => (r60.1, r60.2.1, r60.2.2))) else (if o = 16 then (fm_let (fmD_push_f (fm_u I 24 0 28 ((I 24 0 28) - 2)) J G t ((J 40 0 (((I 24 0 28) - 2).toNatClampNeg)) &&& (J 40 0 ((((I 24 0 28) - 2) + 1).toNatClampNeg))) FP.dconst0) (fun (r61 : fm_MI × fm_MJ × fm_MG) => (r61.1, r61.2.1, r61.2.2))) else (if o = 17 then (fm_let (fmD_push_f (fm_u I 24 0 28 ((I 24 0 28) - 2)) J G t ((J 40 0 (((I 24 0 28) - 2).toNatClampNeg)) <<< ((((J 40 0 ((((I 24 0 28) - 2) + 1).toNatClampNeg)).toInt32) &&& 63).toInt64 &&& 63)) FP.dconst0) (fun (r62 : fm_MI × fm_MJ × fm_MG) => (r62.1, r62.2.1, r62.2.2))) else (if o = 18 then (if 0 ≤ (lg_cmp (J 40 0 (((I 24 0 28) - 2).toNatClampNeg)) (J 40 0 ((((I 24 0 28) - 2) + 1).toNatClampNeg))) then (fm_let (fmD_push_f (fm_u I 24 0 28 ((I 24 0 28) - 2)) J G 0 0 FP.dconst0) (fun (r63 : fm_MI × fm_MJ × fm_MG) => (r63.1, r63.2.1, r63.2.2))) else (fm_let (fmD_push_f (fm_u I 24 0 28 ((I 24 0 28) - 2)) J G 0 1 FP.dconst0) (fun (r64 : fm_MI × fm_MJ × fm_MG) => (r64.1, r64.2.1, r64.2.2)))) else (if (lg_cmp (J 40 0 (((I 24 0 28) - 2).toNatClampNeg)) (J 40 0 ((((I 24 0 28) - 2) + 1).toNatClampNeg))) = 0 then (fm_let (fmD_push_f (fm_u I 24 0 28 ((I 24 0 28) - 2)) J G 0 1 FP.dconst0) (fun (r65 : fm_MI × fm_MJ × fm_MG) => (r65.1, r65.2.1, r65.2.2))) else (fm_let (fmD_push_f (fm_u I 24 0 28 ((I 24 0 28) - 2)) J G 0 0 FP.dconst0) (fun (r66 : fm_MI × fm_MJ × fm_MG) => (r66.1, r66.2.1, r66.2.2))))))))))))))) else (fm_let (fmD_fractions_f (fm_u I 24 0 28 ((I 24 0 28) - 2)) J G o t (G 41 0 (((I 24 0 28) - 2).toNatClampNeg)) (G 41 0 ((((I 24 0 28) - 2) + 1).toNatClampNeg))) (fun (r67 : fm_MI × fm_MJ × fm_MG) => (r67.1, r67.2.1, r67.2.2)))
theorem fmD_arithmetic_e (I : fm_MI) (J : fm_MJ) (G : fm_MG) (o : Int32) (t : Int32) : fmD_arithmetic_f I J G o t = if t ≤ 1 then (if o = 14 then (if (lg_cmp (J 40 0 ((((I 24 0 28) - 2) + 1).toNatClampNeg)) 0) = 0 then ((fm_u (fm_u I 24 0 28 ((I 24 0 28) - 2)) 24 0 18 3, J, G)) else (if t = 0 then (if o = 11 then (fm_let (fmD_push_f (fm_u I 24 0 28 ((I 24 0 28) - 2)) J G t ((J 40 0 (((I 24 0 28) - 2).toNatClampNeg)) + (J 40 0 ((((I 24 0 28) - 2) + 1).toNatClampNeg))) FP.dconst0) (fun (r1 : fm_MI × fm_MJ × fm_MG) => (r1.1, r1.2.1, r1.2.2))) else (if o = 12 then (fm_let (fmD_push_f (fm_u I 24 0 28 ((I 24 0 28) - 2)) J G t ((J 40 0 (((I 24 0 28) - 2).toNatClampNeg)) - (J 40 0 ((((I 24 0 28) - 2) + 1).toNatClampNeg))) FP.dconst0) (fun (r2 : fm_MI × fm_MJ × fm_MG) => (r2.1, r2.2.1, r2.2.2))) else (if o = 13 then (fm_let (fmD_push_f (fm_u I 24 0 28 ((I 24 0 28) - 2)) J G t ((J 40 0 (((I 24 0 28) - 2).toNatClampNeg)) * (J 40 0 ((((I 24 0 28) - 2) + 1).toNatClampNeg))) FP.dconst0) (fun (r3 : fm_MI × fm_MJ × fm_MG) => (r3.1, r3.2.1, r3.2.2))) else (if o = 14 then (fm_let (fmD_push_f (fm_u I 24 0 28 ((I 24 0 28) - 2)) J G t ((J 40 0 (((I 24 0 28) - 2).toNatClampNeg)) / (J 40 0 ((((I 24 0 28) - 2) + 1).toNatClampNeg))) FP.dconst0) (fun (r4 : fm_MI × fm_MJ × fm_MG) => (r4.1, r4.2.1, r4.2.2))) else (if o = 15 then (fm_let (fmD_push_f (fm_u I 24 0 28 ((I 24 0 28) - 2)) J G t ((J 40 0 (((I 24 0 28) - 2).toNatClampNeg)) - (J 40 0 (((I 24 0 28) - 2).toNatClampNeg)) / (J 40 0 ((((I 24 0 28) - 2) + 1).toNatClampNeg)) * (J 40 0 ((((I 24 0 28) - 2) + 1).toNatClampNeg))) FP.dconst0) (fun (r5 : fm_MI × fm_MJ × fm_MG) => (r5.1, r5.2.1, r5.2.2))) else (if o = 16 then (fm_let (fmD_push_f (fm_u I 24 0 28 ((I 24 0 28) - 2)) J G t ((J 40 0 (((I 24 0 28) - 2).toNatClampNeg)) &&& (J 40 0 ((((I 24 0 28) - 2) + 1).toNatClampNeg))) FP.dconst0) (fun (r6 : fm_MI × fm_MJ × fm_MG) => (r6.1, r6.2.1, r6.2.2))) else (if o = 17 then (fm_let (fmD_push_f (fm_u I 24 0 28 ((I 24 0 28) - 2)) J G t ((J 40 0 (((I 24 0 28) - 2).toNatClampNeg)) <<< ((((J 40 0 ((((I 24 0 28) - 2) + 1).toNatClampNeg)).toInt32) &&& 31).toInt64 &&& 63)) FP.dconst0) (fun (r7 : fm_MI × fm_MJ × fm_MG) => (r7.1, r7.2.1, r7.2.2))) else (if o = 18 then (if 0 ≤ (lg_cmp (J 40 0 (((I 24 0 28) - 2).toNatClampNeg)) (J 40 0 ((((I 24 0 28) - 2) + 1).toNatClampNeg))) then (fm_let (fmD_push_f (fm_u I 24 0 28 ((I 24 0 28) - 2)) J G 0 0 FP.dconst0) (fun (r8 : fm_MI × fm_MJ × fm_MG) => (r8.1, r8.2.1, r8.2.2))) else (fm_let (fmD_push_f (fm_u I 24 0 28 ((I 24 0 28) - 2)) J G 0 1 FP.dconst0) (fun (r9 : fm_MI × fm_MJ × fm_MG) => (r9.1, r9.2.1, r9.2.2)))) else (if (lg_cmp (J 40 0 (((I 24 0 28) - 2).toNatClampNeg)) (J 40 0 ((((I 24 0 28) - 2) + 1).toNatClampNeg))) = 0 then (fm_let (fmD_push_f (fm_u I 24 0 28 ((I 24 0 28) - 2)) J G 0 1 FP.dconst0) (fun (r10 : fm_MI × fm_MJ × fm_MG) => (r10.1, r10.2.1, r10.2.2))) else (fm_let (fmD_push_f (fm_u I 24 0 28 ((I 24 0 28) - 2)) J G 0 0 FP.dconst0) (fun (r11 : fm_MI × fm_MJ × fm_MG) => (r11.1, r11.2.1, r11.2.2)))))))))))) else (if o = 11 then (fm_let (fmD_push_f (fm_u I 24 0 28 ((I 24 0 28) - 2)) J G t ((J 40 0 (((I 24 0 28) - 2).toNatClampNeg)) + (J 40 0 ((((I 24 0 28) - 2) + 1).toNatClampNeg))) FP.dconst0) (fun (r12 : fm_MI × fm_MJ × fm_MG) => (r12.1, r12.2.1, r12.2.2))) else (if o = 12 then (fm_let (fmD_push_f (fm_u I 24 0 28 ((I 24 0 28) - 2)) J G t ((J 40 0 (((I 24 0 28) - 2).toNatClampNeg)) - (J 40 0 ((((I 24 0 28) - 2) + 1).toNatClampNeg))) FP.dconst0) (fun (r13 : fm_MI × fm_MJ × fm_MG) => (r13.1, r13.2.1, r13.2.2))) else (if o = 13 then (fm_let (fmD_push_f (fm_u I 24 0 28 ((I 24 0 28) - 2)) J G t ((J 40 0 (((I 24 0 28) - 2).toNatClampNeg)) * (J 40 0 ((((I 24 0 28) - 2) + 1).toNatClampNeg))) FP.dconst0) (fun (r14 : fm_MI × fm_MJ × fm_MG) => (r14.1, r14.2.1, r14.2.2))) else (if o = 14 then (fm_let (fmD_push_f (fm_u I 24 0 28 ((I 24 0 28) - 2)) J G t ((J 40 0 (((I 24 0 28) - 2).toNatClampNeg)) / (J 40 0 ((((I 24 0 28) - 2) + 1).toNatClampNeg))) FP.dconst0) (fun (r15 : fm_MI × fm_MJ × fm_MG) => (r15.1, r15.2.1, r15.2.2))) else (if o = 15 then (fm_let (fmD_push_f (fm_u I 24 0 28 ((I 24 0 28) - 2)) J G t ((J 40 0 (((I 24 0 28) - 2).toNatClampNeg)) - (J 40 0 (((I 24 0 28) - 2).toNatClampNeg)) / (J 40 0 ((((I 24 0 28) - 2) + 1).toNatClampNeg)) * (J 40 0 ((((I 24 0 28) - 2) + 1).toNatClampNeg))) FP.dconst0) (fun (r16 : fm_MI × fm_MJ × fm_MG) => (r16.1, r16.2.1, r16.2.2))) else (if o = 16 then (fm_let (fmD_push_f (fm_u I 24 0 28 ((I 24 0 28) - 2)) J G t ((J 40 0 (((I 24 0 28) - 2).toNatClampNeg)) &&& (J 40 0 ((((I 24 0 28) - 2) + 1).toNatClampNeg))) FP.dconst0) (fun (r17 : fm_MI × fm_MJ × fm_MG) => (r17.1, r17.2.1, r17.2.2))) else (if o = 17 then (fm_let (fmD_push_f (fm_u I 24 0 28 ((I 24 0 28) - 2)) J G t ((J 40 0 (((I 24 0 28) - 2).toNatClampNeg)) <<< ((((J 40 0 ((((I 24 0 28) - 2) + 1).toNatClampNeg)).toInt32) &&& 63).toInt64 &&& 63)) FP.dconst0) (fun (r18 : fm_MI × fm_MJ × fm_MG) => (r18.1, r18.2.1, r18.2.2))) else (if o = 18 then (if 0 ≤ (lg_cmp (J 40 0 (((I 24 0 28) - 2).toNatClampNeg)) (J 40 0 ((((I 24 0 28) - 2) + 1).toNatClampNeg))) then (fm_let (fmD_push_f (fm_u I 24 0 28 ((I 24 0 28) - 2)) J G 0 0 FP.dconst0) (fun (r19 : fm_MI × fm_MJ × fm_MG) => (r19.1, r19.2.1, r19.2.2))) else (fm_let (fmD_push_f (fm_u I 24 0 28 ((I 24 0 28) - 2)) J G 0 1 FP.dconst0) (fun (r20 : fm_MI × fm_MJ × fm_MG) => (r20.1, r20.2.1, r20.2.2)))) else (if (lg_cmp (J 40 0 (((I 24 0 28) - 2).toNatClampNeg)) (J 40 0 ((((I 24 0 28) - 2) + 1).toNatClampNeg))) = 0 then (fm_let (fmD_push_f (fm_u I 24 0 28 ((I 24 0 28) - 2)) J G 0 1 FP.dconst0) (fun (r21 : fm_MI × fm_MJ × fm_MG) => (r21.1, r21.2.1, r21.2.2))) else (fm_let (fmD_push_f (fm_u I 24 0 28 ((I 24 0 28) - 2)) J G 0 0 FP.dconst0) (fun (r22 : fm_MI × fm_MJ × fm_MG) => (r22.1, r22.2.1, r22.2.2)))))))))))))) else (if o = 15 then (if (lg_cmp (J 40 0 ((((I 24 0 28) - 2) + 1).toNatClampNeg)) 0) = 0 then ((fm_u (fm_u I 24 0 28 ((I 24 0 28) - 2)) 24 0 18 3, J, G)) else (if t = 0 then (if o = 11 then (fm_let (fmD_push_f (fm_u I 24 0 28 ((I 24 0 28) - 2)) J G t ((J 40 0 (((I 24 0 28) - 2).toNatClampNeg)) + (J 40 0 ((((I 24 0 28) - 2) + 1).toNatClampNeg))) FP.dconst0) (fun (r23 : fm_MI × fm_MJ × fm_MG) => (r23.1, r23.2.1, r23.2.2))) else (if o = 12 then (fm_let (fmD_push_f (fm_u I 24 0 28 ((I 24 0 28) - 2)) J G t ((J 40 0 (((I 24 0 28) - 2).toNatClampNeg)) - (J 40 0 ((((I 24 0 28) - 2) + 1).toNatClampNeg))) FP.dconst0) (fun (r24 : fm_MI × fm_MJ × fm_MG) => (r24.1, r24.2.1, r24.2.2))) else (if o = 13 then (fm_let (fmD_push_f (fm_u I 24 0 28 ((I 24 0 28) - 2)) J G t ((J 40 0 (((I 24 0 28) - 2).toNatClampNeg)) * (J 40 0 ((((I 24 0 28) - 2) + 1).toNatClampNeg))) FP.dconst0) (fun (r25 : fm_MI × fm_MJ × fm_MG) => (r25.1, r25.2.1, r25.2.2))) else (if o = 14 then (fm_let (fmD_push_f (fm_u I 24 0 28 ((I 24 0 28) - 2)) J G t ((J 40 0 (((I 24 0 28) - 2).toNatClampNeg)) / (J 40 0 ((((I 24 0 28) - 2) + 1).toNatClampNeg))) FP.dconst0) (fun (r26 : fm_MI × fm_MJ × fm_MG) => (r26.1, r26.2.1, r26.2.2))) else (if o = 15 then (fm_let (fmD_push_f (fm_u I 24 0 28 ((I 24 0 28) - 2)) J G t ((J 40 0 (((I 24 0 28) - 2).toNatClampNeg)) - (J 40 0 (((I 24 0 28) - 2).toNatClampNeg)) / (J 40 0 ((((I 24 0 28) - 2) + 1).toNatClampNeg)) * (J 40 0 ((((I 24 0 28) - 2) + 1).toNatClampNeg))) FP.dconst0) (fun (r27 : fm_MI × fm_MJ × fm_MG) => (r27.1, r27.2.1, r27.2.2))) else (if o = 16 then (fm_let (fmD_push_f (fm_u I 24 0 28 ((I 24 0 28) - 2)) J G t ((J 40 0 (((I 24 0 28) - 2).toNatClampNeg)) &&& (J 40 0 ((((I 24 0 28) - 2) + 1).toNatClampNeg))) FP.dconst0) (fun (r28 : fm_MI × fm_MJ × fm_MG) => (r28.1, r28.2.1, r28.2.2))) else (if o = 17 then (fm_let (fmD_push_f (fm_u I 24 0 28 ((I 24 0 28) - 2)) J G t ((J 40 0 (((I 24 0 28) - 2).toNatClampNeg)) <<< ((((J 40 0 ((((I 24 0 28) - 2) + 1).toNatClampNeg)).toInt32) &&& 31).toInt64 &&& 63)) FP.dconst0) (fun (r29 : fm_MI × fm_MJ × fm_MG) => (r29.1, r29.2.1, r29.2.2))) else (if o = 18 then (if 0 ≤ (lg_cmp (J 40 0 (((I 24 0 28) - 2).toNatClampNeg)) (J 40 0 ((((I 24 0 28) - 2) + 1).toNatClampNeg))) then (fm_let (fmD_push_f (fm_u I 24 0 28 ((I 24 0 28) - 2)) J G 0 0 FP.dconst0) (fun (r30 : fm_MI × fm_MJ × fm_MG) => (r30.1, r30.2.1, r30.2.2))) else (fm_let (fmD_push_f (fm_u I 24 0 28 ((I 24 0 28) - 2)) J G 0 1 FP.dconst0) (fun (r31 : fm_MI × fm_MJ × fm_MG) => (r31.1, r31.2.1, r31.2.2)))) else (if (lg_cmp (J 40 0 (((I 24 0 28) - 2).toNatClampNeg)) (J 40 0 ((((I 24 0 28) - 2) + 1).toNatClampNeg))) = 0 then (fm_let (fmD_push_f (fm_u I 24 0 28 ((I 24 0 28) - 2)) J G 0 1 FP.dconst0) (fun (r32 : fm_MI × fm_MJ × fm_MG) => (r32.1, r32.2.1, r32.2.2))) else (fm_let (fmD_push_f (fm_u I 24 0 28 ((I 24 0 28) - 2)) J G 0 0 FP.dconst0) (fun (r33 : fm_MI × fm_MJ × fm_MG) => (r33.1, r33.2.1, r33.2.2)))))))))))) else (if o = 11 then (fm_let (fmD_push_f (fm_u I 24 0 28 ((I 24 0 28) - 2)) J G t ((J 40 0 (((I 24 0 28) - 2).toNatClampNeg)) + (J 40 0 ((((I 24 0 28) - 2) + 1).toNatClampNeg))) FP.dconst0) (fun (r34 : fm_MI × fm_MJ × fm_MG) => (r34.1, r34.2.1, r34.2.2))) else (if o = 12 then (fm_let (fmD_push_f (fm_u I 24 0 28 ((I 24 0 28) - 2)) J G t ((J 40 0 (((I 24 0 28) - 2).toNatClampNeg)) - (J 40 0 ((((I 24 0 28) - 2) + 1).toNatClampNeg))) FP.dconst0) (fun (r35 : fm_MI × fm_MJ × fm_MG) => (r35.1, r35.2.1, r35.2.2))) else (if o = 13 then (fm_let (fmD_push_f (fm_u I 24 0 28 ((I 24 0 28) - 2)) J G t ((J 40 0 (((I 24 0 28) - 2).toNatClampNeg)) * (J 40 0 ((((I 24 0 28) - 2) + 1).toNatClampNeg))) FP.dconst0) (fun (r36 : fm_MI × fm_MJ × fm_MG) => (r36.1, r36.2.1, r36.2.2))) else (if o = 14 then (fm_let (fmD_push_f (fm_u I 24 0 28 ((I 24 0 28) - 2)) J G t ((J 40 0 (((I 24 0 28) - 2).toNatClampNeg)) / (J 40 0 ((((I 24 0 28) - 2) + 1).toNatClampNeg))) FP.dconst0) (fun (r37 : fm_MI × fm_MJ × fm_MG) => (r37.1, r37.2.1, r37.2.2))) else (if o = 15 then (fm_let (fmD_push_f (fm_u I 24 0 28 ((I 24 0 28) - 2)) J G t ((J 40 0 (((I 24 0 28) - 2).toNatClampNeg)) - (J 40 0 (((I 24 0 28) - 2).toNatClampNeg)) / (J 40 0 ((((I 24 0 28) - 2) + 1).toNatClampNeg)) * (J 40 0 ((((I 24 0 28) - 2) + 1).toNatClampNeg))) FP.dconst0) (fun (r38 : fm_MI × fm_MJ × fm_MG) => (r38.1, r38.2.1, r38.2.2))) else (if o = 16 then (fm_let (fmD_push_f (fm_u I 24 0 28 ((I 24 0 28) - 2)) J G t ((J 40 0 (((I 24 0 28) - 2).toNatClampNeg)) &&& (J 40 0 ((((I 24 0 28) - 2) + 1).toNatClampNeg))) FP.dconst0) (fun (r39 : fm_MI × fm_MJ × fm_MG) => (r39.1, r39.2.1, r39.2.2))) else (if o = 17 then (fm_let (fmD_push_f (fm_u I 24 0 28 ((I 24 0 28) - 2)) J G t ((J 40 0 (((I 24 0 28) - 2).toNatClampNeg)) <<< ((((J 40 0 ((((I 24 0 28) - 2) + 1).toNatClampNeg)).toInt32) &&& 63).toInt64 &&& 63)) FP.dconst0) (fun (r40 : fm_MI × fm_MJ × fm_MG) => (r40.1, r40.2.1, r40.2.2))) else (if o = 18 then (if 0 ≤ (lg_cmp (J 40 0 (((I 24 0 28) - 2).toNatClampNeg)) (J 40 0 ((((I 24 0 28) - 2) + 1).toNatClampNeg))) then (fm_let (fmD_push_f (fm_u I 24 0 28 ((I 24 0 28) - 2)) J G 0 0 FP.dconst0) (fun (r41 : fm_MI × fm_MJ × fm_MG) => (r41.1, r41.2.1, r41.2.2))) else (fm_let (fmD_push_f (fm_u I 24 0 28 ((I 24 0 28) - 2)) J G 0 1 FP.dconst0) (fun (r42 : fm_MI × fm_MJ × fm_MG) => (r42.1, r42.2.1, r42.2.2)))) else (if (lg_cmp (J 40 0 (((I 24 0 28) - 2).toNatClampNeg)) (J 40 0 ((((I 24 0 28) - 2) + 1).toNatClampNeg))) = 0 then (fm_let (fmD_push_f (fm_u I 24 0 28 ((I 24 0 28) - 2)) J G 0 1 FP.dconst0) (fun (r43 : fm_MI × fm_MJ × fm_MG) => (r43.1, r43.2.1, r43.2.2))) else (fm_let (fmD_push_f (fm_u I 24 0 28 ((I 24 0 28) - 2)) J G 0 0 FP.dconst0) (fun (r44 : fm_MI × fm_MJ × fm_MG) => (r44.1, r44.2.1, r44.2.2)))))))))))))) else (if t = 0 then (if o = 11 then (fm_let (fmD_push_f (fm_u I 24 0 28 ((I 24 0 28) - 2)) J G t ((J 40 0 (((I 24 0 28) - 2).toNatClampNeg)) + (J 40 0 ((((I 24 0 28) - 2) + 1).toNatClampNeg))) FP.dconst0) (fun (r45 : fm_MI × fm_MJ × fm_MG) => (r45.1, r45.2.1, r45.2.2))) else (if o = 12 then (fm_let (fmD_push_f (fm_u I 24 0 28 ((I 24 0 28) - 2)) J G t ((J 40 0 (((I 24 0 28) - 2).toNatClampNeg)) - (J 40 0 ((((I 24 0 28) - 2) + 1).toNatClampNeg))) FP.dconst0) (fun (r46 : fm_MI × fm_MJ × fm_MG) => (r46.1, r46.2.1, r46.2.2))) else (if o = 13 then (fm_let (fmD_push_f (fm_u I 24 0 28 ((I 24 0 28) - 2)) J G t ((J 40 0 (((I 24 0 28) - 2).toNatClampNeg)) * (J 40 0 ((((I 24 0 28) - 2) + 1).toNatClampNeg))) FP.dconst0) (fun (r47 : fm_MI × fm_MJ × fm_MG) => (r47.1, r47.2.1, r47.2.2))) else (if o = 14 then (fm_let (fmD_push_f (fm_u I 24 0 28 ((I 24 0 28) - 2)) J G t ((J 40 0 (((I 24 0 28) - 2).toNatClampNeg)) / (J 40 0 ((((I 24 0 28) - 2) + 1).toNatClampNeg))) FP.dconst0) (fun (r48 : fm_MI × fm_MJ × fm_MG) => (r48.1, r48.2.1, r48.2.2))) else (if o = 15 then (fm_let (fmD_push_f (fm_u I 24 0 28 ((I 24 0 28) - 2)) J G t ((J 40 0 (((I 24 0 28) - 2).toNatClampNeg)) - (J 40 0 (((I 24 0 28) - 2).toNatClampNeg)) / (J 40 0 ((((I 24 0 28) - 2) + 1).toNatClampNeg)) * (J 40 0 ((((I 24 0 28) - 2) + 1).toNatClampNeg))) FP.dconst0) (fun (r49 : fm_MI × fm_MJ × fm_MG) => (r49.1, r49.2.1, r49.2.2))) else (if o = 16 then (fm_let (fmD_push_f (fm_u I 24 0 28 ((I 24 0 28) - 2)) J G t ((J 40 0 (((I 24 0 28) - 2).toNatClampNeg)) &&& (J 40 0 ((((I 24 0 28) - 2) + 1).toNatClampNeg))) FP.dconst0) (fun (r50 : fm_MI × fm_MJ × fm_MG) => (r50.1, r50.2.1, r50.2.2))) else (if o = 17 then (fm_let (fmD_push_f (fm_u I 24 0 28 ((I 24 0 28) - 2)) J G t ((J 40 0 (((I 24 0 28) - 2).toNatClampNeg)) <<< ((((J 40 0 ((((I 24 0 28) - 2) + 1).toNatClampNeg)).toInt32) &&& 31).toInt64 &&& 63)) FP.dconst0) (fun (r51 : fm_MI × fm_MJ × fm_MG) => (r51.1, r51.2.1, r51.2.2))) else (if o = 18 then (if 0 ≤ (lg_cmp (J 40 0 (((I 24 0 28) - 2).toNatClampNeg)) (J 40 0 ((((I 24 0 28) - 2) + 1).toNatClampNeg))) then (fm_let (fmD_push_f (fm_u I 24 0 28 ((I 24 0 28) - 2)) J G 0 0 FP.dconst0) (fun (r52 : fm_MI × fm_MJ × fm_MG) => (r52.1, r52.2.1, r52.2.2))) else (fm_let (fmD_push_f (fm_u I 24 0 28 ((I 24 0 28) - 2)) J G 0 1 FP.dconst0) (fun (r53 : fm_MI × fm_MJ × fm_MG) => (r53.1, r53.2.1, r53.2.2)))) else (if (lg_cmp (J 40 0 (((I 24 0 28) - 2).toNatClampNeg)) (J 40 0 ((((I 24 0 28) - 2) + 1).toNatClampNeg))) = 0 then (fm_let (fmD_push_f (fm_u I 24 0 28 ((I 24 0 28) - 2)) J G 0 1 FP.dconst0) (fun (r54 : fm_MI × fm_MJ × fm_MG) => (r54.1, r54.2.1, r54.2.2))) else (fm_let (fmD_push_f (fm_u I 24 0 28 ((I 24 0 28) - 2)) J G 0 0 FP.dconst0) (fun (r55 : fm_MI × fm_MJ × fm_MG) => (r55.1, r55.2.1, r55.2.2)))))))))))) else (if o = 11 then (fm_let (fmD_push_f (fm_u I 24 0 28 ((I 24 0 28) - 2)) J G t ((J 40 0 (((I 24 0 28) - 2).toNatClampNeg)) + (J 40 0 ((((I 24 0 28) - 2) + 1).toNatClampNeg))) FP.dconst0) (fun (r56 : fm_MI × fm_MJ × fm_MG) => (r56.1, r56.2.1, r56.2.2))) else (if o = 12 then (fm_let (fmD_push_f (fm_u I 24 0 28 ((I 24 0 28) - 2)) J G t ((J 40 0 (((I 24 0 28) - 2).toNatClampNeg)) - (J 40 0 ((((I 24 0 28) - 2) + 1).toNatClampNeg))) FP.dconst0) (fun (r57 : fm_MI × fm_MJ × fm_MG) => (r57.1, r57.2.1, r57.2.2))) else (if o = 13 then (fm_let (fmD_push_f (fm_u I 24 0 28 ((I 24 0 28) - 2)) J G t ((J 40 0 (((I 24 0 28) - 2).toNatClampNeg)) * (J 40 0 ((((I 24 0 28) - 2) + 1).toNatClampNeg))) FP.dconst0) (fun (r58 : fm_MI × fm_MJ × fm_MG) => (r58.1, r58.2.1, r58.2.2))) else (if o = 14 then (fm_let (fmD_push_f (fm_u I 24 0 28 ((I 24 0 28) - 2)) J G t ((J 40 0 (((I 24 0 28) - 2).toNatClampNeg)) / (J 40 0 ((((I 24 0 28) - 2) + 1).toNatClampNeg))) FP.dconst0) (fun (r59 : fm_MI × fm_MJ × fm_MG) => (r59.1, r59.2.1, r59.2.2))) else (if o = 15 then (fm_let (fmD_push_f (fm_u I 24 0 28 ((I 24 0 28) - 2)) J G t ((J 40 0 (((I 24 0 28) - 2).toNatClampNeg)) - (J 40 0 (((I 24 0 28) - 2).toNatClampNeg)) / (J 40 0 ((((I 24 0 28) - 2) + 1).toNatClampNeg)) * (J 40 0 ((((I 24 0 28) - 2) + 1).toNatClampNeg))) FP.dconst0) (fun (r60 : fm_MI × fm_MJ × fm_MG) => (r60.1, r60.2.1, r60.2.2))) else (if o = 16 then (fm_let (fmD_push_f (fm_u I 24 0 28 ((I 24 0 28) - 2)) J G t ((J 40 0 (((I 24 0 28) - 2).toNatClampNeg)) &&& (J 40 0 ((((I 24 0 28) - 2) + 1).toNatClampNeg))) FP.dconst0) (fun (r61 : fm_MI × fm_MJ × fm_MG) => (r61.1, r61.2.1, r61.2.2))) else (if o = 17 then (fm_let (fmD_push_f (fm_u I 24 0 28 ((I 24 0 28) - 2)) J G t ((J 40 0 (((I 24 0 28) - 2).toNatClampNeg)) <<< ((((J 40 0 ((((I 24 0 28) - 2) + 1).toNatClampNeg)).toInt32) &&& 63).toInt64 &&& 63)) FP.dconst0) (fun (r62 : fm_MI × fm_MJ × fm_MG) => (r62.1, r62.2.1, r62.2.2))) else (if o = 18 then (if 0 ≤ (lg_cmp (J 40 0 (((I 24 0 28) - 2).toNatClampNeg)) (J 40 0 ((((I 24 0 28) - 2) + 1).toNatClampNeg))) then (fm_let (fmD_push_f (fm_u I 24 0 28 ((I 24 0 28) - 2)) J G 0 0 FP.dconst0) (fun (r63 : fm_MI × fm_MJ × fm_MG) => (r63.1, r63.2.1, r63.2.2))) else (fm_let (fmD_push_f (fm_u I 24 0 28 ((I 24 0 28) - 2)) J G 0 1 FP.dconst0) (fun (r64 : fm_MI × fm_MJ × fm_MG) => (r64.1, r64.2.1, r64.2.2)))) else (if (lg_cmp (J 40 0 (((I 24 0 28) - 2).toNatClampNeg)) (J 40 0 ((((I 24 0 28) - 2) + 1).toNatClampNeg))) = 0 then (fm_let (fmD_push_f (fm_u I 24 0 28 ((I 24 0 28) - 2)) J G 0 1 FP.dconst0) (fun (r65 : fm_MI × fm_MJ × fm_MG) => (r65.1, r65.2.1, r65.2.2))) else (fm_let (fmD_push_f (fm_u I 24 0 28 ((I 24 0 28) - 2)) J G 0 0 FP.dconst0) (fun (r66 : fm_MI × fm_MJ × fm_MG) => (r66.1, r66.2.1, r66.2.2))))))))))))))) else (fm_let (fmD_fractions_f (fm_u I 24 0 28 ((I 24 0 28) - 2)) J G o t (G 41 0 (((I 24 0 28) - 2).toNatClampNeg)) (G 41 0 ((((I 24 0 28) - 2) + 1).toNatClampNeg))) (fun (r67 : fm_MI × fm_MJ × fm_MG) => (r67.1, r67.2.1, r67.2.2))) := rfl
def fmD_arithmetic_p (I : fm_MI) (J : fm_MJ) (G : fm_MG) (o : Int32) (t : Int32) : Prop :=
  (vp_in ((I 24 0 28) - 2) 260) ∧ ((vp_in (((I 24 0 28) - 2) + 1) 260) ∧ ((vp_in ((I 24 0 28) - 2) 260) ∧ ((vp_in (((I 24 0 28) - 2) + 1) 260) ∧ ((t ≤ 1 → (o = 14 → ((lg_cmp (J 40 0 ((((I 24 0 28) - 2) + 1).toNatClampNeg)) 0) = 0 → True) ∧ (¬ (lg_cmp (J 40 0 ((((I 24 0 28) - 2) + 1).toNatClampNeg)) 0) = 0 → (t = 0 → (o = 11 → fmD_push_p (fm_u I 24 0 28 ((I 24 0 28) - 2)) t FP.dconst0) ∧ (¬ o = 11 → (o = 12 → fmD_push_p (fm_u I 24 0 28 ((I 24 0 28) - 2)) t FP.dconst0) ∧ (¬ o = 12 → (o = 13 → fmD_push_p (fm_u I 24 0 28 ((I 24 0 28) - 2)) t FP.dconst0) ∧ (¬ o = 13 → (o = 14 → (¬ (J 40 0 ((((I 24 0 28) - 2) + 1).toNatClampNeg)) = 0) ∧ (fmD_push_p (fm_u I 24 0 28 ((I 24 0 28) - 2)) t FP.dconst0)) ∧ (¬ o = 14 → (o = 15 → (¬ (J 40 0 ((((I 24 0 28) - 2) + 1).toNatClampNeg)) = 0) ∧ (fmD_push_p (fm_u I 24 0 28 ((I 24 0 28) - 2)) t FP.dconst0)) ∧ (¬ o = 15 → (o = 16 → fmD_push_p (fm_u I 24 0 28 ((I 24 0 28) - 2)) t FP.dconst0) ∧ (¬ o = 16 → (o = 17 → fmD_push_p (fm_u I 24 0 28 ((I 24 0 28) - 2)) t FP.dconst0) ∧ (¬ o = 17 → (o = 18 → (0 ≤ (lg_cmp (J 40 0 (((I 24 0 28) - 2).toNatClampNeg)) (J 40 0 ((((I 24 0 28) - 2) + 1).toNatClampNeg))) → fmD_push_p (fm_u I 24 0 28 ((I 24 0 28) - 2)) 0 FP.dconst0) ∧ (¬ 0 ≤ (lg_cmp (J 40 0 (((I 24 0 28) - 2).toNatClampNeg)) (J 40 0 ((((I 24 0 28) - 2) + 1).toNatClampNeg))) → fmD_push_p (fm_u I 24 0 28 ((I 24 0 28) - 2)) 0 FP.dconst0)) ∧ (¬ o = 18 → ((lg_cmp (J 40 0 (((I 24 0 28) - 2).toNatClampNeg)) (J 40 0 ((((I 24 0 28) - 2) + 1).toNatClampNeg))) = 0 → fmD_push_p (fm_u I 24 0 28 ((I 24 0 28) - 2)) 0 FP.dconst0) ∧ (¬ (lg_cmp (J 40 0 (((I 24 0 28) - 2).toNatClampNeg)) (J 40 0 ((((I 24 0 28) - 2) + 1).toNatClampNeg))) = 0 → fmD_push_p (fm_u I 24 0 28 ((I 24 0 28) - 2)) 0 FP.dconst0)))))))))) ∧ (¬ t = 0 → (o = 11 → fmD_push_p (fm_u I 24 0 28 ((I 24 0 28) - 2)) t FP.dconst0) ∧ (¬ o = 11 → (o = 12 → fmD_push_p (fm_u I 24 0 28 ((I 24 0 28) - 2)) t FP.dconst0) ∧ (¬ o = 12 → (o = 13 → fmD_push_p (fm_u I 24 0 28 ((I 24 0 28) - 2)) t FP.dconst0) ∧ (¬ o = 13 → (o = 14 → (¬ (J 40 0 ((((I 24 0 28) - 2) + 1).toNatClampNeg)) = 0) ∧ (fmD_push_p (fm_u I 24 0 28 ((I 24 0 28) - 2)) t FP.dconst0)) ∧ (¬ o = 14 → (o = 15 → (¬ (J 40 0 ((((I 24 0 28) - 2) + 1).toNatClampNeg)) = 0) ∧ (fmD_push_p (fm_u I 24 0 28 ((I 24 0 28) - 2)) t FP.dconst0)) ∧ (¬ o = 15 → (o = 16 → fmD_push_p (fm_u I 24 0 28 ((I 24 0 28) - 2)) t FP.dconst0) ∧ (¬ o = 16 → (o = 17 → fmD_push_p (fm_u I 24 0 28 ((I 24 0 28) - 2)) t FP.dconst0) ∧ (¬ o = 17 → (o = 18 → (0 ≤ (lg_cmp (J 40 0 (((I 24 0 28) - 2).toNatClampNeg)) (J 40 0 ((((I 24 0 28) - 2) + 1).toNatClampNeg))) → fmD_push_p (fm_u I 24 0 28 ((I 24 0 28) - 2)) 0 FP.dconst0) ∧ (¬ 0 ≤ (lg_cmp (J 40 0 (((I 24 0 28) - 2).toNatClampNeg)) (J 40 0 ((((I 24 0 28) - 2) + 1).toNatClampNeg))) → fmD_push_p (fm_u I 24 0 28 ((I 24 0 28) - 2)) 0 FP.dconst0)) ∧ (¬ o = 18 → ((lg_cmp (J 40 0 (((I 24 0 28) - 2).toNatClampNeg)) (J 40 0 ((((I 24 0 28) - 2) + 1).toNatClampNeg))) = 0 → fmD_push_p (fm_u I 24 0 28 ((I 24 0 28) - 2)) 0 FP.dconst0) ∧ (¬ (lg_cmp (J 40 0 (((I 24 0 28) - 2).toNatClampNeg)) (J 40 0 ((((I 24 0 28) - 2) + 1).toNatClampNeg))) = 0 → fmD_push_p (fm_u I 24 0 28 ((I 24 0 28) - 2)) 0 FP.dconst0)))))))))))) ∧ (¬ o = 14 → (o = 15 → ((lg_cmp (J 40 0 ((((I 24 0 28) - 2) + 1).toNatClampNeg)) 0) = 0 → True) ∧ (¬ (lg_cmp (J 40 0 ((((I 24 0 28) - 2) + 1).toNatClampNeg)) 0) = 0 → (t = 0 → (o = 11 → fmD_push_p (fm_u I 24 0 28 ((I 24 0 28) - 2)) t FP.dconst0) ∧ (¬ o = 11 → (o = 12 → fmD_push_p (fm_u I 24 0 28 ((I 24 0 28) - 2)) t FP.dconst0) ∧ (¬ o = 12 → (o = 13 → fmD_push_p (fm_u I 24 0 28 ((I 24 0 28) - 2)) t FP.dconst0) ∧ (¬ o = 13 → (o = 14 → (¬ (J 40 0 ((((I 24 0 28) - 2) + 1).toNatClampNeg)) = 0) ∧ (fmD_push_p (fm_u I 24 0 28 ((I 24 0 28) - 2)) t FP.dconst0)) ∧ (¬ o = 14 → (o = 15 → (¬ (J 40 0 ((((I 24 0 28) - 2) + 1).toNatClampNeg)) = 0) ∧ (fmD_push_p (fm_u I 24 0 28 ((I 24 0 28) - 2)) t FP.dconst0)) ∧ (¬ o = 15 → (o = 16 → fmD_push_p (fm_u I 24 0 28 ((I 24 0 28) - 2)) t FP.dconst0) ∧ (¬ o = 16 → (o = 17 → fmD_push_p (fm_u I 24 0 28 ((I 24 0 28) - 2)) t FP.dconst0) ∧ (¬ o = 17 → (o = 18 → (0 ≤ (lg_cmp (J 40 0 (((I 24 0 28) - 2).toNatClampNeg)) (J 40 0 ((((I 24 0 28) - 2) + 1).toNatClampNeg))) → fmD_push_p (fm_u I 24 0 28 ((I 24 0 28) - 2)) 0 FP.dconst0) ∧ (¬ 0 ≤ (lg_cmp (J 40 0 (((I 24 0 28) - 2).toNatClampNeg)) (J 40 0 ((((I 24 0 28) - 2) + 1).toNatClampNeg))) → fmD_push_p (fm_u I 24 0 28 ((I 24 0 28) - 2)) 0 FP.dconst0)) ∧ (¬ o = 18 → ((lg_cmp (J 40 0 (((I 24 0 28) - 2).toNatClampNeg)) (J 40 0 ((((I 24 0 28) - 2) + 1).toNatClampNeg))) = 0 → fmD_push_p (fm_u I 24 0 28 ((I 24 0 28) - 2)) 0 FP.dconst0) ∧ (¬ (lg_cmp (J 40 0 (((I 24 0 28) - 2).toNatClampNeg)) (J 40 0 ((((I 24 0 28) - 2) + 1).toNatClampNeg))) = 0 → fmD_push_p (fm_u I 24 0 28 ((I 24 0 28) - 2)) 0 FP.dconst0)))))))))) ∧ (¬ t = 0 → (o = 11 → fmD_push_p (fm_u I 24 0 28 ((I 24 0 28) - 2)) t FP.dconst0) ∧ (¬ o = 11 → (o = 12 → fmD_push_p (fm_u I 24 0 28 ((I 24 0 28) - 2)) t FP.dconst0) ∧ (¬ o = 12 → (o = 13 → fmD_push_p (fm_u I 24 0 28 ((I 24 0 28) - 2)) t FP.dconst0) ∧ (¬ o = 13 → (o = 14 → (¬ (J 40 0 ((((I 24 0 28) - 2) + 1).toNatClampNeg)) = 0) ∧ (fmD_push_p (fm_u I 24 0 28 ((I 24 0 28) - 2)) t FP.dconst0)) ∧ (¬ o = 14 → (o = 15 → (¬ (J 40 0 ((((I 24 0 28) - 2) + 1).toNatClampNeg)) = 0) ∧ (fmD_push_p (fm_u I 24 0 28 ((I 24 0 28) - 2)) t FP.dconst0)) ∧ (¬ o = 15 → (o = 16 → fmD_push_p (fm_u I 24 0 28 ((I 24 0 28) - 2)) t FP.dconst0) ∧ (¬ o = 16 → (o = 17 → fmD_push_p (fm_u I 24 0 28 ((I 24 0 28) - 2)) t FP.dconst0) ∧ (¬ o = 17 → (o = 18 → (0 ≤ (lg_cmp (J 40 0 (((I 24 0 28) - 2).toNatClampNeg)) (J 40 0 ((((I 24 0 28) - 2) + 1).toNatClampNeg))) → fmD_push_p (fm_u I 24 0 28 ((I 24 0 28) - 2)) 0 FP.dconst0) ∧ (¬ 0 ≤ (lg_cmp (J 40 0 (((I 24 0 28) - 2).toNatClampNeg)) (J 40 0 ((((I 24 0 28) - 2) + 1).toNatClampNeg))) → fmD_push_p (fm_u I 24 0 28 ((I 24 0 28) - 2)) 0 FP.dconst0)) ∧ (¬ o = 18 → ((lg_cmp (J 40 0 (((I 24 0 28) - 2).toNatClampNeg)) (J 40 0 ((((I 24 0 28) - 2) + 1).toNatClampNeg))) = 0 → fmD_push_p (fm_u I 24 0 28 ((I 24 0 28) - 2)) 0 FP.dconst0) ∧ (¬ (lg_cmp (J 40 0 (((I 24 0 28) - 2).toNatClampNeg)) (J 40 0 ((((I 24 0 28) - 2) + 1).toNatClampNeg))) = 0 → fmD_push_p (fm_u I 24 0 28 ((I 24 0 28) - 2)) 0 FP.dconst0)))))))))))) ∧ (¬ o = 15 → (t = 0 → (o = 11 → fmD_push_p (fm_u I 24 0 28 ((I 24 0 28) - 2)) t FP.dconst0) ∧ (¬ o = 11 → (o = 12 → fmD_push_p (fm_u I 24 0 28 ((I 24 0 28) - 2)) t FP.dconst0) ∧ (¬ o = 12 → (o = 13 → fmD_push_p (fm_u I 24 0 28 ((I 24 0 28) - 2)) t FP.dconst0) ∧ (¬ o = 13 → (o = 14 → (¬ (J 40 0 ((((I 24 0 28) - 2) + 1).toNatClampNeg)) = 0) ∧ (fmD_push_p (fm_u I 24 0 28 ((I 24 0 28) - 2)) t FP.dconst0)) ∧ (¬ o = 14 → (o = 15 → (¬ (J 40 0 ((((I 24 0 28) - 2) + 1).toNatClampNeg)) = 0) ∧ (fmD_push_p (fm_u I 24 0 28 ((I 24 0 28) - 2)) t FP.dconst0)) ∧ (¬ o = 15 → (o = 16 → fmD_push_p (fm_u I 24 0 28 ((I 24 0 28) - 2)) t FP.dconst0) ∧ (¬ o = 16 → (o = 17 → fmD_push_p (fm_u I 24 0 28 ((I 24 0 28) - 2)) t FP.dconst0) ∧ (¬ o = 17 → (o = 18 → (0 ≤ (lg_cmp (J 40 0 (((I 24 0 28) - 2).toNatClampNeg)) (J 40 0 ((((I 24 0 28) - 2) + 1).toNatClampNeg))) → fmD_push_p (fm_u I 24 0 28 ((I 24 0 28) - 2)) 0 FP.dconst0) ∧ (¬ 0 ≤ (lg_cmp (J 40 0 (((I 24 0 28) - 2).toNatClampNeg)) (J 40 0 ((((I 24 0 28) - 2) + 1).toNatClampNeg))) → fmD_push_p (fm_u I 24 0 28 ((I 24 0 28) - 2)) 0 FP.dconst0)) ∧ (¬ o = 18 → ((lg_cmp (J 40 0 (((I 24 0 28) - 2).toNatClampNeg)) (J 40 0 ((((I 24 0 28) - 2) + 1).toNatClampNeg))) = 0 → fmD_push_p (fm_u I 24 0 28 ((I 24 0 28) - 2)) 0 FP.dconst0) ∧ (¬ (lg_cmp (J 40 0 (((I 24 0 28) - 2).toNatClampNeg)) (J 40 0 ((((I 24 0 28) - 2) + 1).toNatClampNeg))) = 0 → fmD_push_p (fm_u I 24 0 28 ((I 24 0 28) - 2)) 0 FP.dconst0)))))))))) ∧ (¬ t = 0 → (o = 11 → fmD_push_p (fm_u I 24 0 28 ((I 24 0 28) - 2)) t FP.dconst0) ∧ (¬ o = 11 → (o = 12 → fmD_push_p (fm_u I 24 0 28 ((I 24 0 28) - 2)) t FP.dconst0) ∧ (¬ o = 12 → (o = 13 → fmD_push_p (fm_u I 24 0 28 ((I 24 0 28) - 2)) t FP.dconst0) ∧ (¬ o = 13 → (o = 14 → (¬ (J 40 0 ((((I 24 0 28) - 2) + 1).toNatClampNeg)) = 0) ∧ (fmD_push_p (fm_u I 24 0 28 ((I 24 0 28) - 2)) t FP.dconst0)) ∧ (¬ o = 14 → (o = 15 → (¬ (J 40 0 ((((I 24 0 28) - 2) + 1).toNatClampNeg)) = 0) ∧ (fmD_push_p (fm_u I 24 0 28 ((I 24 0 28) - 2)) t FP.dconst0)) ∧ (¬ o = 15 → (o = 16 → fmD_push_p (fm_u I 24 0 28 ((I 24 0 28) - 2)) t FP.dconst0) ∧ (¬ o = 16 → (o = 17 → fmD_push_p (fm_u I 24 0 28 ((I 24 0 28) - 2)) t FP.dconst0) ∧ (¬ o = 17 → (o = 18 → (0 ≤ (lg_cmp (J 40 0 (((I 24 0 28) - 2).toNatClampNeg)) (J 40 0 ((((I 24 0 28) - 2) + 1).toNatClampNeg))) → fmD_push_p (fm_u I 24 0 28 ((I 24 0 28) - 2)) 0 FP.dconst0) ∧ (¬ 0 ≤ (lg_cmp (J 40 0 (((I 24 0 28) - 2).toNatClampNeg)) (J 40 0 ((((I 24 0 28) - 2) + 1).toNatClampNeg))) → fmD_push_p (fm_u I 24 0 28 ((I 24 0 28) - 2)) 0 FP.dconst0)) ∧ (¬ o = 18 → ((lg_cmp (J 40 0 (((I 24 0 28) - 2).toNatClampNeg)) (J 40 0 ((((I 24 0 28) - 2) + 1).toNatClampNeg))) = 0 → fmD_push_p (fm_u I 24 0 28 ((I 24 0 28) - 2)) 0 FP.dconst0) ∧ (¬ (lg_cmp (J 40 0 (((I 24 0 28) - 2).toNatClampNeg)) (J 40 0 ((((I 24 0 28) - 2) + 1).toNatClampNeg))) = 0 → fmD_push_p (fm_u I 24 0 28 ((I 24 0 28) - 2)) 0 FP.dconst0))))))))))))) ∧ (¬ t ≤ 1 → fmD_fractions_p (fm_u I 24 0 28 ((I 24 0 28) - 2)) o t (G 41 0 (((I 24 0 28) - 2).toNatClampNeg)) (G 41 0 ((((I 24 0 28) - 2) + 1).toNatClampNeg)))))))
set_option maxRecDepth 100000 in
set_option maxHeartbeats 4000000 in
theorem fmD_arithmetic_c {E : fm_Ev} (hl : E.1.stackTraces = false) {d : Nat} (hd : 2 ≤ d) (I : fm_MI) (J : fm_MJ) (G : fm_MG) (pa : Nat × Nat) (pb : Nat × Nat) (o : Int32) (t : Int32) (hp : fmD_arithmetic_p I J G o t) : fm_Ct E d fmD_arithmetic 0 [.inr (.inr (.inr (.inr (24, 0)))), .inl o, .inl t] (I, J, G, fm_P pa pb) none ((fmD_arithmetic_f I J G o t).1, (fmD_arithmetic_f I J G o t).2.1, (fmD_arithmetic_f I J G o t).2.2, fm_P pa pb) := by
  obtain ⟨d, rfl⟩ : ∃ d', d = d' + 1 := ⟨d - 1, by omega⟩
  refine fm_ct fmD_arithmetic_o hl (Nat.le_of_ble_eq_true rfl) ?_
  have O := fmD_arithmetic_o.1
  unfold fmD_arithmetic_p at hp
  have he := fmD_arithmetic_e I J G o t
  refine fm_gr O 10 (C' := (18, [(0, .inr (.inr (.inr (.inr (24, 0))))), (1, .inl o), (2, .inl t)], [.inl ((I 24 0 28) - 2), .inr (.inr (.inr (.inr (40, 0))))], (fm_u I 24 0 28 ((I 24 0 28) - 2), J, G, fm_P pa pb))) rfl ?_
  refine fm_gg O rfl hp.1 ?_
  have hp := hp.2
  refine fm_gr O 7 (C' := (30, [(3, .inr (.inl (J 40 0 (((I 24 0 28) - 2).toNatClampNeg)))), (0, .inr (.inr (.inr (.inr (24, 0))))), (1, .inl o), (2, .inl t)], [.inl (((I 24 0 28) - 2) + 1), .inr (.inr (.inr (.inr (40, 0))))], (fm_u I 24 0 28 ((I 24 0 28) - 2), J, G, fm_P pa pb))) rfl ?_
  refine fm_gg O rfl hp.1 ?_
  have hp := hp.2
  refine fm_gr O 5 (C' := (41, [(5, .inr (.inl (J 40 0 ((((I 24 0 28) - 2) + 1).toNatClampNeg)))), (3, .inr (.inl (J 40 0 (((I 24 0 28) - 2).toNatClampNeg)))), (0, .inr (.inr (.inr (.inr (24, 0))))), (1, .inl o), (2, .inl t)], [.inl ((I 24 0 28) - 2), .inr (.inr (.inr (.inr (41, 0))))], (fm_u I 24 0 28 ((I 24 0 28) - 2), J, G, fm_P pa pb))) rfl ?_
  refine fm_gg O rfl hp.1 ?_
  have hp := hp.2
  refine fm_gr O 7 (C' := (54, [(7, .inr (.inr (.inr (.inl (G 41 0 (((I 24 0 28) - 2).toNatClampNeg)))))), (5, .inr (.inl (J 40 0 ((((I 24 0 28) - 2) + 1).toNatClampNeg)))), (3, .inr (.inl (J 40 0 (((I 24 0 28) - 2).toNatClampNeg)))), (0, .inr (.inr (.inr (.inr (24, 0))))), (1, .inl o), (2, .inl t)], [.inl (((I 24 0 28) - 2) + 1), .inr (.inr (.inr (.inr (41, 0))))], (fm_u I 24 0 28 ((I 24 0 28) - 2), J, G, fm_P pa pb))) rfl ?_
  refine fm_gg O rfl hp.1 ?_
  have hp := hp.2
  refine fm_gr O 3 (C' := (59, [(9, .inr (.inr (.inr (.inl (G 41 0 ((((I 24 0 28) - 2) + 1).toNatClampNeg)))))), (7, .inr (.inr (.inr (.inl (G 41 0 (((I 24 0 28) - 2).toNatClampNeg)))))), (5, .inr (.inl (J 40 0 ((((I 24 0 28) - 2) + 1).toNatClampNeg)))), (3, .inr (.inl (J 40 0 (((I 24 0 28) - 2).toNatClampNeg)))), (0, .inr (.inr (.inr (.inr (24, 0))))), (1, .inl o), (2, .inl t)], [.inl 1, .inl t], (fm_u I 24 0 28 ((I 24 0 28) - 2), J, G, fm_P pa pb))) rfl ?_
  refine fm_gb O rfl (fun h => ?_) (fun h => ?_)
  · have h1 : t ≤ 1 := h
    have he := he.trans (if_pos h1)
    have hp := hp.1 h1
    refine fm_gr O 2 (C' := (76, [(9, .inr (.inr (.inr (.inl (G 41 0 ((((I 24 0 28) - 2) + 1).toNatClampNeg)))))), (7, .inr (.inr (.inr (.inl (G 41 0 (((I 24 0 28) - 2).toNatClampNeg)))))), (5, .inr (.inl (J 40 0 ((((I 24 0 28) - 2) + 1).toNatClampNeg)))), (3, .inr (.inl (J 40 0 (((I 24 0 28) - 2).toNatClampNeg)))), (0, .inr (.inr (.inr (.inr (24, 0))))), (1, .inl o), (2, .inl t)], [.inl 14, .inl o], (fm_u I 24 0 28 ((I 24 0 28) - 2), J, G, fm_P pa pb))) rfl ?_
    refine fm_gb O rfl (fun h => ?_) (fun h => ?_)
    · have h2 : o = 14 := h
      have he := he.trans (if_pos h2)
      have hp := hp.1 h2
      refine fm_gr O 3 (C' := (89, [(9, .inr (.inr (.inr (.inl (G 41 0 ((((I 24 0 28) - 2) + 1).toNatClampNeg)))))), (7, .inr (.inr (.inr (.inl (G 41 0 (((I 24 0 28) - 2).toNatClampNeg)))))), (5, .inr (.inl (J 40 0 ((((I 24 0 28) - 2) + 1).toNatClampNeg)))), (3, .inr (.inl (J 40 0 (((I 24 0 28) - 2).toNatClampNeg)))), (0, .inr (.inr (.inr (.inr (24, 0))))), (1, .inl o), (2, .inl t)], [.inl (lg_cmp (J 40 0 ((((I 24 0 28) - 2) + 1).toNatClampNeg)) 0)], (fm_u I 24 0 28 ((I 24 0 28) - 2), J, G, fm_P pa pb))) rfl ?_
      refine fm_gb O rfl (fun h => ?_) (fun h => ?_)
      · have h3 : (lg_cmp (J 40 0 ((((I 24 0 28) - 2) + 1).toNatClampNeg)) 0) = 0 := h
        have he := he.trans (if_pos h3)
        refine fm_gr O 3 (C' := (97, [(9, .inr (.inr (.inr (.inl (G 41 0 ((((I 24 0 28) - 2) + 1).toNatClampNeg)))))), (7, .inr (.inr (.inr (.inl (G 41 0 (((I 24 0 28) - 2).toNatClampNeg)))))), (5, .inr (.inl (J 40 0 ((((I 24 0 28) - 2) + 1).toNatClampNeg)))), (3, .inr (.inl (J 40 0 (((I 24 0 28) - 2).toNatClampNeg)))), (0, .inr (.inr (.inr (.inr (24, 0))))), (1, .inl o), (2, .inl t)], [], (fm_u (fm_u I 24 0 28 ((I 24 0 28) - 2)) 24 0 18 3, J, G, fm_P pa pb))) rfl ?_
        exact fm_gRe O rfl trivial (by first | (rw [he]; done) | (rw [he]; rfl) | rfl) (by first | (rw [he]; done) | (rw [he]; rfl) | rfl)
      · have h3 : ¬ (lg_cmp (J 40 0 ((((I 24 0 28) - 2) + 1).toNatClampNeg)) 0) = 0 := h
        have he := he.trans (if_neg h3)
        have hp := hp.2 h3
        refine fm_gr O 3 (C' := (102, [(9, .inr (.inr (.inr (.inl (G 41 0 ((((I 24 0 28) - 2) + 1).toNatClampNeg)))))), (7, .inr (.inr (.inr (.inl (G 41 0 (((I 24 0 28) - 2).toNatClampNeg)))))), (5, .inr (.inl (J 40 0 ((((I 24 0 28) - 2) + 1).toNatClampNeg)))), (3, .inr (.inl (J 40 0 (((I 24 0 28) - 2).toNatClampNeg)))), (0, .inr (.inr (.inr (.inr (24, 0))))), (1, .inl o), (2, .inl t)], [.inl t, .inl ((J 40 0 ((((I 24 0 28) - 2) + 1).toNatClampNeg)).toInt32)], (fm_u I 24 0 28 ((I 24 0 28) - 2), J, G, fm_P pa pb))) rfl ?_
        refine fm_gb O rfl (fun h => ?_) (fun h => ?_)
        · have h4 : t = 0 := h
          have he := he.trans (if_pos h4)
          have hp := hp.1 h4
          refine fm_gr O 5 (C' := (116, [(11, .inl (((J 40 0 ((((I 24 0 28) - 2) + 1).toNatClampNeg)).toInt32) &&& 31)), (9, .inr (.inr (.inr (.inl (G 41 0 ((((I 24 0 28) - 2) + 1).toNatClampNeg)))))), (7, .inr (.inr (.inr (.inl (G 41 0 (((I 24 0 28) - 2).toNatClampNeg)))))), (5, .inr (.inl (J 40 0 ((((I 24 0 28) - 2) + 1).toNatClampNeg)))), (3, .inr (.inl (J 40 0 (((I 24 0 28) - 2).toNatClampNeg)))), (0, .inr (.inr (.inr (.inr (24, 0))))), (1, .inl o), (2, .inl t)], [.inl o], (fm_u I 24 0 28 ((I 24 0 28) - 2), J, G, fm_P pa pb))) rfl ?_
          by_cases h5 : o = 11
          · have he := he.trans (if_pos h5)
            have hp := hp.1 h5
            refine fm_gs O 11 rfl (show o.toInt = 11 from by rw [h5]; decide) ?_
            refine fm_gr O 6 (C' := (171, [(11, .inl (((J 40 0 ((((I 24 0 28) - 2) + 1).toNatClampNeg)).toInt32) &&& 31)), (9, .inr (.inr (.inr (.inl (G 41 0 ((((I 24 0 28) - 2) + 1).toNatClampNeg)))))), (7, .inr (.inr (.inr (.inl (G 41 0 (((I 24 0 28) - 2).toNatClampNeg)))))), (5, .inr (.inl (J 40 0 ((((I 24 0 28) - 2) + 1).toNatClampNeg)))), (3, .inr (.inl (J 40 0 (((I 24 0 28) - 2).toNatClampNeg)))), (0, .inr (.inr (.inr (.inr (24, 0))))), (1, .inl o), (2, .inl t)], [.inr (.inr (.inr (.inl FP.dconst0))), .inr (.inl ((J 40 0 (((I 24 0 28) - 2).toNatClampNeg)) + (J 40 0 ((((I 24 0 28) - 2) + 1).toNatClampNeg)))), .inl t, .inr (.inr (.inr (.inr (24, 0))))], (fm_u I 24 0 28 ((I 24 0 28) - 2), J, G, fm_P pa pb))) rfl ?_
            have K := fmD_push_c (d := d) hl (by omega) (fm_u I 24 0 28 ((I 24 0 28) - 2)) J G pa pb t ((J 40 0 (((I 24 0 28) - 2).toNatClampNeg)) + (J 40 0 ((((I 24 0 28) - 2) + 1).toNatClampNeg))) FP.dconst0 hp
            generalize er1 : fmD_push_f (fm_u I 24 0 28 ((I 24 0 28) - 2)) J G t ((J 40 0 (((I 24 0 28) - 2).toNatClampNeg)) + (J 40 0 ((((I 24 0 28) - 2) + 1).toNatClampNeg))) FP.dconst0 = r1 at he
            have he := he.trans (fm_letE _ _)
            rw [er1] at K
            refine fm_cV0 O fmD_push_o (i := 0) (as := [.inl t, .inr (.inl ((J 40 0 (((I 24 0 28) - 2).toNatClampNeg)) + (J 40 0 ((((I 24 0 28) - 2) + 1).toNatClampNeg)))), .inr (.inr (.inr (.inl FP.dconst0)))]) (rest := []) (v := none) rfl fk_6_172 rfl (by decide) fn_D_push (Nat.le_of_ble_eq_true rfl) (K) ?_
            refine fm_gr O 1 (C' := (294, [(11, .inl (((J 40 0 ((((I 24 0 28) - 2) + 1).toNatClampNeg)).toInt32) &&& 31)), (9, .inr (.inr (.inr (.inl (G 41 0 ((((I 24 0 28) - 2) + 1).toNatClampNeg)))))), (7, .inr (.inr (.inr (.inl (G 41 0 (((I 24 0 28) - 2).toNatClampNeg)))))), (5, .inr (.inl (J 40 0 ((((I 24 0 28) - 2) + 1).toNatClampNeg)))), (3, .inr (.inl (J 40 0 (((I 24 0 28) - 2).toNatClampNeg)))), (0, .inr (.inr (.inr (.inr (24, 0))))), (1, .inl o), (2, .inl t)], [], (r1.1, r1.2.1, r1.2.2, fm_P pa pb))) rfl ?_
            exact fm_gRe O rfl trivial (by first | (rw [he]; done) | (rw [he]; rfl) | rfl) (by first | (rw [he]; done) | (rw [he]; rfl) | rfl)
          · have he := he.trans (if_neg h5)
            have hp := hp.2 h5
            by_cases h6 : o = 12
            · have he := he.trans (if_pos h6)
              have hp := hp.1 h6
              refine fm_gs O 12 rfl (show o.toInt = 12 from by rw [h6]; decide) ?_
              refine fm_gr O 6 (C' := (184, [(11, .inl (((J 40 0 ((((I 24 0 28) - 2) + 1).toNatClampNeg)).toInt32) &&& 31)), (9, .inr (.inr (.inr (.inl (G 41 0 ((((I 24 0 28) - 2) + 1).toNatClampNeg)))))), (7, .inr (.inr (.inr (.inl (G 41 0 (((I 24 0 28) - 2).toNatClampNeg)))))), (5, .inr (.inl (J 40 0 ((((I 24 0 28) - 2) + 1).toNatClampNeg)))), (3, .inr (.inl (J 40 0 (((I 24 0 28) - 2).toNatClampNeg)))), (0, .inr (.inr (.inr (.inr (24, 0))))), (1, .inl o), (2, .inl t)], [.inr (.inr (.inr (.inl FP.dconst0))), .inr (.inl ((J 40 0 (((I 24 0 28) - 2).toNatClampNeg)) - (J 40 0 ((((I 24 0 28) - 2) + 1).toNatClampNeg)))), .inl t, .inr (.inr (.inr (.inr (24, 0))))], (fm_u I 24 0 28 ((I 24 0 28) - 2), J, G, fm_P pa pb))) rfl ?_
              have K := fmD_push_c (d := d) hl (by omega) (fm_u I 24 0 28 ((I 24 0 28) - 2)) J G pa pb t ((J 40 0 (((I 24 0 28) - 2).toNatClampNeg)) - (J 40 0 ((((I 24 0 28) - 2) + 1).toNatClampNeg))) FP.dconst0 hp
              generalize er2 : fmD_push_f (fm_u I 24 0 28 ((I 24 0 28) - 2)) J G t ((J 40 0 (((I 24 0 28) - 2).toNatClampNeg)) - (J 40 0 ((((I 24 0 28) - 2) + 1).toNatClampNeg))) FP.dconst0 = r2 at he
              have he := he.trans (fm_letE _ _)
              rw [er2] at K
              refine fm_cV0 O fmD_push_o (i := 0) (as := [.inl t, .inr (.inl ((J 40 0 (((I 24 0 28) - 2).toNatClampNeg)) - (J 40 0 ((((I 24 0 28) - 2) + 1).toNatClampNeg)))), .inr (.inr (.inr (.inl FP.dconst0)))]) (rest := []) (v := none) rfl fk_6_172 rfl (by decide) fn_D_push (Nat.le_of_ble_eq_true rfl) (K) ?_
              refine fm_gr O 1 (C' := (294, [(11, .inl (((J 40 0 ((((I 24 0 28) - 2) + 1).toNatClampNeg)).toInt32) &&& 31)), (9, .inr (.inr (.inr (.inl (G 41 0 ((((I 24 0 28) - 2) + 1).toNatClampNeg)))))), (7, .inr (.inr (.inr (.inl (G 41 0 (((I 24 0 28) - 2).toNatClampNeg)))))), (5, .inr (.inl (J 40 0 ((((I 24 0 28) - 2) + 1).toNatClampNeg)))), (3, .inr (.inl (J 40 0 (((I 24 0 28) - 2).toNatClampNeg)))), (0, .inr (.inr (.inr (.inr (24, 0))))), (1, .inl o), (2, .inl t)], [], (r2.1, r2.2.1, r2.2.2, fm_P pa pb))) rfl ?_
              exact fm_gRe O rfl trivial (by first | (rw [he]; done) | (rw [he]; rfl) | rfl) (by first | (rw [he]; done) | (rw [he]; rfl) | rfl)
            · have he := he.trans (if_neg h6)
              have hp := hp.2 h6
              by_cases h7 : o = 13
              · have he := he.trans (if_pos h7)
                have hp := hp.1 h7
                refine fm_gs O 13 rfl (show o.toInt = 13 from by rw [h7]; decide) ?_
                refine fm_gr O 6 (C' := (197, [(11, .inl (((J 40 0 ((((I 24 0 28) - 2) + 1).toNatClampNeg)).toInt32) &&& 31)), (9, .inr (.inr (.inr (.inl (G 41 0 ((((I 24 0 28) - 2) + 1).toNatClampNeg)))))), (7, .inr (.inr (.inr (.inl (G 41 0 (((I 24 0 28) - 2).toNatClampNeg)))))), (5, .inr (.inl (J 40 0 ((((I 24 0 28) - 2) + 1).toNatClampNeg)))), (3, .inr (.inl (J 40 0 (((I 24 0 28) - 2).toNatClampNeg)))), (0, .inr (.inr (.inr (.inr (24, 0))))), (1, .inl o), (2, .inl t)], [.inr (.inr (.inr (.inl FP.dconst0))), .inr (.inl ((J 40 0 (((I 24 0 28) - 2).toNatClampNeg)) * (J 40 0 ((((I 24 0 28) - 2) + 1).toNatClampNeg)))), .inl t, .inr (.inr (.inr (.inr (24, 0))))], (fm_u I 24 0 28 ((I 24 0 28) - 2), J, G, fm_P pa pb))) rfl ?_
                have K := fmD_push_c (d := d) hl (by omega) (fm_u I 24 0 28 ((I 24 0 28) - 2)) J G pa pb t ((J 40 0 (((I 24 0 28) - 2).toNatClampNeg)) * (J 40 0 ((((I 24 0 28) - 2) + 1).toNatClampNeg))) FP.dconst0 hp
                generalize er3 : fmD_push_f (fm_u I 24 0 28 ((I 24 0 28) - 2)) J G t ((J 40 0 (((I 24 0 28) - 2).toNatClampNeg)) * (J 40 0 ((((I 24 0 28) - 2) + 1).toNatClampNeg))) FP.dconst0 = r3 at he
                have he := he.trans (fm_letE _ _)
                rw [er3] at K
                refine fm_cV0 O fmD_push_o (i := 0) (as := [.inl t, .inr (.inl ((J 40 0 (((I 24 0 28) - 2).toNatClampNeg)) * (J 40 0 ((((I 24 0 28) - 2) + 1).toNatClampNeg)))), .inr (.inr (.inr (.inl FP.dconst0)))]) (rest := []) (v := none) rfl fk_6_172 rfl (by decide) fn_D_push (Nat.le_of_ble_eq_true rfl) (K) ?_
                refine fm_gr O 1 (C' := (294, [(11, .inl (((J 40 0 ((((I 24 0 28) - 2) + 1).toNatClampNeg)).toInt32) &&& 31)), (9, .inr (.inr (.inr (.inl (G 41 0 ((((I 24 0 28) - 2) + 1).toNatClampNeg)))))), (7, .inr (.inr (.inr (.inl (G 41 0 (((I 24 0 28) - 2).toNatClampNeg)))))), (5, .inr (.inl (J 40 0 ((((I 24 0 28) - 2) + 1).toNatClampNeg)))), (3, .inr (.inl (J 40 0 (((I 24 0 28) - 2).toNatClampNeg)))), (0, .inr (.inr (.inr (.inr (24, 0))))), (1, .inl o), (2, .inl t)], [], (r3.1, r3.2.1, r3.2.2, fm_P pa pb))) rfl ?_
                exact fm_gRe O rfl trivial (by first | (rw [he]; done) | (rw [he]; rfl) | rfl) (by first | (rw [he]; done) | (rw [he]; rfl) | rfl)
              · have he := he.trans (if_neg h7)
                have hp := hp.2 h7
                by_cases h8 : o = 14
                · have he := he.trans (if_pos h8)
                  have hp := hp.1 h8
                  refine fm_gs O 14 rfl (show o.toInt = 14 from by rw [h8]; decide) ?_
                  refine fm_gr O 4 (C' := (208, [(11, .inl (((J 40 0 ((((I 24 0 28) - 2) + 1).toNatClampNeg)).toInt32) &&& 31)), (9, .inr (.inr (.inr (.inl (G 41 0 ((((I 24 0 28) - 2) + 1).toNatClampNeg)))))), (7, .inr (.inr (.inr (.inl (G 41 0 (((I 24 0 28) - 2).toNatClampNeg)))))), (5, .inr (.inl (J 40 0 ((((I 24 0 28) - 2) + 1).toNatClampNeg)))), (3, .inr (.inl (J 40 0 (((I 24 0 28) - 2).toNatClampNeg)))), (0, .inr (.inr (.inr (.inr (24, 0))))), (1, .inl o), (2, .inl t)], [.inr (.inl (J 40 0 ((((I 24 0 28) - 2) + 1).toNatClampNeg))), .inr (.inl (J 40 0 (((I 24 0 28) - 2).toNatClampNeg))), .inl t, .inr (.inr (.inr (.inr (24, 0))))], (fm_u I 24 0 28 ((I 24 0 28) - 2), J, G, fm_P pa pb))) rfl ?_
                  refine fm_gg O rfl hp.1 ?_
                  have hp := hp.2
                  refine fm_gr O 1 (C' := (210, [(11, .inl (((J 40 0 ((((I 24 0 28) - 2) + 1).toNatClampNeg)).toInt32) &&& 31)), (9, .inr (.inr (.inr (.inl (G 41 0 ((((I 24 0 28) - 2) + 1).toNatClampNeg)))))), (7, .inr (.inr (.inr (.inl (G 41 0 (((I 24 0 28) - 2).toNatClampNeg)))))), (5, .inr (.inl (J 40 0 ((((I 24 0 28) - 2) + 1).toNatClampNeg)))), (3, .inr (.inl (J 40 0 (((I 24 0 28) - 2).toNatClampNeg)))), (0, .inr (.inr (.inr (.inr (24, 0))))), (1, .inl o), (2, .inl t)], [.inr (.inr (.inr (.inl FP.dconst0))), .inr (.inl ((J 40 0 (((I 24 0 28) - 2).toNatClampNeg)) / (J 40 0 ((((I 24 0 28) - 2) + 1).toNatClampNeg)))), .inl t, .inr (.inr (.inr (.inr (24, 0))))], (fm_u I 24 0 28 ((I 24 0 28) - 2), J, G, fm_P pa pb))) rfl ?_
                  have K := fmD_push_c (d := d) hl (by omega) (fm_u I 24 0 28 ((I 24 0 28) - 2)) J G pa pb t ((J 40 0 (((I 24 0 28) - 2).toNatClampNeg)) / (J 40 0 ((((I 24 0 28) - 2) + 1).toNatClampNeg))) FP.dconst0 hp
                  generalize er4 : fmD_push_f (fm_u I 24 0 28 ((I 24 0 28) - 2)) J G t ((J 40 0 (((I 24 0 28) - 2).toNatClampNeg)) / (J 40 0 ((((I 24 0 28) - 2) + 1).toNatClampNeg))) FP.dconst0 = r4 at he
                  have he := he.trans (fm_letE _ _)
                  rw [er4] at K
                  refine fm_cV0 O fmD_push_o (i := 0) (as := [.inl t, .inr (.inl ((J 40 0 (((I 24 0 28) - 2).toNatClampNeg)) / (J 40 0 ((((I 24 0 28) - 2) + 1).toNatClampNeg)))), .inr (.inr (.inr (.inl FP.dconst0)))]) (rest := []) (v := none) rfl fk_6_172 rfl (by decide) fn_D_push (Nat.le_of_ble_eq_true rfl) (K) ?_
                  refine fm_gr O 1 (C' := (294, [(11, .inl (((J 40 0 ((((I 24 0 28) - 2) + 1).toNatClampNeg)).toInt32) &&& 31)), (9, .inr (.inr (.inr (.inl (G 41 0 ((((I 24 0 28) - 2) + 1).toNatClampNeg)))))), (7, .inr (.inr (.inr (.inl (G 41 0 (((I 24 0 28) - 2).toNatClampNeg)))))), (5, .inr (.inl (J 40 0 ((((I 24 0 28) - 2) + 1).toNatClampNeg)))), (3, .inr (.inl (J 40 0 (((I 24 0 28) - 2).toNatClampNeg)))), (0, .inr (.inr (.inr (.inr (24, 0))))), (1, .inl o), (2, .inl t)], [], (r4.1, r4.2.1, r4.2.2, fm_P pa pb))) rfl ?_
                  exact fm_gRe O rfl trivial (by first | (rw [he]; done) | (rw [he]; rfl) | rfl) (by first | (rw [he]; done) | (rw [he]; rfl) | rfl)
                · have he := he.trans (if_neg h8)
                  have hp := hp.2 h8
                  by_cases h9 : o = 15
                  · have he := he.trans (if_pos h9)
                    have hp := hp.1 h9
                    refine fm_gs O 15 rfl (show o.toInt = 15 from by rw [h9]; decide) ?_
                    refine fm_gr O 4 (C' := (221, [(11, .inl (((J 40 0 ((((I 24 0 28) - 2) + 1).toNatClampNeg)).toInt32) &&& 31)), (9, .inr (.inr (.inr (.inl (G 41 0 ((((I 24 0 28) - 2) + 1).toNatClampNeg)))))), (7, .inr (.inr (.inr (.inl (G 41 0 (((I 24 0 28) - 2).toNatClampNeg)))))), (5, .inr (.inl (J 40 0 ((((I 24 0 28) - 2) + 1).toNatClampNeg)))), (3, .inr (.inl (J 40 0 (((I 24 0 28) - 2).toNatClampNeg)))), (0, .inr (.inr (.inr (.inr (24, 0))))), (1, .inl o), (2, .inl t)], [.inr (.inl (J 40 0 ((((I 24 0 28) - 2) + 1).toNatClampNeg))), .inr (.inl (J 40 0 (((I 24 0 28) - 2).toNatClampNeg))), .inl t, .inr (.inr (.inr (.inr (24, 0))))], (fm_u I 24 0 28 ((I 24 0 28) - 2), J, G, fm_P pa pb))) rfl ?_
                    refine fm_gg O rfl hp.1 ?_
                    have hp := hp.2
                    refine fm_gr O 1 (C' := (223, [(11, .inl (((J 40 0 ((((I 24 0 28) - 2) + 1).toNatClampNeg)).toInt32) &&& 31)), (9, .inr (.inr (.inr (.inl (G 41 0 ((((I 24 0 28) - 2) + 1).toNatClampNeg)))))), (7, .inr (.inr (.inr (.inl (G 41 0 (((I 24 0 28) - 2).toNatClampNeg)))))), (5, .inr (.inl (J 40 0 ((((I 24 0 28) - 2) + 1).toNatClampNeg)))), (3, .inr (.inl (J 40 0 (((I 24 0 28) - 2).toNatClampNeg)))), (0, .inr (.inr (.inr (.inr (24, 0))))), (1, .inl o), (2, .inl t)], [.inr (.inr (.inr (.inl FP.dconst0))), .inr (.inl ((J 40 0 (((I 24 0 28) - 2).toNatClampNeg)) - (J 40 0 (((I 24 0 28) - 2).toNatClampNeg)) / (J 40 0 ((((I 24 0 28) - 2) + 1).toNatClampNeg)) * (J 40 0 ((((I 24 0 28) - 2) + 1).toNatClampNeg)))), .inl t, .inr (.inr (.inr (.inr (24, 0))))], (fm_u I 24 0 28 ((I 24 0 28) - 2), J, G, fm_P pa pb))) rfl ?_
                    have K := fmD_push_c (d := d) hl (by omega) (fm_u I 24 0 28 ((I 24 0 28) - 2)) J G pa pb t ((J 40 0 (((I 24 0 28) - 2).toNatClampNeg)) - (J 40 0 (((I 24 0 28) - 2).toNatClampNeg)) / (J 40 0 ((((I 24 0 28) - 2) + 1).toNatClampNeg)) * (J 40 0 ((((I 24 0 28) - 2) + 1).toNatClampNeg))) FP.dconst0 hp
                    generalize er5 : fmD_push_f (fm_u I 24 0 28 ((I 24 0 28) - 2)) J G t ((J 40 0 (((I 24 0 28) - 2).toNatClampNeg)) - (J 40 0 (((I 24 0 28) - 2).toNatClampNeg)) / (J 40 0 ((((I 24 0 28) - 2) + 1).toNatClampNeg)) * (J 40 0 ((((I 24 0 28) - 2) + 1).toNatClampNeg))) FP.dconst0 = r5 at he
                    have he := he.trans (fm_letE _ _)
                    rw [er5] at K
                    refine fm_cV0 O fmD_push_o (i := 0) (as := [.inl t, .inr (.inl ((J 40 0 (((I 24 0 28) - 2).toNatClampNeg)) - (J 40 0 (((I 24 0 28) - 2).toNatClampNeg)) / (J 40 0 ((((I 24 0 28) - 2) + 1).toNatClampNeg)) * (J 40 0 ((((I 24 0 28) - 2) + 1).toNatClampNeg)))), .inr (.inr (.inr (.inl FP.dconst0)))]) (rest := []) (v := none) rfl fk_6_172 rfl (by decide) fn_D_push (Nat.le_of_ble_eq_true rfl) (K) ?_
                    refine fm_gr O 1 (C' := (294, [(11, .inl (((J 40 0 ((((I 24 0 28) - 2) + 1).toNatClampNeg)).toInt32) &&& 31)), (9, .inr (.inr (.inr (.inl (G 41 0 ((((I 24 0 28) - 2) + 1).toNatClampNeg)))))), (7, .inr (.inr (.inr (.inl (G 41 0 (((I 24 0 28) - 2).toNatClampNeg)))))), (5, .inr (.inl (J 40 0 ((((I 24 0 28) - 2) + 1).toNatClampNeg)))), (3, .inr (.inl (J 40 0 (((I 24 0 28) - 2).toNatClampNeg)))), (0, .inr (.inr (.inr (.inr (24, 0))))), (1, .inl o), (2, .inl t)], [], (r5.1, r5.2.1, r5.2.2, fm_P pa pb))) rfl ?_
                    exact fm_gRe O rfl trivial (by first | (rw [he]; done) | (rw [he]; rfl) | rfl) (by first | (rw [he]; done) | (rw [he]; rfl) | rfl)
                  · have he := he.trans (if_neg h9)
                    have hp := hp.2 h9
                    by_cases h10 : o = 16
                    · have he := he.trans (if_pos h10)
                      have hp := hp.1 h10
                      refine fm_gs O 16 rfl (show o.toInt = 16 from by rw [h10]; decide) ?_
                      refine fm_gr O 6 (C' := (236, [(11, .inl (((J 40 0 ((((I 24 0 28) - 2) + 1).toNatClampNeg)).toInt32) &&& 31)), (9, .inr (.inr (.inr (.inl (G 41 0 ((((I 24 0 28) - 2) + 1).toNatClampNeg)))))), (7, .inr (.inr (.inr (.inl (G 41 0 (((I 24 0 28) - 2).toNatClampNeg)))))), (5, .inr (.inl (J 40 0 ((((I 24 0 28) - 2) + 1).toNatClampNeg)))), (3, .inr (.inl (J 40 0 (((I 24 0 28) - 2).toNatClampNeg)))), (0, .inr (.inr (.inr (.inr (24, 0))))), (1, .inl o), (2, .inl t)], [.inr (.inr (.inr (.inl FP.dconst0))), .inr (.inl ((J 40 0 (((I 24 0 28) - 2).toNatClampNeg)) &&& (J 40 0 ((((I 24 0 28) - 2) + 1).toNatClampNeg)))), .inl t, .inr (.inr (.inr (.inr (24, 0))))], (fm_u I 24 0 28 ((I 24 0 28) - 2), J, G, fm_P pa pb))) rfl ?_
                      have K := fmD_push_c (d := d) hl (by omega) (fm_u I 24 0 28 ((I 24 0 28) - 2)) J G pa pb t ((J 40 0 (((I 24 0 28) - 2).toNatClampNeg)) &&& (J 40 0 ((((I 24 0 28) - 2) + 1).toNatClampNeg))) FP.dconst0 hp
                      generalize er6 : fmD_push_f (fm_u I 24 0 28 ((I 24 0 28) - 2)) J G t ((J 40 0 (((I 24 0 28) - 2).toNatClampNeg)) &&& (J 40 0 ((((I 24 0 28) - 2) + 1).toNatClampNeg))) FP.dconst0 = r6 at he
                      have he := he.trans (fm_letE _ _)
                      rw [er6] at K
                      refine fm_cV0 O fmD_push_o (i := 0) (as := [.inl t, .inr (.inl ((J 40 0 (((I 24 0 28) - 2).toNatClampNeg)) &&& (J 40 0 ((((I 24 0 28) - 2) + 1).toNatClampNeg)))), .inr (.inr (.inr (.inl FP.dconst0)))]) (rest := []) (v := none) rfl fk_6_172 rfl (by decide) fn_D_push (Nat.le_of_ble_eq_true rfl) (K) ?_
                      refine fm_gr O 1 (C' := (294, [(11, .inl (((J 40 0 ((((I 24 0 28) - 2) + 1).toNatClampNeg)).toInt32) &&& 31)), (9, .inr (.inr (.inr (.inl (G 41 0 ((((I 24 0 28) - 2) + 1).toNatClampNeg)))))), (7, .inr (.inr (.inr (.inl (G 41 0 (((I 24 0 28) - 2).toNatClampNeg)))))), (5, .inr (.inl (J 40 0 ((((I 24 0 28) - 2) + 1).toNatClampNeg)))), (3, .inr (.inl (J 40 0 (((I 24 0 28) - 2).toNatClampNeg)))), (0, .inr (.inr (.inr (.inr (24, 0))))), (1, .inl o), (2, .inl t)], [], (r6.1, r6.2.1, r6.2.2, fm_P pa pb))) rfl ?_
                      exact fm_gRe O rfl trivial (by first | (rw [he]; done) | (rw [he]; rfl) | rfl) (by first | (rw [he]; done) | (rw [he]; rfl) | rfl)
                    · have he := he.trans (if_neg h10)
                      have hp := hp.2 h10
                      by_cases h11 : o = 17
                      · have he := he.trans (if_pos h11)
                        have hp := hp.1 h11
                        refine fm_gs O 17 rfl (show o.toInt = 17 from by rw [h11]; decide) ?_
                        refine fm_gr O 6 (C' := (249, [(11, .inl (((J 40 0 ((((I 24 0 28) - 2) + 1).toNatClampNeg)).toInt32) &&& 31)), (9, .inr (.inr (.inr (.inl (G 41 0 ((((I 24 0 28) - 2) + 1).toNatClampNeg)))))), (7, .inr (.inr (.inr (.inl (G 41 0 (((I 24 0 28) - 2).toNatClampNeg)))))), (5, .inr (.inl (J 40 0 ((((I 24 0 28) - 2) + 1).toNatClampNeg)))), (3, .inr (.inl (J 40 0 (((I 24 0 28) - 2).toNatClampNeg)))), (0, .inr (.inr (.inr (.inr (24, 0))))), (1, .inl o), (2, .inl t)], [.inr (.inr (.inr (.inl FP.dconst0))), .inr (.inl ((J 40 0 (((I 24 0 28) - 2).toNatClampNeg)) <<< ((((J 40 0 ((((I 24 0 28) - 2) + 1).toNatClampNeg)).toInt32) &&& 31).toInt64 &&& 63))), .inl t, .inr (.inr (.inr (.inr (24, 0))))], (fm_u I 24 0 28 ((I 24 0 28) - 2), J, G, fm_P pa pb))) rfl ?_
                        have K := fmD_push_c (d := d) hl (by omega) (fm_u I 24 0 28 ((I 24 0 28) - 2)) J G pa pb t ((J 40 0 (((I 24 0 28) - 2).toNatClampNeg)) <<< ((((J 40 0 ((((I 24 0 28) - 2) + 1).toNatClampNeg)).toInt32) &&& 31).toInt64 &&& 63)) FP.dconst0 hp
                        generalize er7 : fmD_push_f (fm_u I 24 0 28 ((I 24 0 28) - 2)) J G t ((J 40 0 (((I 24 0 28) - 2).toNatClampNeg)) <<< ((((J 40 0 ((((I 24 0 28) - 2) + 1).toNatClampNeg)).toInt32) &&& 31).toInt64 &&& 63)) FP.dconst0 = r7 at he
                        have he := he.trans (fm_letE _ _)
                        rw [er7] at K
                        refine fm_cV0 O fmD_push_o (i := 0) (as := [.inl t, .inr (.inl ((J 40 0 (((I 24 0 28) - 2).toNatClampNeg)) <<< ((((J 40 0 ((((I 24 0 28) - 2) + 1).toNatClampNeg)).toInt32) &&& 31).toInt64 &&& 63))), .inr (.inr (.inr (.inl FP.dconst0)))]) (rest := []) (v := none) rfl fk_6_172 rfl (by decide) fn_D_push (Nat.le_of_ble_eq_true rfl) (K) ?_
                        refine fm_gr O 1 (C' := (294, [(11, .inl (((J 40 0 ((((I 24 0 28) - 2) + 1).toNatClampNeg)).toInt32) &&& 31)), (9, .inr (.inr (.inr (.inl (G 41 0 ((((I 24 0 28) - 2) + 1).toNatClampNeg)))))), (7, .inr (.inr (.inr (.inl (G 41 0 (((I 24 0 28) - 2).toNatClampNeg)))))), (5, .inr (.inl (J 40 0 ((((I 24 0 28) - 2) + 1).toNatClampNeg)))), (3, .inr (.inl (J 40 0 (((I 24 0 28) - 2).toNatClampNeg)))), (0, .inr (.inr (.inr (.inr (24, 0))))), (1, .inl o), (2, .inl t)], [], (r7.1, r7.2.1, r7.2.2, fm_P pa pb))) rfl ?_
                        exact fm_gRe O rfl trivial (by first | (rw [he]; done) | (rw [he]; rfl) | rfl) (by first | (rw [he]; done) | (rw [he]; rfl) | rfl)
                      · have he := he.trans (if_neg h11)
                        have hp := hp.2 h11
                        by_cases h12 : o = 18
                        · have he := he.trans (if_pos h12)
                          have hp := hp.1 h12
                          refine fm_gs O 18 rfl (show o.toInt = 18 from by rw [h12]; decide) ?_
                          refine fm_gr O 5 (C' := (261, [(11, .inl (((J 40 0 ((((I 24 0 28) - 2) + 1).toNatClampNeg)).toInt32) &&& 31)), (9, .inr (.inr (.inr (.inl (G 41 0 ((((I 24 0 28) - 2) + 1).toNatClampNeg)))))), (7, .inr (.inr (.inr (.inl (G 41 0 (((I 24 0 28) - 2).toNatClampNeg)))))), (5, .inr (.inl (J 40 0 ((((I 24 0 28) - 2) + 1).toNatClampNeg)))), (3, .inr (.inl (J 40 0 (((I 24 0 28) - 2).toNatClampNeg)))), (0, .inr (.inr (.inr (.inr (24, 0))))), (1, .inl o), (2, .inl t)], [.inl (lg_cmp (J 40 0 (((I 24 0 28) - 2).toNatClampNeg)) (J 40 0 ((((I 24 0 28) - 2) + 1).toNatClampNeg))), .inl 0, .inr (.inr (.inr (.inr (24, 0))))], (fm_u I 24 0 28 ((I 24 0 28) - 2), J, G, fm_P pa pb))) rfl ?_
                          refine fm_gb O rfl (fun h => ?_) (fun h => ?_)
                          · have h13 : 0 ≤ (lg_cmp (J 40 0 (((I 24 0 28) - 2).toNatClampNeg)) (J 40 0 ((((I 24 0 28) - 2) + 1).toNatClampNeg))) := h
                            have he := he.trans (if_pos h13)
                            have hp := hp.1 h13
                            refine fm_gr O 2 (C' := (270, [(11, .inl (((J 40 0 ((((I 24 0 28) - 2) + 1).toNatClampNeg)).toInt32) &&& 31)), (9, .inr (.inr (.inr (.inl (G 41 0 ((((I 24 0 28) - 2) + 1).toNatClampNeg)))))), (7, .inr (.inr (.inr (.inl (G 41 0 (((I 24 0 28) - 2).toNatClampNeg)))))), (5, .inr (.inl (J 40 0 ((((I 24 0 28) - 2) + 1).toNatClampNeg)))), (3, .inr (.inl (J 40 0 (((I 24 0 28) - 2).toNatClampNeg)))), (0, .inr (.inr (.inr (.inr (24, 0))))), (1, .inl o), (2, .inl t)], [.inr (.inr (.inr (.inl FP.dconst0))), .inr (.inl 0), .inl 0, .inr (.inr (.inr (.inr (24, 0))))], (fm_u I 24 0 28 ((I 24 0 28) - 2), J, G, fm_P pa pb))) rfl ?_
                            have K := fmD_push_c (d := d) hl (by omega) (fm_u I 24 0 28 ((I 24 0 28) - 2)) J G pa pb 0 0 FP.dconst0 hp
                            generalize er8 : fmD_push_f (fm_u I 24 0 28 ((I 24 0 28) - 2)) J G 0 0 FP.dconst0 = r8 at he
                            have he := he.trans (fm_letE _ _)
                            rw [er8] at K
                            refine fm_cV0 O fmD_push_o (i := 0) (as := [.inl 0, .inr (.inl 0), .inr (.inr (.inr (.inl FP.dconst0)))]) (rest := []) (v := none) rfl fk_6_172 rfl (by decide) fn_D_push (Nat.le_of_ble_eq_true rfl) (K) ?_
                            refine fm_gr O 1 (C' := (294, [(11, .inl (((J 40 0 ((((I 24 0 28) - 2) + 1).toNatClampNeg)).toInt32) &&& 31)), (9, .inr (.inr (.inr (.inl (G 41 0 ((((I 24 0 28) - 2) + 1).toNatClampNeg)))))), (7, .inr (.inr (.inr (.inl (G 41 0 (((I 24 0 28) - 2).toNatClampNeg)))))), (5, .inr (.inl (J 40 0 ((((I 24 0 28) - 2) + 1).toNatClampNeg)))), (3, .inr (.inl (J 40 0 (((I 24 0 28) - 2).toNatClampNeg)))), (0, .inr (.inr (.inr (.inr (24, 0))))), (1, .inl o), (2, .inl t)], [], (r8.1, r8.2.1, r8.2.2, fm_P pa pb))) rfl ?_
                            exact fm_gRe O rfl trivial (by first | (rw [he]; done) | (rw [he]; rfl) | rfl) (by first | (rw [he]; done) | (rw [he]; rfl) | rfl)
                          · have h13 : ¬ 0 ≤ (lg_cmp (J 40 0 (((I 24 0 28) - 2).toNatClampNeg)) (J 40 0 ((((I 24 0 28) - 2) + 1).toNatClampNeg))) := h
                            have he := he.trans (if_neg h13)
                            have hp := hp.2 h13
                            refine fm_gr O 3 (C' := (270, [(11, .inl (((J 40 0 ((((I 24 0 28) - 2) + 1).toNatClampNeg)).toInt32) &&& 31)), (9, .inr (.inr (.inr (.inl (G 41 0 ((((I 24 0 28) - 2) + 1).toNatClampNeg)))))), (7, .inr (.inr (.inr (.inl (G 41 0 (((I 24 0 28) - 2).toNatClampNeg)))))), (5, .inr (.inl (J 40 0 ((((I 24 0 28) - 2) + 1).toNatClampNeg)))), (3, .inr (.inl (J 40 0 (((I 24 0 28) - 2).toNatClampNeg)))), (0, .inr (.inr (.inr (.inr (24, 0))))), (1, .inl o), (2, .inl t)], [.inr (.inr (.inr (.inl FP.dconst0))), .inr (.inl 1), .inl 0, .inr (.inr (.inr (.inr (24, 0))))], (fm_u I 24 0 28 ((I 24 0 28) - 2), J, G, fm_P pa pb))) rfl ?_
                            have K := fmD_push_c (d := d) hl (by omega) (fm_u I 24 0 28 ((I 24 0 28) - 2)) J G pa pb 0 1 FP.dconst0 hp
                            generalize er9 : fmD_push_f (fm_u I 24 0 28 ((I 24 0 28) - 2)) J G 0 1 FP.dconst0 = r9 at he
                            have he := he.trans (fm_letE _ _)
                            rw [er9] at K
                            refine fm_cV0 O fmD_push_o (i := 0) (as := [.inl 0, .inr (.inl 1), .inr (.inr (.inr (.inl FP.dconst0)))]) (rest := []) (v := none) rfl fk_6_172 rfl (by decide) fn_D_push (Nat.le_of_ble_eq_true rfl) (K) ?_
                            refine fm_gr O 1 (C' := (294, [(11, .inl (((J 40 0 ((((I 24 0 28) - 2) + 1).toNatClampNeg)).toInt32) &&& 31)), (9, .inr (.inr (.inr (.inl (G 41 0 ((((I 24 0 28) - 2) + 1).toNatClampNeg)))))), (7, .inr (.inr (.inr (.inl (G 41 0 (((I 24 0 28) - 2).toNatClampNeg)))))), (5, .inr (.inl (J 40 0 ((((I 24 0 28) - 2) + 1).toNatClampNeg)))), (3, .inr (.inl (J 40 0 (((I 24 0 28) - 2).toNatClampNeg)))), (0, .inr (.inr (.inr (.inr (24, 0))))), (1, .inl o), (2, .inl t)], [], (r9.1, r9.2.1, r9.2.2, fm_P pa pb))) rfl ?_
                            exact fm_gRe O rfl trivial (by first | (rw [he]; done) | (rw [he]; rfl) | rfl) (by first | (rw [he]; done) | (rw [he]; rfl) | rfl)
                        · have he := he.trans (if_neg h12)
                          have hp := hp.2 h12
                          refine fm_gt O rfl (by
                              show o.toInt < 11 ∨ 18 < o.toInt
                              have := lv_neT h5 (show (11 : Int32).toInt = 11 from by decide)
                              have := lv_neT h6 (show (12 : Int32).toInt = 12 from by decide)
                              have := lv_neT h7 (show (13 : Int32).toInt = 13 from by decide)
                              have := lv_neT h8 (show (14 : Int32).toInt = 14 from by decide)
                              have := lv_neT h9 (show (15 : Int32).toInt = 15 from by decide)
                              have := lv_neT h10 (show (16 : Int32).toInt = 16 from by decide)
                              have := lv_neT h11 (show (17 : Int32).toInt = 17 from by decide)
                              have := lv_neT h12 (show (18 : Int32).toInt = 18 from by decide)
                              omega) ?_
                          refine fm_gr O 5 (C' := (282, [(11, .inl (((J 40 0 ((((I 24 0 28) - 2) + 1).toNatClampNeg)).toInt32) &&& 31)), (9, .inr (.inr (.inr (.inl (G 41 0 ((((I 24 0 28) - 2) + 1).toNatClampNeg)))))), (7, .inr (.inr (.inr (.inl (G 41 0 (((I 24 0 28) - 2).toNatClampNeg)))))), (5, .inr (.inl (J 40 0 ((((I 24 0 28) - 2) + 1).toNatClampNeg)))), (3, .inr (.inl (J 40 0 (((I 24 0 28) - 2).toNatClampNeg)))), (0, .inr (.inr (.inr (.inr (24, 0))))), (1, .inl o), (2, .inl t)], [.inl (lg_cmp (J 40 0 (((I 24 0 28) - 2).toNatClampNeg)) (J 40 0 ((((I 24 0 28) - 2) + 1).toNatClampNeg))), .inl 0, .inr (.inr (.inr (.inr (24, 0))))], (fm_u I 24 0 28 ((I 24 0 28) - 2), J, G, fm_P pa pb))) rfl ?_
                          refine fm_gb O rfl (fun h => ?_) (fun h => ?_)
                          · have h13 : (lg_cmp (J 40 0 (((I 24 0 28) - 2).toNatClampNeg)) (J 40 0 ((((I 24 0 28) - 2) + 1).toNatClampNeg))) = 0 := h
                            have he := he.trans (if_pos h13)
                            have hp := hp.1 h13
                            refine fm_gr O 3 (C' := (291, [(11, .inl (((J 40 0 ((((I 24 0 28) - 2) + 1).toNatClampNeg)).toInt32) &&& 31)), (9, .inr (.inr (.inr (.inl (G 41 0 ((((I 24 0 28) - 2) + 1).toNatClampNeg)))))), (7, .inr (.inr (.inr (.inl (G 41 0 (((I 24 0 28) - 2).toNatClampNeg)))))), (5, .inr (.inl (J 40 0 ((((I 24 0 28) - 2) + 1).toNatClampNeg)))), (3, .inr (.inl (J 40 0 (((I 24 0 28) - 2).toNatClampNeg)))), (0, .inr (.inr (.inr (.inr (24, 0))))), (1, .inl o), (2, .inl t)], [.inr (.inr (.inr (.inl FP.dconst0))), .inr (.inl 1), .inl 0, .inr (.inr (.inr (.inr (24, 0))))], (fm_u I 24 0 28 ((I 24 0 28) - 2), J, G, fm_P pa pb))) rfl ?_
                            have K := fmD_push_c (d := d) hl (by omega) (fm_u I 24 0 28 ((I 24 0 28) - 2)) J G pa pb 0 1 FP.dconst0 hp
                            generalize er10 : fmD_push_f (fm_u I 24 0 28 ((I 24 0 28) - 2)) J G 0 1 FP.dconst0 = r10 at he
                            have he := he.trans (fm_letE _ _)
                            rw [er10] at K
                            refine fm_cV0 O fmD_push_o (i := 0) (as := [.inl 0, .inr (.inl 1), .inr (.inr (.inr (.inl FP.dconst0)))]) (rest := []) (v := none) rfl fk_6_172 rfl (by decide) fn_D_push (Nat.le_of_ble_eq_true rfl) (K) ?_
                            exact fm_gRe O rfl trivial (by first | (rw [he]; done) | (rw [he]; rfl) | rfl) (by first | (rw [he]; done) | (rw [he]; rfl) | rfl)
                          · have h13 : ¬ (lg_cmp (J 40 0 (((I 24 0 28) - 2).toNatClampNeg)) (J 40 0 ((((I 24 0 28) - 2) + 1).toNatClampNeg))) = 0 := h
                            have he := he.trans (if_neg h13)
                            have hp := hp.2 h13
                            refine fm_gr O 2 (C' := (291, [(11, .inl (((J 40 0 ((((I 24 0 28) - 2) + 1).toNatClampNeg)).toInt32) &&& 31)), (9, .inr (.inr (.inr (.inl (G 41 0 ((((I 24 0 28) - 2) + 1).toNatClampNeg)))))), (7, .inr (.inr (.inr (.inl (G 41 0 (((I 24 0 28) - 2).toNatClampNeg)))))), (5, .inr (.inl (J 40 0 ((((I 24 0 28) - 2) + 1).toNatClampNeg)))), (3, .inr (.inl (J 40 0 (((I 24 0 28) - 2).toNatClampNeg)))), (0, .inr (.inr (.inr (.inr (24, 0))))), (1, .inl o), (2, .inl t)], [.inr (.inr (.inr (.inl FP.dconst0))), .inr (.inl 0), .inl 0, .inr (.inr (.inr (.inr (24, 0))))], (fm_u I 24 0 28 ((I 24 0 28) - 2), J, G, fm_P pa pb))) rfl ?_
                            have K := fmD_push_c (d := d) hl (by omega) (fm_u I 24 0 28 ((I 24 0 28) - 2)) J G pa pb 0 0 FP.dconst0 hp
                            generalize er11 : fmD_push_f (fm_u I 24 0 28 ((I 24 0 28) - 2)) J G 0 0 FP.dconst0 = r11 at he
                            have he := he.trans (fm_letE _ _)
                            rw [er11] at K
                            refine fm_cV0 O fmD_push_o (i := 0) (as := [.inl 0, .inr (.inl 0), .inr (.inr (.inr (.inl FP.dconst0)))]) (rest := []) (v := none) rfl fk_6_172 rfl (by decide) fn_D_push (Nat.le_of_ble_eq_true rfl) (K) ?_
                            exact fm_gRe O rfl trivial (by first | (rw [he]; done) | (rw [he]; rfl) | rfl) (by first | (rw [he]; done) | (rw [he]; rfl) | rfl)
        · have h4 : ¬ t = 0 := h
          have he := he.trans (if_neg h4)
          have hp := hp.2 h4
          refine fm_gr O 4 (C' := (116, [(11, .inl (((J 40 0 ((((I 24 0 28) - 2) + 1).toNatClampNeg)).toInt32) &&& 63)), (9, .inr (.inr (.inr (.inl (G 41 0 ((((I 24 0 28) - 2) + 1).toNatClampNeg)))))), (7, .inr (.inr (.inr (.inl (G 41 0 (((I 24 0 28) - 2).toNatClampNeg)))))), (5, .inr (.inl (J 40 0 ((((I 24 0 28) - 2) + 1).toNatClampNeg)))), (3, .inr (.inl (J 40 0 (((I 24 0 28) - 2).toNatClampNeg)))), (0, .inr (.inr (.inr (.inr (24, 0))))), (1, .inl o), (2, .inl t)], [.inl o], (fm_u I 24 0 28 ((I 24 0 28) - 2), J, G, fm_P pa pb))) rfl ?_
          by_cases h5 : o = 11
          · have he := he.trans (if_pos h5)
            have hp := hp.1 h5
            refine fm_gs O 11 rfl (show o.toInt = 11 from by rw [h5]; decide) ?_
            refine fm_gr O 6 (C' := (171, [(11, .inl (((J 40 0 ((((I 24 0 28) - 2) + 1).toNatClampNeg)).toInt32) &&& 63)), (9, .inr (.inr (.inr (.inl (G 41 0 ((((I 24 0 28) - 2) + 1).toNatClampNeg)))))), (7, .inr (.inr (.inr (.inl (G 41 0 (((I 24 0 28) - 2).toNatClampNeg)))))), (5, .inr (.inl (J 40 0 ((((I 24 0 28) - 2) + 1).toNatClampNeg)))), (3, .inr (.inl (J 40 0 (((I 24 0 28) - 2).toNatClampNeg)))), (0, .inr (.inr (.inr (.inr (24, 0))))), (1, .inl o), (2, .inl t)], [.inr (.inr (.inr (.inl FP.dconst0))), .inr (.inl ((J 40 0 (((I 24 0 28) - 2).toNatClampNeg)) + (J 40 0 ((((I 24 0 28) - 2) + 1).toNatClampNeg)))), .inl t, .inr (.inr (.inr (.inr (24, 0))))], (fm_u I 24 0 28 ((I 24 0 28) - 2), J, G, fm_P pa pb))) rfl ?_
            have K := fmD_push_c (d := d) hl (by omega) (fm_u I 24 0 28 ((I 24 0 28) - 2)) J G pa pb t ((J 40 0 (((I 24 0 28) - 2).toNatClampNeg)) + (J 40 0 ((((I 24 0 28) - 2) + 1).toNatClampNeg))) FP.dconst0 hp
            generalize er12 : fmD_push_f (fm_u I 24 0 28 ((I 24 0 28) - 2)) J G t ((J 40 0 (((I 24 0 28) - 2).toNatClampNeg)) + (J 40 0 ((((I 24 0 28) - 2) + 1).toNatClampNeg))) FP.dconst0 = r12 at he
            have he := he.trans (fm_letE _ _)
            rw [er12] at K
            refine fm_cV0 O fmD_push_o (i := 0) (as := [.inl t, .inr (.inl ((J 40 0 (((I 24 0 28) - 2).toNatClampNeg)) + (J 40 0 ((((I 24 0 28) - 2) + 1).toNatClampNeg)))), .inr (.inr (.inr (.inl FP.dconst0)))]) (rest := []) (v := none) rfl fk_6_172 rfl (by decide) fn_D_push (Nat.le_of_ble_eq_true rfl) (K) ?_
            refine fm_gr O 1 (C' := (294, [(11, .inl (((J 40 0 ((((I 24 0 28) - 2) + 1).toNatClampNeg)).toInt32) &&& 63)), (9, .inr (.inr (.inr (.inl (G 41 0 ((((I 24 0 28) - 2) + 1).toNatClampNeg)))))), (7, .inr (.inr (.inr (.inl (G 41 0 (((I 24 0 28) - 2).toNatClampNeg)))))), (5, .inr (.inl (J 40 0 ((((I 24 0 28) - 2) + 1).toNatClampNeg)))), (3, .inr (.inl (J 40 0 (((I 24 0 28) - 2).toNatClampNeg)))), (0, .inr (.inr (.inr (.inr (24, 0))))), (1, .inl o), (2, .inl t)], [], (r12.1, r12.2.1, r12.2.2, fm_P pa pb))) rfl ?_
            exact fm_gRe O rfl trivial (by first | (rw [he]; done) | (rw [he]; rfl) | rfl) (by first | (rw [he]; done) | (rw [he]; rfl) | rfl)
          · have he := he.trans (if_neg h5)
            have hp := hp.2 h5
            by_cases h6 : o = 12
            · have he := he.trans (if_pos h6)
              have hp := hp.1 h6
              refine fm_gs O 12 rfl (show o.toInt = 12 from by rw [h6]; decide) ?_
              refine fm_gr O 6 (C' := (184, [(11, .inl (((J 40 0 ((((I 24 0 28) - 2) + 1).toNatClampNeg)).toInt32) &&& 63)), (9, .inr (.inr (.inr (.inl (G 41 0 ((((I 24 0 28) - 2) + 1).toNatClampNeg)))))), (7, .inr (.inr (.inr (.inl (G 41 0 (((I 24 0 28) - 2).toNatClampNeg)))))), (5, .inr (.inl (J 40 0 ((((I 24 0 28) - 2) + 1).toNatClampNeg)))), (3, .inr (.inl (J 40 0 (((I 24 0 28) - 2).toNatClampNeg)))), (0, .inr (.inr (.inr (.inr (24, 0))))), (1, .inl o), (2, .inl t)], [.inr (.inr (.inr (.inl FP.dconst0))), .inr (.inl ((J 40 0 (((I 24 0 28) - 2).toNatClampNeg)) - (J 40 0 ((((I 24 0 28) - 2) + 1).toNatClampNeg)))), .inl t, .inr (.inr (.inr (.inr (24, 0))))], (fm_u I 24 0 28 ((I 24 0 28) - 2), J, G, fm_P pa pb))) rfl ?_
              have K := fmD_push_c (d := d) hl (by omega) (fm_u I 24 0 28 ((I 24 0 28) - 2)) J G pa pb t ((J 40 0 (((I 24 0 28) - 2).toNatClampNeg)) - (J 40 0 ((((I 24 0 28) - 2) + 1).toNatClampNeg))) FP.dconst0 hp
              generalize er13 : fmD_push_f (fm_u I 24 0 28 ((I 24 0 28) - 2)) J G t ((J 40 0 (((I 24 0 28) - 2).toNatClampNeg)) - (J 40 0 ((((I 24 0 28) - 2) + 1).toNatClampNeg))) FP.dconst0 = r13 at he
              have he := he.trans (fm_letE _ _)
              rw [er13] at K
              refine fm_cV0 O fmD_push_o (i := 0) (as := [.inl t, .inr (.inl ((J 40 0 (((I 24 0 28) - 2).toNatClampNeg)) - (J 40 0 ((((I 24 0 28) - 2) + 1).toNatClampNeg)))), .inr (.inr (.inr (.inl FP.dconst0)))]) (rest := []) (v := none) rfl fk_6_172 rfl (by decide) fn_D_push (Nat.le_of_ble_eq_true rfl) (K) ?_
              refine fm_gr O 1 (C' := (294, [(11, .inl (((J 40 0 ((((I 24 0 28) - 2) + 1).toNatClampNeg)).toInt32) &&& 63)), (9, .inr (.inr (.inr (.inl (G 41 0 ((((I 24 0 28) - 2) + 1).toNatClampNeg)))))), (7, .inr (.inr (.inr (.inl (G 41 0 (((I 24 0 28) - 2).toNatClampNeg)))))), (5, .inr (.inl (J 40 0 ((((I 24 0 28) - 2) + 1).toNatClampNeg)))), (3, .inr (.inl (J 40 0 (((I 24 0 28) - 2).toNatClampNeg)))), (0, .inr (.inr (.inr (.inr (24, 0))))), (1, .inl o), (2, .inl t)], [], (r13.1, r13.2.1, r13.2.2, fm_P pa pb))) rfl ?_
              exact fm_gRe O rfl trivial (by first | (rw [he]; done) | (rw [he]; rfl) | rfl) (by first | (rw [he]; done) | (rw [he]; rfl) | rfl)
            · have he := he.trans (if_neg h6)
              have hp := hp.2 h6
              by_cases h7 : o = 13
              · have he := he.trans (if_pos h7)
                have hp := hp.1 h7
                refine fm_gs O 13 rfl (show o.toInt = 13 from by rw [h7]; decide) ?_
                refine fm_gr O 6 (C' := (197, [(11, .inl (((J 40 0 ((((I 24 0 28) - 2) + 1).toNatClampNeg)).toInt32) &&& 63)), (9, .inr (.inr (.inr (.inl (G 41 0 ((((I 24 0 28) - 2) + 1).toNatClampNeg)))))), (7, .inr (.inr (.inr (.inl (G 41 0 (((I 24 0 28) - 2).toNatClampNeg)))))), (5, .inr (.inl (J 40 0 ((((I 24 0 28) - 2) + 1).toNatClampNeg)))), (3, .inr (.inl (J 40 0 (((I 24 0 28) - 2).toNatClampNeg)))), (0, .inr (.inr (.inr (.inr (24, 0))))), (1, .inl o), (2, .inl t)], [.inr (.inr (.inr (.inl FP.dconst0))), .inr (.inl ((J 40 0 (((I 24 0 28) - 2).toNatClampNeg)) * (J 40 0 ((((I 24 0 28) - 2) + 1).toNatClampNeg)))), .inl t, .inr (.inr (.inr (.inr (24, 0))))], (fm_u I 24 0 28 ((I 24 0 28) - 2), J, G, fm_P pa pb))) rfl ?_
                have K := fmD_push_c (d := d) hl (by omega) (fm_u I 24 0 28 ((I 24 0 28) - 2)) J G pa pb t ((J 40 0 (((I 24 0 28) - 2).toNatClampNeg)) * (J 40 0 ((((I 24 0 28) - 2) + 1).toNatClampNeg))) FP.dconst0 hp
                generalize er14 : fmD_push_f (fm_u I 24 0 28 ((I 24 0 28) - 2)) J G t ((J 40 0 (((I 24 0 28) - 2).toNatClampNeg)) * (J 40 0 ((((I 24 0 28) - 2) + 1).toNatClampNeg))) FP.dconst0 = r14 at he
                have he := he.trans (fm_letE _ _)
                rw [er14] at K
                refine fm_cV0 O fmD_push_o (i := 0) (as := [.inl t, .inr (.inl ((J 40 0 (((I 24 0 28) - 2).toNatClampNeg)) * (J 40 0 ((((I 24 0 28) - 2) + 1).toNatClampNeg)))), .inr (.inr (.inr (.inl FP.dconst0)))]) (rest := []) (v := none) rfl fk_6_172 rfl (by decide) fn_D_push (Nat.le_of_ble_eq_true rfl) (K) ?_
                refine fm_gr O 1 (C' := (294, [(11, .inl (((J 40 0 ((((I 24 0 28) - 2) + 1).toNatClampNeg)).toInt32) &&& 63)), (9, .inr (.inr (.inr (.inl (G 41 0 ((((I 24 0 28) - 2) + 1).toNatClampNeg)))))), (7, .inr (.inr (.inr (.inl (G 41 0 (((I 24 0 28) - 2).toNatClampNeg)))))), (5, .inr (.inl (J 40 0 ((((I 24 0 28) - 2) + 1).toNatClampNeg)))), (3, .inr (.inl (J 40 0 (((I 24 0 28) - 2).toNatClampNeg)))), (0, .inr (.inr (.inr (.inr (24, 0))))), (1, .inl o), (2, .inl t)], [], (r14.1, r14.2.1, r14.2.2, fm_P pa pb))) rfl ?_
                exact fm_gRe O rfl trivial (by first | (rw [he]; done) | (rw [he]; rfl) | rfl) (by first | (rw [he]; done) | (rw [he]; rfl) | rfl)
              · have he := he.trans (if_neg h7)
                have hp := hp.2 h7
                by_cases h8 : o = 14
                · have he := he.trans (if_pos h8)
                  have hp := hp.1 h8
                  refine fm_gs O 14 rfl (show o.toInt = 14 from by rw [h8]; decide) ?_
                  refine fm_gr O 4 (C' := (208, [(11, .inl (((J 40 0 ((((I 24 0 28) - 2) + 1).toNatClampNeg)).toInt32) &&& 63)), (9, .inr (.inr (.inr (.inl (G 41 0 ((((I 24 0 28) - 2) + 1).toNatClampNeg)))))), (7, .inr (.inr (.inr (.inl (G 41 0 (((I 24 0 28) - 2).toNatClampNeg)))))), (5, .inr (.inl (J 40 0 ((((I 24 0 28) - 2) + 1).toNatClampNeg)))), (3, .inr (.inl (J 40 0 (((I 24 0 28) - 2).toNatClampNeg)))), (0, .inr (.inr (.inr (.inr (24, 0))))), (1, .inl o), (2, .inl t)], [.inr (.inl (J 40 0 ((((I 24 0 28) - 2) + 1).toNatClampNeg))), .inr (.inl (J 40 0 (((I 24 0 28) - 2).toNatClampNeg))), .inl t, .inr (.inr (.inr (.inr (24, 0))))], (fm_u I 24 0 28 ((I 24 0 28) - 2), J, G, fm_P pa pb))) rfl ?_
                  refine fm_gg O rfl hp.1 ?_
                  have hp := hp.2
                  refine fm_gr O 1 (C' := (210, [(11, .inl (((J 40 0 ((((I 24 0 28) - 2) + 1).toNatClampNeg)).toInt32) &&& 63)), (9, .inr (.inr (.inr (.inl (G 41 0 ((((I 24 0 28) - 2) + 1).toNatClampNeg)))))), (7, .inr (.inr (.inr (.inl (G 41 0 (((I 24 0 28) - 2).toNatClampNeg)))))), (5, .inr (.inl (J 40 0 ((((I 24 0 28) - 2) + 1).toNatClampNeg)))), (3, .inr (.inl (J 40 0 (((I 24 0 28) - 2).toNatClampNeg)))), (0, .inr (.inr (.inr (.inr (24, 0))))), (1, .inl o), (2, .inl t)], [.inr (.inr (.inr (.inl FP.dconst0))), .inr (.inl ((J 40 0 (((I 24 0 28) - 2).toNatClampNeg)) / (J 40 0 ((((I 24 0 28) - 2) + 1).toNatClampNeg)))), .inl t, .inr (.inr (.inr (.inr (24, 0))))], (fm_u I 24 0 28 ((I 24 0 28) - 2), J, G, fm_P pa pb))) rfl ?_
                  have K := fmD_push_c (d := d) hl (by omega) (fm_u I 24 0 28 ((I 24 0 28) - 2)) J G pa pb t ((J 40 0 (((I 24 0 28) - 2).toNatClampNeg)) / (J 40 0 ((((I 24 0 28) - 2) + 1).toNatClampNeg))) FP.dconst0 hp
                  generalize er15 : fmD_push_f (fm_u I 24 0 28 ((I 24 0 28) - 2)) J G t ((J 40 0 (((I 24 0 28) - 2).toNatClampNeg)) / (J 40 0 ((((I 24 0 28) - 2) + 1).toNatClampNeg))) FP.dconst0 = r15 at he
                  have he := he.trans (fm_letE _ _)
                  rw [er15] at K
                  refine fm_cV0 O fmD_push_o (i := 0) (as := [.inl t, .inr (.inl ((J 40 0 (((I 24 0 28) - 2).toNatClampNeg)) / (J 40 0 ((((I 24 0 28) - 2) + 1).toNatClampNeg)))), .inr (.inr (.inr (.inl FP.dconst0)))]) (rest := []) (v := none) rfl fk_6_172 rfl (by decide) fn_D_push (Nat.le_of_ble_eq_true rfl) (K) ?_
                  refine fm_gr O 1 (C' := (294, [(11, .inl (((J 40 0 ((((I 24 0 28) - 2) + 1).toNatClampNeg)).toInt32) &&& 63)), (9, .inr (.inr (.inr (.inl (G 41 0 ((((I 24 0 28) - 2) + 1).toNatClampNeg)))))), (7, .inr (.inr (.inr (.inl (G 41 0 (((I 24 0 28) - 2).toNatClampNeg)))))), (5, .inr (.inl (J 40 0 ((((I 24 0 28) - 2) + 1).toNatClampNeg)))), (3, .inr (.inl (J 40 0 (((I 24 0 28) - 2).toNatClampNeg)))), (0, .inr (.inr (.inr (.inr (24, 0))))), (1, .inl o), (2, .inl t)], [], (r15.1, r15.2.1, r15.2.2, fm_P pa pb))) rfl ?_
                  exact fm_gRe O rfl trivial (by first | (rw [he]; done) | (rw [he]; rfl) | rfl) (by first | (rw [he]; done) | (rw [he]; rfl) | rfl)
                · have he := he.trans (if_neg h8)
                  have hp := hp.2 h8
                  by_cases h9 : o = 15
                  · have he := he.trans (if_pos h9)
                    have hp := hp.1 h9
                    refine fm_gs O 15 rfl (show o.toInt = 15 from by rw [h9]; decide) ?_
                    refine fm_gr O 4 (C' := (221, [(11, .inl (((J 40 0 ((((I 24 0 28) - 2) + 1).toNatClampNeg)).toInt32) &&& 63)), (9, .inr (.inr (.inr (.inl (G 41 0 ((((I 24 0 28) - 2) + 1).toNatClampNeg)))))), (7, .inr (.inr (.inr (.inl (G 41 0 (((I 24 0 28) - 2).toNatClampNeg)))))), (5, .inr (.inl (J 40 0 ((((I 24 0 28) - 2) + 1).toNatClampNeg)))), (3, .inr (.inl (J 40 0 (((I 24 0 28) - 2).toNatClampNeg)))), (0, .inr (.inr (.inr (.inr (24, 0))))), (1, .inl o), (2, .inl t)], [.inr (.inl (J 40 0 ((((I 24 0 28) - 2) + 1).toNatClampNeg))), .inr (.inl (J 40 0 (((I 24 0 28) - 2).toNatClampNeg))), .inl t, .inr (.inr (.inr (.inr (24, 0))))], (fm_u I 24 0 28 ((I 24 0 28) - 2), J, G, fm_P pa pb))) rfl ?_
                    refine fm_gg O rfl hp.1 ?_
                    have hp := hp.2
                    refine fm_gr O 1 (C' := (223, [(11, .inl (((J 40 0 ((((I 24 0 28) - 2) + 1).toNatClampNeg)).toInt32) &&& 63)), (9, .inr (.inr (.inr (.inl (G 41 0 ((((I 24 0 28) - 2) + 1).toNatClampNeg)))))), (7, .inr (.inr (.inr (.inl (G 41 0 (((I 24 0 28) - 2).toNatClampNeg)))))), (5, .inr (.inl (J 40 0 ((((I 24 0 28) - 2) + 1).toNatClampNeg)))), (3, .inr (.inl (J 40 0 (((I 24 0 28) - 2).toNatClampNeg)))), (0, .inr (.inr (.inr (.inr (24, 0))))), (1, .inl o), (2, .inl t)], [.inr (.inr (.inr (.inl FP.dconst0))), .inr (.inl ((J 40 0 (((I 24 0 28) - 2).toNatClampNeg)) - (J 40 0 (((I 24 0 28) - 2).toNatClampNeg)) / (J 40 0 ((((I 24 0 28) - 2) + 1).toNatClampNeg)) * (J 40 0 ((((I 24 0 28) - 2) + 1).toNatClampNeg)))), .inl t, .inr (.inr (.inr (.inr (24, 0))))], (fm_u I 24 0 28 ((I 24 0 28) - 2), J, G, fm_P pa pb))) rfl ?_
                    have K := fmD_push_c (d := d) hl (by omega) (fm_u I 24 0 28 ((I 24 0 28) - 2)) J G pa pb t ((J 40 0 (((I 24 0 28) - 2).toNatClampNeg)) - (J 40 0 (((I 24 0 28) - 2).toNatClampNeg)) / (J 40 0 ((((I 24 0 28) - 2) + 1).toNatClampNeg)) * (J 40 0 ((((I 24 0 28) - 2) + 1).toNatClampNeg))) FP.dconst0 hp
                    generalize er16 : fmD_push_f (fm_u I 24 0 28 ((I 24 0 28) - 2)) J G t ((J 40 0 (((I 24 0 28) - 2).toNatClampNeg)) - (J 40 0 (((I 24 0 28) - 2).toNatClampNeg)) / (J 40 0 ((((I 24 0 28) - 2) + 1).toNatClampNeg)) * (J 40 0 ((((I 24 0 28) - 2) + 1).toNatClampNeg))) FP.dconst0 = r16 at he
                    have he := he.trans (fm_letE _ _)
                    rw [er16] at K
                    refine fm_cV0 O fmD_push_o (i := 0) (as := [.inl t, .inr (.inl ((J 40 0 (((I 24 0 28) - 2).toNatClampNeg)) - (J 40 0 (((I 24 0 28) - 2).toNatClampNeg)) / (J 40 0 ((((I 24 0 28) - 2) + 1).toNatClampNeg)) * (J 40 0 ((((I 24 0 28) - 2) + 1).toNatClampNeg)))), .inr (.inr (.inr (.inl FP.dconst0)))]) (rest := []) (v := none) rfl fk_6_172 rfl (by decide) fn_D_push (Nat.le_of_ble_eq_true rfl) (K) ?_
                    refine fm_gr O 1 (C' := (294, [(11, .inl (((J 40 0 ((((I 24 0 28) - 2) + 1).toNatClampNeg)).toInt32) &&& 63)), (9, .inr (.inr (.inr (.inl (G 41 0 ((((I 24 0 28) - 2) + 1).toNatClampNeg)))))), (7, .inr (.inr (.inr (.inl (G 41 0 (((I 24 0 28) - 2).toNatClampNeg)))))), (5, .inr (.inl (J 40 0 ((((I 24 0 28) - 2) + 1).toNatClampNeg)))), (3, .inr (.inl (J 40 0 (((I 24 0 28) - 2).toNatClampNeg)))), (0, .inr (.inr (.inr (.inr (24, 0))))), (1, .inl o), (2, .inl t)], [], (r16.1, r16.2.1, r16.2.2, fm_P pa pb))) rfl ?_
                    exact fm_gRe O rfl trivial (by first | (rw [he]; done) | (rw [he]; rfl) | rfl) (by first | (rw [he]; done) | (rw [he]; rfl) | rfl)
                  · have he := he.trans (if_neg h9)
                    have hp := hp.2 h9
                    by_cases h10 : o = 16
                    · have he := he.trans (if_pos h10)
                      have hp := hp.1 h10
                      refine fm_gs O 16 rfl (show o.toInt = 16 from by rw [h10]; decide) ?_
                      refine fm_gr O 6 (C' := (236, [(11, .inl (((J 40 0 ((((I 24 0 28) - 2) + 1).toNatClampNeg)).toInt32) &&& 63)), (9, .inr (.inr (.inr (.inl (G 41 0 ((((I 24 0 28) - 2) + 1).toNatClampNeg)))))), (7, .inr (.inr (.inr (.inl (G 41 0 (((I 24 0 28) - 2).toNatClampNeg)))))), (5, .inr (.inl (J 40 0 ((((I 24 0 28) - 2) + 1).toNatClampNeg)))), (3, .inr (.inl (J 40 0 (((I 24 0 28) - 2).toNatClampNeg)))), (0, .inr (.inr (.inr (.inr (24, 0))))), (1, .inl o), (2, .inl t)], [.inr (.inr (.inr (.inl FP.dconst0))), .inr (.inl ((J 40 0 (((I 24 0 28) - 2).toNatClampNeg)) &&& (J 40 0 ((((I 24 0 28) - 2) + 1).toNatClampNeg)))), .inl t, .inr (.inr (.inr (.inr (24, 0))))], (fm_u I 24 0 28 ((I 24 0 28) - 2), J, G, fm_P pa pb))) rfl ?_
                      have K := fmD_push_c (d := d) hl (by omega) (fm_u I 24 0 28 ((I 24 0 28) - 2)) J G pa pb t ((J 40 0 (((I 24 0 28) - 2).toNatClampNeg)) &&& (J 40 0 ((((I 24 0 28) - 2) + 1).toNatClampNeg))) FP.dconst0 hp
                      generalize er17 : fmD_push_f (fm_u I 24 0 28 ((I 24 0 28) - 2)) J G t ((J 40 0 (((I 24 0 28) - 2).toNatClampNeg)) &&& (J 40 0 ((((I 24 0 28) - 2) + 1).toNatClampNeg))) FP.dconst0 = r17 at he
                      have he := he.trans (fm_letE _ _)
                      rw [er17] at K
                      refine fm_cV0 O fmD_push_o (i := 0) (as := [.inl t, .inr (.inl ((J 40 0 (((I 24 0 28) - 2).toNatClampNeg)) &&& (J 40 0 ((((I 24 0 28) - 2) + 1).toNatClampNeg)))), .inr (.inr (.inr (.inl FP.dconst0)))]) (rest := []) (v := none) rfl fk_6_172 rfl (by decide) fn_D_push (Nat.le_of_ble_eq_true rfl) (K) ?_
                      refine fm_gr O 1 (C' := (294, [(11, .inl (((J 40 0 ((((I 24 0 28) - 2) + 1).toNatClampNeg)).toInt32) &&& 63)), (9, .inr (.inr (.inr (.inl (G 41 0 ((((I 24 0 28) - 2) + 1).toNatClampNeg)))))), (7, .inr (.inr (.inr (.inl (G 41 0 (((I 24 0 28) - 2).toNatClampNeg)))))), (5, .inr (.inl (J 40 0 ((((I 24 0 28) - 2) + 1).toNatClampNeg)))), (3, .inr (.inl (J 40 0 (((I 24 0 28) - 2).toNatClampNeg)))), (0, .inr (.inr (.inr (.inr (24, 0))))), (1, .inl o), (2, .inl t)], [], (r17.1, r17.2.1, r17.2.2, fm_P pa pb))) rfl ?_
                      exact fm_gRe O rfl trivial (by first | (rw [he]; done) | (rw [he]; rfl) | rfl) (by first | (rw [he]; done) | (rw [he]; rfl) | rfl)
                    · have he := he.trans (if_neg h10)
                      have hp := hp.2 h10
                      by_cases h11 : o = 17
                      · have he := he.trans (if_pos h11)
                        have hp := hp.1 h11
                        refine fm_gs O 17 rfl (show o.toInt = 17 from by rw [h11]; decide) ?_
                        refine fm_gr O 6 (C' := (249, [(11, .inl (((J 40 0 ((((I 24 0 28) - 2) + 1).toNatClampNeg)).toInt32) &&& 63)), (9, .inr (.inr (.inr (.inl (G 41 0 ((((I 24 0 28) - 2) + 1).toNatClampNeg)))))), (7, .inr (.inr (.inr (.inl (G 41 0 (((I 24 0 28) - 2).toNatClampNeg)))))), (5, .inr (.inl (J 40 0 ((((I 24 0 28) - 2) + 1).toNatClampNeg)))), (3, .inr (.inl (J 40 0 (((I 24 0 28) - 2).toNatClampNeg)))), (0, .inr (.inr (.inr (.inr (24, 0))))), (1, .inl o), (2, .inl t)], [.inr (.inr (.inr (.inl FP.dconst0))), .inr (.inl ((J 40 0 (((I 24 0 28) - 2).toNatClampNeg)) <<< ((((J 40 0 ((((I 24 0 28) - 2) + 1).toNatClampNeg)).toInt32) &&& 63).toInt64 &&& 63))), .inl t, .inr (.inr (.inr (.inr (24, 0))))], (fm_u I 24 0 28 ((I 24 0 28) - 2), J, G, fm_P pa pb))) rfl ?_
                        have K := fmD_push_c (d := d) hl (by omega) (fm_u I 24 0 28 ((I 24 0 28) - 2)) J G pa pb t ((J 40 0 (((I 24 0 28) - 2).toNatClampNeg)) <<< ((((J 40 0 ((((I 24 0 28) - 2) + 1).toNatClampNeg)).toInt32) &&& 63).toInt64 &&& 63)) FP.dconst0 hp
                        generalize er18 : fmD_push_f (fm_u I 24 0 28 ((I 24 0 28) - 2)) J G t ((J 40 0 (((I 24 0 28) - 2).toNatClampNeg)) <<< ((((J 40 0 ((((I 24 0 28) - 2) + 1).toNatClampNeg)).toInt32) &&& 63).toInt64 &&& 63)) FP.dconst0 = r18 at he
                        have he := he.trans (fm_letE _ _)
                        rw [er18] at K
                        refine fm_cV0 O fmD_push_o (i := 0) (as := [.inl t, .inr (.inl ((J 40 0 (((I 24 0 28) - 2).toNatClampNeg)) <<< ((((J 40 0 ((((I 24 0 28) - 2) + 1).toNatClampNeg)).toInt32) &&& 63).toInt64 &&& 63))), .inr (.inr (.inr (.inl FP.dconst0)))]) (rest := []) (v := none) rfl fk_6_172 rfl (by decide) fn_D_push (Nat.le_of_ble_eq_true rfl) (K) ?_
                        refine fm_gr O 1 (C' := (294, [(11, .inl (((J 40 0 ((((I 24 0 28) - 2) + 1).toNatClampNeg)).toInt32) &&& 63)), (9, .inr (.inr (.inr (.inl (G 41 0 ((((I 24 0 28) - 2) + 1).toNatClampNeg)))))), (7, .inr (.inr (.inr (.inl (G 41 0 (((I 24 0 28) - 2).toNatClampNeg)))))), (5, .inr (.inl (J 40 0 ((((I 24 0 28) - 2) + 1).toNatClampNeg)))), (3, .inr (.inl (J 40 0 (((I 24 0 28) - 2).toNatClampNeg)))), (0, .inr (.inr (.inr (.inr (24, 0))))), (1, .inl o), (2, .inl t)], [], (r18.1, r18.2.1, r18.2.2, fm_P pa pb))) rfl ?_
                        exact fm_gRe O rfl trivial (by first | (rw [he]; done) | (rw [he]; rfl) | rfl) (by first | (rw [he]; done) | (rw [he]; rfl) | rfl)
                      · have he := he.trans (if_neg h11)
                        have hp := hp.2 h11
                        by_cases h12 : o = 18
                        · have he := he.trans (if_pos h12)
                          have hp := hp.1 h12
                          refine fm_gs O 18 rfl (show o.toInt = 18 from by rw [h12]; decide) ?_
                          refine fm_gr O 5 (C' := (261, [(11, .inl (((J 40 0 ((((I 24 0 28) - 2) + 1).toNatClampNeg)).toInt32) &&& 63)), (9, .inr (.inr (.inr (.inl (G 41 0 ((((I 24 0 28) - 2) + 1).toNatClampNeg)))))), (7, .inr (.inr (.inr (.inl (G 41 0 (((I 24 0 28) - 2).toNatClampNeg)))))), (5, .inr (.inl (J 40 0 ((((I 24 0 28) - 2) + 1).toNatClampNeg)))), (3, .inr (.inl (J 40 0 (((I 24 0 28) - 2).toNatClampNeg)))), (0, .inr (.inr (.inr (.inr (24, 0))))), (1, .inl o), (2, .inl t)], [.inl (lg_cmp (J 40 0 (((I 24 0 28) - 2).toNatClampNeg)) (J 40 0 ((((I 24 0 28) - 2) + 1).toNatClampNeg))), .inl 0, .inr (.inr (.inr (.inr (24, 0))))], (fm_u I 24 0 28 ((I 24 0 28) - 2), J, G, fm_P pa pb))) rfl ?_
                          refine fm_gb O rfl (fun h => ?_) (fun h => ?_)
                          · have h13 : 0 ≤ (lg_cmp (J 40 0 (((I 24 0 28) - 2).toNatClampNeg)) (J 40 0 ((((I 24 0 28) - 2) + 1).toNatClampNeg))) := h
                            have he := he.trans (if_pos h13)
                            have hp := hp.1 h13
                            refine fm_gr O 2 (C' := (270, [(11, .inl (((J 40 0 ((((I 24 0 28) - 2) + 1).toNatClampNeg)).toInt32) &&& 63)), (9, .inr (.inr (.inr (.inl (G 41 0 ((((I 24 0 28) - 2) + 1).toNatClampNeg)))))), (7, .inr (.inr (.inr (.inl (G 41 0 (((I 24 0 28) - 2).toNatClampNeg)))))), (5, .inr (.inl (J 40 0 ((((I 24 0 28) - 2) + 1).toNatClampNeg)))), (3, .inr (.inl (J 40 0 (((I 24 0 28) - 2).toNatClampNeg)))), (0, .inr (.inr (.inr (.inr (24, 0))))), (1, .inl o), (2, .inl t)], [.inr (.inr (.inr (.inl FP.dconst0))), .inr (.inl 0), .inl 0, .inr (.inr (.inr (.inr (24, 0))))], (fm_u I 24 0 28 ((I 24 0 28) - 2), J, G, fm_P pa pb))) rfl ?_
                            have K := fmD_push_c (d := d) hl (by omega) (fm_u I 24 0 28 ((I 24 0 28) - 2)) J G pa pb 0 0 FP.dconst0 hp
                            generalize er19 : fmD_push_f (fm_u I 24 0 28 ((I 24 0 28) - 2)) J G 0 0 FP.dconst0 = r19 at he
                            have he := he.trans (fm_letE _ _)
                            rw [er19] at K
                            refine fm_cV0 O fmD_push_o (i := 0) (as := [.inl 0, .inr (.inl 0), .inr (.inr (.inr (.inl FP.dconst0)))]) (rest := []) (v := none) rfl fk_6_172 rfl (by decide) fn_D_push (Nat.le_of_ble_eq_true rfl) (K) ?_
                            refine fm_gr O 1 (C' := (294, [(11, .inl (((J 40 0 ((((I 24 0 28) - 2) + 1).toNatClampNeg)).toInt32) &&& 63)), (9, .inr (.inr (.inr (.inl (G 41 0 ((((I 24 0 28) - 2) + 1).toNatClampNeg)))))), (7, .inr (.inr (.inr (.inl (G 41 0 (((I 24 0 28) - 2).toNatClampNeg)))))), (5, .inr (.inl (J 40 0 ((((I 24 0 28) - 2) + 1).toNatClampNeg)))), (3, .inr (.inl (J 40 0 (((I 24 0 28) - 2).toNatClampNeg)))), (0, .inr (.inr (.inr (.inr (24, 0))))), (1, .inl o), (2, .inl t)], [], (r19.1, r19.2.1, r19.2.2, fm_P pa pb))) rfl ?_
                            exact fm_gRe O rfl trivial (by first | (rw [he]; done) | (rw [he]; rfl) | rfl) (by first | (rw [he]; done) | (rw [he]; rfl) | rfl)
                          · have h13 : ¬ 0 ≤ (lg_cmp (J 40 0 (((I 24 0 28) - 2).toNatClampNeg)) (J 40 0 ((((I 24 0 28) - 2) + 1).toNatClampNeg))) := h
                            have he := he.trans (if_neg h13)
                            have hp := hp.2 h13
                            refine fm_gr O 3 (C' := (270, [(11, .inl (((J 40 0 ((((I 24 0 28) - 2) + 1).toNatClampNeg)).toInt32) &&& 63)), (9, .inr (.inr (.inr (.inl (G 41 0 ((((I 24 0 28) - 2) + 1).toNatClampNeg)))))), (7, .inr (.inr (.inr (.inl (G 41 0 (((I 24 0 28) - 2).toNatClampNeg)))))), (5, .inr (.inl (J 40 0 ((((I 24 0 28) - 2) + 1).toNatClampNeg)))), (3, .inr (.inl (J 40 0 (((I 24 0 28) - 2).toNatClampNeg)))), (0, .inr (.inr (.inr (.inr (24, 0))))), (1, .inl o), (2, .inl t)], [.inr (.inr (.inr (.inl FP.dconst0))), .inr (.inl 1), .inl 0, .inr (.inr (.inr (.inr (24, 0))))], (fm_u I 24 0 28 ((I 24 0 28) - 2), J, G, fm_P pa pb))) rfl ?_
                            have K := fmD_push_c (d := d) hl (by omega) (fm_u I 24 0 28 ((I 24 0 28) - 2)) J G pa pb 0 1 FP.dconst0 hp
                            generalize er20 : fmD_push_f (fm_u I 24 0 28 ((I 24 0 28) - 2)) J G 0 1 FP.dconst0 = r20 at he
                            have he := he.trans (fm_letE _ _)
                            rw [er20] at K
                            refine fm_cV0 O fmD_push_o (i := 0) (as := [.inl 0, .inr (.inl 1), .inr (.inr (.inr (.inl FP.dconst0)))]) (rest := []) (v := none) rfl fk_6_172 rfl (by decide) fn_D_push (Nat.le_of_ble_eq_true rfl) (K) ?_
                            refine fm_gr O 1 (C' := (294, [(11, .inl (((J 40 0 ((((I 24 0 28) - 2) + 1).toNatClampNeg)).toInt32) &&& 63)), (9, .inr (.inr (.inr (.inl (G 41 0 ((((I 24 0 28) - 2) + 1).toNatClampNeg)))))), (7, .inr (.inr (.inr (.inl (G 41 0 (((I 24 0 28) - 2).toNatClampNeg)))))), (5, .inr (.inl (J 40 0 ((((I 24 0 28) - 2) + 1).toNatClampNeg)))), (3, .inr (.inl (J 40 0 (((I 24 0 28) - 2).toNatClampNeg)))), (0, .inr (.inr (.inr (.inr (24, 0))))), (1, .inl o), (2, .inl t)], [], (r20.1, r20.2.1, r20.2.2, fm_P pa pb))) rfl ?_
                            exact fm_gRe O rfl trivial (by first | (rw [he]; done) | (rw [he]; rfl) | rfl) (by first | (rw [he]; done) | (rw [he]; rfl) | rfl)
                        · have he := he.trans (if_neg h12)
                          have hp := hp.2 h12
                          refine fm_gt O rfl (by
                              show o.toInt < 11 ∨ 18 < o.toInt
                              have := lv_neT h5 (show (11 : Int32).toInt = 11 from by decide)
                              have := lv_neT h6 (show (12 : Int32).toInt = 12 from by decide)
                              have := lv_neT h7 (show (13 : Int32).toInt = 13 from by decide)
                              have := lv_neT h8 (show (14 : Int32).toInt = 14 from by decide)
                              have := lv_neT h9 (show (15 : Int32).toInt = 15 from by decide)
                              have := lv_neT h10 (show (16 : Int32).toInt = 16 from by decide)
                              have := lv_neT h11 (show (17 : Int32).toInt = 17 from by decide)
                              have := lv_neT h12 (show (18 : Int32).toInt = 18 from by decide)
                              omega) ?_
                          refine fm_gr O 5 (C' := (282, [(11, .inl (((J 40 0 ((((I 24 0 28) - 2) + 1).toNatClampNeg)).toInt32) &&& 63)), (9, .inr (.inr (.inr (.inl (G 41 0 ((((I 24 0 28) - 2) + 1).toNatClampNeg)))))), (7, .inr (.inr (.inr (.inl (G 41 0 (((I 24 0 28) - 2).toNatClampNeg)))))), (5, .inr (.inl (J 40 0 ((((I 24 0 28) - 2) + 1).toNatClampNeg)))), (3, .inr (.inl (J 40 0 (((I 24 0 28) - 2).toNatClampNeg)))), (0, .inr (.inr (.inr (.inr (24, 0))))), (1, .inl o), (2, .inl t)], [.inl (lg_cmp (J 40 0 (((I 24 0 28) - 2).toNatClampNeg)) (J 40 0 ((((I 24 0 28) - 2) + 1).toNatClampNeg))), .inl 0, .inr (.inr (.inr (.inr (24, 0))))], (fm_u I 24 0 28 ((I 24 0 28) - 2), J, G, fm_P pa pb))) rfl ?_
                          refine fm_gb O rfl (fun h => ?_) (fun h => ?_)
                          · have h13 : (lg_cmp (J 40 0 (((I 24 0 28) - 2).toNatClampNeg)) (J 40 0 ((((I 24 0 28) - 2) + 1).toNatClampNeg))) = 0 := h
                            have he := he.trans (if_pos h13)
                            have hp := hp.1 h13
                            refine fm_gr O 3 (C' := (291, [(11, .inl (((J 40 0 ((((I 24 0 28) - 2) + 1).toNatClampNeg)).toInt32) &&& 63)), (9, .inr (.inr (.inr (.inl (G 41 0 ((((I 24 0 28) - 2) + 1).toNatClampNeg)))))), (7, .inr (.inr (.inr (.inl (G 41 0 (((I 24 0 28) - 2).toNatClampNeg)))))), (5, .inr (.inl (J 40 0 ((((I 24 0 28) - 2) + 1).toNatClampNeg)))), (3, .inr (.inl (J 40 0 (((I 24 0 28) - 2).toNatClampNeg)))), (0, .inr (.inr (.inr (.inr (24, 0))))), (1, .inl o), (2, .inl t)], [.inr (.inr (.inr (.inl FP.dconst0))), .inr (.inl 1), .inl 0, .inr (.inr (.inr (.inr (24, 0))))], (fm_u I 24 0 28 ((I 24 0 28) - 2), J, G, fm_P pa pb))) rfl ?_
                            have K := fmD_push_c (d := d) hl (by omega) (fm_u I 24 0 28 ((I 24 0 28) - 2)) J G pa pb 0 1 FP.dconst0 hp
                            generalize er21 : fmD_push_f (fm_u I 24 0 28 ((I 24 0 28) - 2)) J G 0 1 FP.dconst0 = r21 at he
                            have he := he.trans (fm_letE _ _)
                            rw [er21] at K
                            refine fm_cV0 O fmD_push_o (i := 0) (as := [.inl 0, .inr (.inl 1), .inr (.inr (.inr (.inl FP.dconst0)))]) (rest := []) (v := none) rfl fk_6_172 rfl (by decide) fn_D_push (Nat.le_of_ble_eq_true rfl) (K) ?_
                            exact fm_gRe O rfl trivial (by first | (rw [he]; done) | (rw [he]; rfl) | rfl) (by first | (rw [he]; done) | (rw [he]; rfl) | rfl)
                          · have h13 : ¬ (lg_cmp (J 40 0 (((I 24 0 28) - 2).toNatClampNeg)) (J 40 0 ((((I 24 0 28) - 2) + 1).toNatClampNeg))) = 0 := h
                            have he := he.trans (if_neg h13)
                            have hp := hp.2 h13
                            refine fm_gr O 2 (C' := (291, [(11, .inl (((J 40 0 ((((I 24 0 28) - 2) + 1).toNatClampNeg)).toInt32) &&& 63)), (9, .inr (.inr (.inr (.inl (G 41 0 ((((I 24 0 28) - 2) + 1).toNatClampNeg)))))), (7, .inr (.inr (.inr (.inl (G 41 0 (((I 24 0 28) - 2).toNatClampNeg)))))), (5, .inr (.inl (J 40 0 ((((I 24 0 28) - 2) + 1).toNatClampNeg)))), (3, .inr (.inl (J 40 0 (((I 24 0 28) - 2).toNatClampNeg)))), (0, .inr (.inr (.inr (.inr (24, 0))))), (1, .inl o), (2, .inl t)], [.inr (.inr (.inr (.inl FP.dconst0))), .inr (.inl 0), .inl 0, .inr (.inr (.inr (.inr (24, 0))))], (fm_u I 24 0 28 ((I 24 0 28) - 2), J, G, fm_P pa pb))) rfl ?_
                            have K := fmD_push_c (d := d) hl (by omega) (fm_u I 24 0 28 ((I 24 0 28) - 2)) J G pa pb 0 0 FP.dconst0 hp
                            generalize er22 : fmD_push_f (fm_u I 24 0 28 ((I 24 0 28) - 2)) J G 0 0 FP.dconst0 = r22 at he
                            have he := he.trans (fm_letE _ _)
                            rw [er22] at K
                            refine fm_cV0 O fmD_push_o (i := 0) (as := [.inl 0, .inr (.inl 0), .inr (.inr (.inr (.inl FP.dconst0)))]) (rest := []) (v := none) rfl fk_6_172 rfl (by decide) fn_D_push (Nat.le_of_ble_eq_true rfl) (K) ?_
                            exact fm_gRe O rfl trivial (by first | (rw [he]; done) | (rw [he]; rfl) | rfl) (by first | (rw [he]; done) | (rw [he]; rfl) | rfl)
    · have h2 : ¬ o = 14 := h
      have he := he.trans (if_neg h2)
      have hp := hp.2 h2
      refine fm_gr O 2 (C' := (82, [(9, .inr (.inr (.inr (.inl (G 41 0 ((((I 24 0 28) - 2) + 1).toNatClampNeg)))))), (7, .inr (.inr (.inr (.inl (G 41 0 (((I 24 0 28) - 2).toNatClampNeg)))))), (5, .inr (.inl (J 40 0 ((((I 24 0 28) - 2) + 1).toNatClampNeg)))), (3, .inr (.inl (J 40 0 (((I 24 0 28) - 2).toNatClampNeg)))), (0, .inr (.inr (.inr (.inr (24, 0))))), (1, .inl o), (2, .inl t)], [.inl 15, .inl o], (fm_u I 24 0 28 ((I 24 0 28) - 2), J, G, fm_P pa pb))) rfl ?_
      refine fm_gb O rfl (fun h => ?_) (fun h => ?_)
      · have h3 : o = 15 := h
        have he := he.trans (if_pos h3)
        have hp := hp.1 h3
        refine fm_gr O 3 (C' := (89, [(9, .inr (.inr (.inr (.inl (G 41 0 ((((I 24 0 28) - 2) + 1).toNatClampNeg)))))), (7, .inr (.inr (.inr (.inl (G 41 0 (((I 24 0 28) - 2).toNatClampNeg)))))), (5, .inr (.inl (J 40 0 ((((I 24 0 28) - 2) + 1).toNatClampNeg)))), (3, .inr (.inl (J 40 0 (((I 24 0 28) - 2).toNatClampNeg)))), (0, .inr (.inr (.inr (.inr (24, 0))))), (1, .inl o), (2, .inl t)], [.inl (lg_cmp (J 40 0 ((((I 24 0 28) - 2) + 1).toNatClampNeg)) 0)], (fm_u I 24 0 28 ((I 24 0 28) - 2), J, G, fm_P pa pb))) rfl ?_
        refine fm_gb O rfl (fun h => ?_) (fun h => ?_)
        · have h4 : (lg_cmp (J 40 0 ((((I 24 0 28) - 2) + 1).toNatClampNeg)) 0) = 0 := h
          have he := he.trans (if_pos h4)
          refine fm_gr O 3 (C' := (97, [(9, .inr (.inr (.inr (.inl (G 41 0 ((((I 24 0 28) - 2) + 1).toNatClampNeg)))))), (7, .inr (.inr (.inr (.inl (G 41 0 (((I 24 0 28) - 2).toNatClampNeg)))))), (5, .inr (.inl (J 40 0 ((((I 24 0 28) - 2) + 1).toNatClampNeg)))), (3, .inr (.inl (J 40 0 (((I 24 0 28) - 2).toNatClampNeg)))), (0, .inr (.inr (.inr (.inr (24, 0))))), (1, .inl o), (2, .inl t)], [], (fm_u (fm_u I 24 0 28 ((I 24 0 28) - 2)) 24 0 18 3, J, G, fm_P pa pb))) rfl ?_
          exact fm_gRe O rfl trivial (by first | (rw [he]; done) | (rw [he]; rfl) | rfl) (by first | (rw [he]; done) | (rw [he]; rfl) | rfl)
        · have h4 : ¬ (lg_cmp (J 40 0 ((((I 24 0 28) - 2) + 1).toNatClampNeg)) 0) = 0 := h
          have he := he.trans (if_neg h4)
          have hp := hp.2 h4
          refine fm_gr O 3 (C' := (102, [(9, .inr (.inr (.inr (.inl (G 41 0 ((((I 24 0 28) - 2) + 1).toNatClampNeg)))))), (7, .inr (.inr (.inr (.inl (G 41 0 (((I 24 0 28) - 2).toNatClampNeg)))))), (5, .inr (.inl (J 40 0 ((((I 24 0 28) - 2) + 1).toNatClampNeg)))), (3, .inr (.inl (J 40 0 (((I 24 0 28) - 2).toNatClampNeg)))), (0, .inr (.inr (.inr (.inr (24, 0))))), (1, .inl o), (2, .inl t)], [.inl t, .inl ((J 40 0 ((((I 24 0 28) - 2) + 1).toNatClampNeg)).toInt32)], (fm_u I 24 0 28 ((I 24 0 28) - 2), J, G, fm_P pa pb))) rfl ?_
          refine fm_gb O rfl (fun h => ?_) (fun h => ?_)
          · have h5 : t = 0 := h
            have he := he.trans (if_pos h5)
            have hp := hp.1 h5
            refine fm_gr O 5 (C' := (116, [(11, .inl (((J 40 0 ((((I 24 0 28) - 2) + 1).toNatClampNeg)).toInt32) &&& 31)), (9, .inr (.inr (.inr (.inl (G 41 0 ((((I 24 0 28) - 2) + 1).toNatClampNeg)))))), (7, .inr (.inr (.inr (.inl (G 41 0 (((I 24 0 28) - 2).toNatClampNeg)))))), (5, .inr (.inl (J 40 0 ((((I 24 0 28) - 2) + 1).toNatClampNeg)))), (3, .inr (.inl (J 40 0 (((I 24 0 28) - 2).toNatClampNeg)))), (0, .inr (.inr (.inr (.inr (24, 0))))), (1, .inl o), (2, .inl t)], [.inl o], (fm_u I 24 0 28 ((I 24 0 28) - 2), J, G, fm_P pa pb))) rfl ?_
            by_cases h6 : o = 11
            · have he := he.trans (if_pos h6)
              have hp := hp.1 h6
              refine fm_gs O 11 rfl (show o.toInt = 11 from by rw [h6]; decide) ?_
              refine fm_gr O 6 (C' := (171, [(11, .inl (((J 40 0 ((((I 24 0 28) - 2) + 1).toNatClampNeg)).toInt32) &&& 31)), (9, .inr (.inr (.inr (.inl (G 41 0 ((((I 24 0 28) - 2) + 1).toNatClampNeg)))))), (7, .inr (.inr (.inr (.inl (G 41 0 (((I 24 0 28) - 2).toNatClampNeg)))))), (5, .inr (.inl (J 40 0 ((((I 24 0 28) - 2) + 1).toNatClampNeg)))), (3, .inr (.inl (J 40 0 (((I 24 0 28) - 2).toNatClampNeg)))), (0, .inr (.inr (.inr (.inr (24, 0))))), (1, .inl o), (2, .inl t)], [.inr (.inr (.inr (.inl FP.dconst0))), .inr (.inl ((J 40 0 (((I 24 0 28) - 2).toNatClampNeg)) + (J 40 0 ((((I 24 0 28) - 2) + 1).toNatClampNeg)))), .inl t, .inr (.inr (.inr (.inr (24, 0))))], (fm_u I 24 0 28 ((I 24 0 28) - 2), J, G, fm_P pa pb))) rfl ?_
              have K := fmD_push_c (d := d) hl (by omega) (fm_u I 24 0 28 ((I 24 0 28) - 2)) J G pa pb t ((J 40 0 (((I 24 0 28) - 2).toNatClampNeg)) + (J 40 0 ((((I 24 0 28) - 2) + 1).toNatClampNeg))) FP.dconst0 hp
              generalize er23 : fmD_push_f (fm_u I 24 0 28 ((I 24 0 28) - 2)) J G t ((J 40 0 (((I 24 0 28) - 2).toNatClampNeg)) + (J 40 0 ((((I 24 0 28) - 2) + 1).toNatClampNeg))) FP.dconst0 = r23 at he
              have he := he.trans (fm_letE _ _)
              rw [er23] at K
              refine fm_cV0 O fmD_push_o (i := 0) (as := [.inl t, .inr (.inl ((J 40 0 (((I 24 0 28) - 2).toNatClampNeg)) + (J 40 0 ((((I 24 0 28) - 2) + 1).toNatClampNeg)))), .inr (.inr (.inr (.inl FP.dconst0)))]) (rest := []) (v := none) rfl fk_6_172 rfl (by decide) fn_D_push (Nat.le_of_ble_eq_true rfl) (K) ?_
              refine fm_gr O 1 (C' := (294, [(11, .inl (((J 40 0 ((((I 24 0 28) - 2) + 1).toNatClampNeg)).toInt32) &&& 31)), (9, .inr (.inr (.inr (.inl (G 41 0 ((((I 24 0 28) - 2) + 1).toNatClampNeg)))))), (7, .inr (.inr (.inr (.inl (G 41 0 (((I 24 0 28) - 2).toNatClampNeg)))))), (5, .inr (.inl (J 40 0 ((((I 24 0 28) - 2) + 1).toNatClampNeg)))), (3, .inr (.inl (J 40 0 (((I 24 0 28) - 2).toNatClampNeg)))), (0, .inr (.inr (.inr (.inr (24, 0))))), (1, .inl o), (2, .inl t)], [], (r23.1, r23.2.1, r23.2.2, fm_P pa pb))) rfl ?_
              exact fm_gRe O rfl trivial (by first | (rw [he]; done) | (rw [he]; rfl) | rfl) (by first | (rw [he]; done) | (rw [he]; rfl) | rfl)
            · have he := he.trans (if_neg h6)
              have hp := hp.2 h6
              by_cases h7 : o = 12
              · have he := he.trans (if_pos h7)
                have hp := hp.1 h7
                refine fm_gs O 12 rfl (show o.toInt = 12 from by rw [h7]; decide) ?_
                refine fm_gr O 6 (C' := (184, [(11, .inl (((J 40 0 ((((I 24 0 28) - 2) + 1).toNatClampNeg)).toInt32) &&& 31)), (9, .inr (.inr (.inr (.inl (G 41 0 ((((I 24 0 28) - 2) + 1).toNatClampNeg)))))), (7, .inr (.inr (.inr (.inl (G 41 0 (((I 24 0 28) - 2).toNatClampNeg)))))), (5, .inr (.inl (J 40 0 ((((I 24 0 28) - 2) + 1).toNatClampNeg)))), (3, .inr (.inl (J 40 0 (((I 24 0 28) - 2).toNatClampNeg)))), (0, .inr (.inr (.inr (.inr (24, 0))))), (1, .inl o), (2, .inl t)], [.inr (.inr (.inr (.inl FP.dconst0))), .inr (.inl ((J 40 0 (((I 24 0 28) - 2).toNatClampNeg)) - (J 40 0 ((((I 24 0 28) - 2) + 1).toNatClampNeg)))), .inl t, .inr (.inr (.inr (.inr (24, 0))))], (fm_u I 24 0 28 ((I 24 0 28) - 2), J, G, fm_P pa pb))) rfl ?_
                have K := fmD_push_c (d := d) hl (by omega) (fm_u I 24 0 28 ((I 24 0 28) - 2)) J G pa pb t ((J 40 0 (((I 24 0 28) - 2).toNatClampNeg)) - (J 40 0 ((((I 24 0 28) - 2) + 1).toNatClampNeg))) FP.dconst0 hp
                generalize er24 : fmD_push_f (fm_u I 24 0 28 ((I 24 0 28) - 2)) J G t ((J 40 0 (((I 24 0 28) - 2).toNatClampNeg)) - (J 40 0 ((((I 24 0 28) - 2) + 1).toNatClampNeg))) FP.dconst0 = r24 at he
                have he := he.trans (fm_letE _ _)
                rw [er24] at K
                refine fm_cV0 O fmD_push_o (i := 0) (as := [.inl t, .inr (.inl ((J 40 0 (((I 24 0 28) - 2).toNatClampNeg)) - (J 40 0 ((((I 24 0 28) - 2) + 1).toNatClampNeg)))), .inr (.inr (.inr (.inl FP.dconst0)))]) (rest := []) (v := none) rfl fk_6_172 rfl (by decide) fn_D_push (Nat.le_of_ble_eq_true rfl) (K) ?_
                refine fm_gr O 1 (C' := (294, [(11, .inl (((J 40 0 ((((I 24 0 28) - 2) + 1).toNatClampNeg)).toInt32) &&& 31)), (9, .inr (.inr (.inr (.inl (G 41 0 ((((I 24 0 28) - 2) + 1).toNatClampNeg)))))), (7, .inr (.inr (.inr (.inl (G 41 0 (((I 24 0 28) - 2).toNatClampNeg)))))), (5, .inr (.inl (J 40 0 ((((I 24 0 28) - 2) + 1).toNatClampNeg)))), (3, .inr (.inl (J 40 0 (((I 24 0 28) - 2).toNatClampNeg)))), (0, .inr (.inr (.inr (.inr (24, 0))))), (1, .inl o), (2, .inl t)], [], (r24.1, r24.2.1, r24.2.2, fm_P pa pb))) rfl ?_
                exact fm_gRe O rfl trivial (by first | (rw [he]; done) | (rw [he]; rfl) | rfl) (by first | (rw [he]; done) | (rw [he]; rfl) | rfl)
              · have he := he.trans (if_neg h7)
                have hp := hp.2 h7
                by_cases h8 : o = 13
                · have he := he.trans (if_pos h8)
                  have hp := hp.1 h8
                  refine fm_gs O 13 rfl (show o.toInt = 13 from by rw [h8]; decide) ?_
                  refine fm_gr O 6 (C' := (197, [(11, .inl (((J 40 0 ((((I 24 0 28) - 2) + 1).toNatClampNeg)).toInt32) &&& 31)), (9, .inr (.inr (.inr (.inl (G 41 0 ((((I 24 0 28) - 2) + 1).toNatClampNeg)))))), (7, .inr (.inr (.inr (.inl (G 41 0 (((I 24 0 28) - 2).toNatClampNeg)))))), (5, .inr (.inl (J 40 0 ((((I 24 0 28) - 2) + 1).toNatClampNeg)))), (3, .inr (.inl (J 40 0 (((I 24 0 28) - 2).toNatClampNeg)))), (0, .inr (.inr (.inr (.inr (24, 0))))), (1, .inl o), (2, .inl t)], [.inr (.inr (.inr (.inl FP.dconst0))), .inr (.inl ((J 40 0 (((I 24 0 28) - 2).toNatClampNeg)) * (J 40 0 ((((I 24 0 28) - 2) + 1).toNatClampNeg)))), .inl t, .inr (.inr (.inr (.inr (24, 0))))], (fm_u I 24 0 28 ((I 24 0 28) - 2), J, G, fm_P pa pb))) rfl ?_
                  have K := fmD_push_c (d := d) hl (by omega) (fm_u I 24 0 28 ((I 24 0 28) - 2)) J G pa pb t ((J 40 0 (((I 24 0 28) - 2).toNatClampNeg)) * (J 40 0 ((((I 24 0 28) - 2) + 1).toNatClampNeg))) FP.dconst0 hp
                  generalize er25 : fmD_push_f (fm_u I 24 0 28 ((I 24 0 28) - 2)) J G t ((J 40 0 (((I 24 0 28) - 2).toNatClampNeg)) * (J 40 0 ((((I 24 0 28) - 2) + 1).toNatClampNeg))) FP.dconst0 = r25 at he
                  have he := he.trans (fm_letE _ _)
                  rw [er25] at K
                  refine fm_cV0 O fmD_push_o (i := 0) (as := [.inl t, .inr (.inl ((J 40 0 (((I 24 0 28) - 2).toNatClampNeg)) * (J 40 0 ((((I 24 0 28) - 2) + 1).toNatClampNeg)))), .inr (.inr (.inr (.inl FP.dconst0)))]) (rest := []) (v := none) rfl fk_6_172 rfl (by decide) fn_D_push (Nat.le_of_ble_eq_true rfl) (K) ?_
                  refine fm_gr O 1 (C' := (294, [(11, .inl (((J 40 0 ((((I 24 0 28) - 2) + 1).toNatClampNeg)).toInt32) &&& 31)), (9, .inr (.inr (.inr (.inl (G 41 0 ((((I 24 0 28) - 2) + 1).toNatClampNeg)))))), (7, .inr (.inr (.inr (.inl (G 41 0 (((I 24 0 28) - 2).toNatClampNeg)))))), (5, .inr (.inl (J 40 0 ((((I 24 0 28) - 2) + 1).toNatClampNeg)))), (3, .inr (.inl (J 40 0 (((I 24 0 28) - 2).toNatClampNeg)))), (0, .inr (.inr (.inr (.inr (24, 0))))), (1, .inl o), (2, .inl t)], [], (r25.1, r25.2.1, r25.2.2, fm_P pa pb))) rfl ?_
                  exact fm_gRe O rfl trivial (by first | (rw [he]; done) | (rw [he]; rfl) | rfl) (by first | (rw [he]; done) | (rw [he]; rfl) | rfl)
                · have he := he.trans (if_neg h8)
                  have hp := hp.2 h8
                  by_cases h9 : o = 14
                  · have he := he.trans (if_pos h9)
                    have hp := hp.1 h9
                    refine fm_gs O 14 rfl (show o.toInt = 14 from by rw [h9]; decide) ?_
                    refine fm_gr O 4 (C' := (208, [(11, .inl (((J 40 0 ((((I 24 0 28) - 2) + 1).toNatClampNeg)).toInt32) &&& 31)), (9, .inr (.inr (.inr (.inl (G 41 0 ((((I 24 0 28) - 2) + 1).toNatClampNeg)))))), (7, .inr (.inr (.inr (.inl (G 41 0 (((I 24 0 28) - 2).toNatClampNeg)))))), (5, .inr (.inl (J 40 0 ((((I 24 0 28) - 2) + 1).toNatClampNeg)))), (3, .inr (.inl (J 40 0 (((I 24 0 28) - 2).toNatClampNeg)))), (0, .inr (.inr (.inr (.inr (24, 0))))), (1, .inl o), (2, .inl t)], [.inr (.inl (J 40 0 ((((I 24 0 28) - 2) + 1).toNatClampNeg))), .inr (.inl (J 40 0 (((I 24 0 28) - 2).toNatClampNeg))), .inl t, .inr (.inr (.inr (.inr (24, 0))))], (fm_u I 24 0 28 ((I 24 0 28) - 2), J, G, fm_P pa pb))) rfl ?_
                    refine fm_gg O rfl hp.1 ?_
                    have hp := hp.2
                    refine fm_gr O 1 (C' := (210, [(11, .inl (((J 40 0 ((((I 24 0 28) - 2) + 1).toNatClampNeg)).toInt32) &&& 31)), (9, .inr (.inr (.inr (.inl (G 41 0 ((((I 24 0 28) - 2) + 1).toNatClampNeg)))))), (7, .inr (.inr (.inr (.inl (G 41 0 (((I 24 0 28) - 2).toNatClampNeg)))))), (5, .inr (.inl (J 40 0 ((((I 24 0 28) - 2) + 1).toNatClampNeg)))), (3, .inr (.inl (J 40 0 (((I 24 0 28) - 2).toNatClampNeg)))), (0, .inr (.inr (.inr (.inr (24, 0))))), (1, .inl o), (2, .inl t)], [.inr (.inr (.inr (.inl FP.dconst0))), .inr (.inl ((J 40 0 (((I 24 0 28) - 2).toNatClampNeg)) / (J 40 0 ((((I 24 0 28) - 2) + 1).toNatClampNeg)))), .inl t, .inr (.inr (.inr (.inr (24, 0))))], (fm_u I 24 0 28 ((I 24 0 28) - 2), J, G, fm_P pa pb))) rfl ?_
                    have K := fmD_push_c (d := d) hl (by omega) (fm_u I 24 0 28 ((I 24 0 28) - 2)) J G pa pb t ((J 40 0 (((I 24 0 28) - 2).toNatClampNeg)) / (J 40 0 ((((I 24 0 28) - 2) + 1).toNatClampNeg))) FP.dconst0 hp
                    generalize er26 : fmD_push_f (fm_u I 24 0 28 ((I 24 0 28) - 2)) J G t ((J 40 0 (((I 24 0 28) - 2).toNatClampNeg)) / (J 40 0 ((((I 24 0 28) - 2) + 1).toNatClampNeg))) FP.dconst0 = r26 at he
                    have he := he.trans (fm_letE _ _)
                    rw [er26] at K
                    refine fm_cV0 O fmD_push_o (i := 0) (as := [.inl t, .inr (.inl ((J 40 0 (((I 24 0 28) - 2).toNatClampNeg)) / (J 40 0 ((((I 24 0 28) - 2) + 1).toNatClampNeg)))), .inr (.inr (.inr (.inl FP.dconst0)))]) (rest := []) (v := none) rfl fk_6_172 rfl (by decide) fn_D_push (Nat.le_of_ble_eq_true rfl) (K) ?_
                    refine fm_gr O 1 (C' := (294, [(11, .inl (((J 40 0 ((((I 24 0 28) - 2) + 1).toNatClampNeg)).toInt32) &&& 31)), (9, .inr (.inr (.inr (.inl (G 41 0 ((((I 24 0 28) - 2) + 1).toNatClampNeg)))))), (7, .inr (.inr (.inr (.inl (G 41 0 (((I 24 0 28) - 2).toNatClampNeg)))))), (5, .inr (.inl (J 40 0 ((((I 24 0 28) - 2) + 1).toNatClampNeg)))), (3, .inr (.inl (J 40 0 (((I 24 0 28) - 2).toNatClampNeg)))), (0, .inr (.inr (.inr (.inr (24, 0))))), (1, .inl o), (2, .inl t)], [], (r26.1, r26.2.1, r26.2.2, fm_P pa pb))) rfl ?_
                    exact fm_gRe O rfl trivial (by first | (rw [he]; done) | (rw [he]; rfl) | rfl) (by first | (rw [he]; done) | (rw [he]; rfl) | rfl)
                  · have he := he.trans (if_neg h9)
                    have hp := hp.2 h9
                    by_cases h10 : o = 15
                    · have he := he.trans (if_pos h10)
                      have hp := hp.1 h10
                      refine fm_gs O 15 rfl (show o.toInt = 15 from by rw [h10]; decide) ?_
                      refine fm_gr O 4 (C' := (221, [(11, .inl (((J 40 0 ((((I 24 0 28) - 2) + 1).toNatClampNeg)).toInt32) &&& 31)), (9, .inr (.inr (.inr (.inl (G 41 0 ((((I 24 0 28) - 2) + 1).toNatClampNeg)))))), (7, .inr (.inr (.inr (.inl (G 41 0 (((I 24 0 28) - 2).toNatClampNeg)))))), (5, .inr (.inl (J 40 0 ((((I 24 0 28) - 2) + 1).toNatClampNeg)))), (3, .inr (.inl (J 40 0 (((I 24 0 28) - 2).toNatClampNeg)))), (0, .inr (.inr (.inr (.inr (24, 0))))), (1, .inl o), (2, .inl t)], [.inr (.inl (J 40 0 ((((I 24 0 28) - 2) + 1).toNatClampNeg))), .inr (.inl (J 40 0 (((I 24 0 28) - 2).toNatClampNeg))), .inl t, .inr (.inr (.inr (.inr (24, 0))))], (fm_u I 24 0 28 ((I 24 0 28) - 2), J, G, fm_P pa pb))) rfl ?_
                      refine fm_gg O rfl hp.1 ?_
                      have hp := hp.2
                      refine fm_gr O 1 (C' := (223, [(11, .inl (((J 40 0 ((((I 24 0 28) - 2) + 1).toNatClampNeg)).toInt32) &&& 31)), (9, .inr (.inr (.inr (.inl (G 41 0 ((((I 24 0 28) - 2) + 1).toNatClampNeg)))))), (7, .inr (.inr (.inr (.inl (G 41 0 (((I 24 0 28) - 2).toNatClampNeg)))))), (5, .inr (.inl (J 40 0 ((((I 24 0 28) - 2) + 1).toNatClampNeg)))), (3, .inr (.inl (J 40 0 (((I 24 0 28) - 2).toNatClampNeg)))), (0, .inr (.inr (.inr (.inr (24, 0))))), (1, .inl o), (2, .inl t)], [.inr (.inr (.inr (.inl FP.dconst0))), .inr (.inl ((J 40 0 (((I 24 0 28) - 2).toNatClampNeg)) - (J 40 0 (((I 24 0 28) - 2).toNatClampNeg)) / (J 40 0 ((((I 24 0 28) - 2) + 1).toNatClampNeg)) * (J 40 0 ((((I 24 0 28) - 2) + 1).toNatClampNeg)))), .inl t, .inr (.inr (.inr (.inr (24, 0))))], (fm_u I 24 0 28 ((I 24 0 28) - 2), J, G, fm_P pa pb))) rfl ?_
                      have K := fmD_push_c (d := d) hl (by omega) (fm_u I 24 0 28 ((I 24 0 28) - 2)) J G pa pb t ((J 40 0 (((I 24 0 28) - 2).toNatClampNeg)) - (J 40 0 (((I 24 0 28) - 2).toNatClampNeg)) / (J 40 0 ((((I 24 0 28) - 2) + 1).toNatClampNeg)) * (J 40 0 ((((I 24 0 28) - 2) + 1).toNatClampNeg))) FP.dconst0 hp
                      generalize er27 : fmD_push_f (fm_u I 24 0 28 ((I 24 0 28) - 2)) J G t ((J 40 0 (((I 24 0 28) - 2).toNatClampNeg)) - (J 40 0 (((I 24 0 28) - 2).toNatClampNeg)) / (J 40 0 ((((I 24 0 28) - 2) + 1).toNatClampNeg)) * (J 40 0 ((((I 24 0 28) - 2) + 1).toNatClampNeg))) FP.dconst0 = r27 at he
                      have he := he.trans (fm_letE _ _)
                      rw [er27] at K
                      refine fm_cV0 O fmD_push_o (i := 0) (as := [.inl t, .inr (.inl ((J 40 0 (((I 24 0 28) - 2).toNatClampNeg)) - (J 40 0 (((I 24 0 28) - 2).toNatClampNeg)) / (J 40 0 ((((I 24 0 28) - 2) + 1).toNatClampNeg)) * (J 40 0 ((((I 24 0 28) - 2) + 1).toNatClampNeg)))), .inr (.inr (.inr (.inl FP.dconst0)))]) (rest := []) (v := none) rfl fk_6_172 rfl (by decide) fn_D_push (Nat.le_of_ble_eq_true rfl) (K) ?_
                      refine fm_gr O 1 (C' := (294, [(11, .inl (((J 40 0 ((((I 24 0 28) - 2) + 1).toNatClampNeg)).toInt32) &&& 31)), (9, .inr (.inr (.inr (.inl (G 41 0 ((((I 24 0 28) - 2) + 1).toNatClampNeg)))))), (7, .inr (.inr (.inr (.inl (G 41 0 (((I 24 0 28) - 2).toNatClampNeg)))))), (5, .inr (.inl (J 40 0 ((((I 24 0 28) - 2) + 1).toNatClampNeg)))), (3, .inr (.inl (J 40 0 (((I 24 0 28) - 2).toNatClampNeg)))), (0, .inr (.inr (.inr (.inr (24, 0))))), (1, .inl o), (2, .inl t)], [], (r27.1, r27.2.1, r27.2.2, fm_P pa pb))) rfl ?_
                      exact fm_gRe O rfl trivial (by first | (rw [he]; done) | (rw [he]; rfl) | rfl) (by first | (rw [he]; done) | (rw [he]; rfl) | rfl)
                    · have he := he.trans (if_neg h10)
                      have hp := hp.2 h10
                      by_cases h11 : o = 16
                      · have he := he.trans (if_pos h11)
                        have hp := hp.1 h11
                        refine fm_gs O 16 rfl (show o.toInt = 16 from by rw [h11]; decide) ?_
                        refine fm_gr O 6 (C' := (236, [(11, .inl (((J 40 0 ((((I 24 0 28) - 2) + 1).toNatClampNeg)).toInt32) &&& 31)), (9, .inr (.inr (.inr (.inl (G 41 0 ((((I 24 0 28) - 2) + 1).toNatClampNeg)))))), (7, .inr (.inr (.inr (.inl (G 41 0 (((I 24 0 28) - 2).toNatClampNeg)))))), (5, .inr (.inl (J 40 0 ((((I 24 0 28) - 2) + 1).toNatClampNeg)))), (3, .inr (.inl (J 40 0 (((I 24 0 28) - 2).toNatClampNeg)))), (0, .inr (.inr (.inr (.inr (24, 0))))), (1, .inl o), (2, .inl t)], [.inr (.inr (.inr (.inl FP.dconst0))), .inr (.inl ((J 40 0 (((I 24 0 28) - 2).toNatClampNeg)) &&& (J 40 0 ((((I 24 0 28) - 2) + 1).toNatClampNeg)))), .inl t, .inr (.inr (.inr (.inr (24, 0))))], (fm_u I 24 0 28 ((I 24 0 28) - 2), J, G, fm_P pa pb))) rfl ?_
                        have K := fmD_push_c (d := d) hl (by omega) (fm_u I 24 0 28 ((I 24 0 28) - 2)) J G pa pb t ((J 40 0 (((I 24 0 28) - 2).toNatClampNeg)) &&& (J 40 0 ((((I 24 0 28) - 2) + 1).toNatClampNeg))) FP.dconst0 hp
                        generalize er28 : fmD_push_f (fm_u I 24 0 28 ((I 24 0 28) - 2)) J G t ((J 40 0 (((I 24 0 28) - 2).toNatClampNeg)) &&& (J 40 0 ((((I 24 0 28) - 2) + 1).toNatClampNeg))) FP.dconst0 = r28 at he
                        have he := he.trans (fm_letE _ _)
                        rw [er28] at K
                        refine fm_cV0 O fmD_push_o (i := 0) (as := [.inl t, .inr (.inl ((J 40 0 (((I 24 0 28) - 2).toNatClampNeg)) &&& (J 40 0 ((((I 24 0 28) - 2) + 1).toNatClampNeg)))), .inr (.inr (.inr (.inl FP.dconst0)))]) (rest := []) (v := none) rfl fk_6_172 rfl (by decide) fn_D_push (Nat.le_of_ble_eq_true rfl) (K) ?_
                        refine fm_gr O 1 (C' := (294, [(11, .inl (((J 40 0 ((((I 24 0 28) - 2) + 1).toNatClampNeg)).toInt32) &&& 31)), (9, .inr (.inr (.inr (.inl (G 41 0 ((((I 24 0 28) - 2) + 1).toNatClampNeg)))))), (7, .inr (.inr (.inr (.inl (G 41 0 (((I 24 0 28) - 2).toNatClampNeg)))))), (5, .inr (.inl (J 40 0 ((((I 24 0 28) - 2) + 1).toNatClampNeg)))), (3, .inr (.inl (J 40 0 (((I 24 0 28) - 2).toNatClampNeg)))), (0, .inr (.inr (.inr (.inr (24, 0))))), (1, .inl o), (2, .inl t)], [], (r28.1, r28.2.1, r28.2.2, fm_P pa pb))) rfl ?_
                        exact fm_gRe O rfl trivial (by first | (rw [he]; done) | (rw [he]; rfl) | rfl) (by first | (rw [he]; done) | (rw [he]; rfl) | rfl)
                      · have he := he.trans (if_neg h11)
                        have hp := hp.2 h11
                        by_cases h12 : o = 17
                        · have he := he.trans (if_pos h12)
                          have hp := hp.1 h12
                          refine fm_gs O 17 rfl (show o.toInt = 17 from by rw [h12]; decide) ?_
                          refine fm_gr O 6 (C' := (249, [(11, .inl (((J 40 0 ((((I 24 0 28) - 2) + 1).toNatClampNeg)).toInt32) &&& 31)), (9, .inr (.inr (.inr (.inl (G 41 0 ((((I 24 0 28) - 2) + 1).toNatClampNeg)))))), (7, .inr (.inr (.inr (.inl (G 41 0 (((I 24 0 28) - 2).toNatClampNeg)))))), (5, .inr (.inl (J 40 0 ((((I 24 0 28) - 2) + 1).toNatClampNeg)))), (3, .inr (.inl (J 40 0 (((I 24 0 28) - 2).toNatClampNeg)))), (0, .inr (.inr (.inr (.inr (24, 0))))), (1, .inl o), (2, .inl t)], [.inr (.inr (.inr (.inl FP.dconst0))), .inr (.inl ((J 40 0 (((I 24 0 28) - 2).toNatClampNeg)) <<< ((((J 40 0 ((((I 24 0 28) - 2) + 1).toNatClampNeg)).toInt32) &&& 31).toInt64 &&& 63))), .inl t, .inr (.inr (.inr (.inr (24, 0))))], (fm_u I 24 0 28 ((I 24 0 28) - 2), J, G, fm_P pa pb))) rfl ?_
                          have K := fmD_push_c (d := d) hl (by omega) (fm_u I 24 0 28 ((I 24 0 28) - 2)) J G pa pb t ((J 40 0 (((I 24 0 28) - 2).toNatClampNeg)) <<< ((((J 40 0 ((((I 24 0 28) - 2) + 1).toNatClampNeg)).toInt32) &&& 31).toInt64 &&& 63)) FP.dconst0 hp
                          generalize er29 : fmD_push_f (fm_u I 24 0 28 ((I 24 0 28) - 2)) J G t ((J 40 0 (((I 24 0 28) - 2).toNatClampNeg)) <<< ((((J 40 0 ((((I 24 0 28) - 2) + 1).toNatClampNeg)).toInt32) &&& 31).toInt64 &&& 63)) FP.dconst0 = r29 at he
                          have he := he.trans (fm_letE _ _)
                          rw [er29] at K
                          refine fm_cV0 O fmD_push_o (i := 0) (as := [.inl t, .inr (.inl ((J 40 0 (((I 24 0 28) - 2).toNatClampNeg)) <<< ((((J 40 0 ((((I 24 0 28) - 2) + 1).toNatClampNeg)).toInt32) &&& 31).toInt64 &&& 63))), .inr (.inr (.inr (.inl FP.dconst0)))]) (rest := []) (v := none) rfl fk_6_172 rfl (by decide) fn_D_push (Nat.le_of_ble_eq_true rfl) (K) ?_
                          refine fm_gr O 1 (C' := (294, [(11, .inl (((J 40 0 ((((I 24 0 28) - 2) + 1).toNatClampNeg)).toInt32) &&& 31)), (9, .inr (.inr (.inr (.inl (G 41 0 ((((I 24 0 28) - 2) + 1).toNatClampNeg)))))), (7, .inr (.inr (.inr (.inl (G 41 0 (((I 24 0 28) - 2).toNatClampNeg)))))), (5, .inr (.inl (J 40 0 ((((I 24 0 28) - 2) + 1).toNatClampNeg)))), (3, .inr (.inl (J 40 0 (((I 24 0 28) - 2).toNatClampNeg)))), (0, .inr (.inr (.inr (.inr (24, 0))))), (1, .inl o), (2, .inl t)], [], (r29.1, r29.2.1, r29.2.2, fm_P pa pb))) rfl ?_
                          exact fm_gRe O rfl trivial (by first | (rw [he]; done) | (rw [he]; rfl) | rfl) (by first | (rw [he]; done) | (rw [he]; rfl) | rfl)
                        · have he := he.trans (if_neg h12)
                          have hp := hp.2 h12
                          by_cases h13 : o = 18
                          · have he := he.trans (if_pos h13)
                            have hp := hp.1 h13
                            refine fm_gs O 18 rfl (show o.toInt = 18 from by rw [h13]; decide) ?_
                            refine fm_gr O 5 (C' := (261, [(11, .inl (((J 40 0 ((((I 24 0 28) - 2) + 1).toNatClampNeg)).toInt32) &&& 31)), (9, .inr (.inr (.inr (.inl (G 41 0 ((((I 24 0 28) - 2) + 1).toNatClampNeg)))))), (7, .inr (.inr (.inr (.inl (G 41 0 (((I 24 0 28) - 2).toNatClampNeg)))))), (5, .inr (.inl (J 40 0 ((((I 24 0 28) - 2) + 1).toNatClampNeg)))), (3, .inr (.inl (J 40 0 (((I 24 0 28) - 2).toNatClampNeg)))), (0, .inr (.inr (.inr (.inr (24, 0))))), (1, .inl o), (2, .inl t)], [.inl (lg_cmp (J 40 0 (((I 24 0 28) - 2).toNatClampNeg)) (J 40 0 ((((I 24 0 28) - 2) + 1).toNatClampNeg))), .inl 0, .inr (.inr (.inr (.inr (24, 0))))], (fm_u I 24 0 28 ((I 24 0 28) - 2), J, G, fm_P pa pb))) rfl ?_
                            refine fm_gb O rfl (fun h => ?_) (fun h => ?_)
                            · have h14 : 0 ≤ (lg_cmp (J 40 0 (((I 24 0 28) - 2).toNatClampNeg)) (J 40 0 ((((I 24 0 28) - 2) + 1).toNatClampNeg))) := h
                              have he := he.trans (if_pos h14)
                              have hp := hp.1 h14
                              refine fm_gr O 2 (C' := (270, [(11, .inl (((J 40 0 ((((I 24 0 28) - 2) + 1).toNatClampNeg)).toInt32) &&& 31)), (9, .inr (.inr (.inr (.inl (G 41 0 ((((I 24 0 28) - 2) + 1).toNatClampNeg)))))), (7, .inr (.inr (.inr (.inl (G 41 0 (((I 24 0 28) - 2).toNatClampNeg)))))), (5, .inr (.inl (J 40 0 ((((I 24 0 28) - 2) + 1).toNatClampNeg)))), (3, .inr (.inl (J 40 0 (((I 24 0 28) - 2).toNatClampNeg)))), (0, .inr (.inr (.inr (.inr (24, 0))))), (1, .inl o), (2, .inl t)], [.inr (.inr (.inr (.inl FP.dconst0))), .inr (.inl 0), .inl 0, .inr (.inr (.inr (.inr (24, 0))))], (fm_u I 24 0 28 ((I 24 0 28) - 2), J, G, fm_P pa pb))) rfl ?_
                              have K := fmD_push_c (d := d) hl (by omega) (fm_u I 24 0 28 ((I 24 0 28) - 2)) J G pa pb 0 0 FP.dconst0 hp
                              generalize er30 : fmD_push_f (fm_u I 24 0 28 ((I 24 0 28) - 2)) J G 0 0 FP.dconst0 = r30 at he
                              have he := he.trans (fm_letE _ _)
                              rw [er30] at K
                              refine fm_cV0 O fmD_push_o (i := 0) (as := [.inl 0, .inr (.inl 0), .inr (.inr (.inr (.inl FP.dconst0)))]) (rest := []) (v := none) rfl fk_6_172 rfl (by decide) fn_D_push (Nat.le_of_ble_eq_true rfl) (K) ?_
                              refine fm_gr O 1 (C' := (294, [(11, .inl (((J 40 0 ((((I 24 0 28) - 2) + 1).toNatClampNeg)).toInt32) &&& 31)), (9, .inr (.inr (.inr (.inl (G 41 0 ((((I 24 0 28) - 2) + 1).toNatClampNeg)))))), (7, .inr (.inr (.inr (.inl (G 41 0 (((I 24 0 28) - 2).toNatClampNeg)))))), (5, .inr (.inl (J 40 0 ((((I 24 0 28) - 2) + 1).toNatClampNeg)))), (3, .inr (.inl (J 40 0 (((I 24 0 28) - 2).toNatClampNeg)))), (0, .inr (.inr (.inr (.inr (24, 0))))), (1, .inl o), (2, .inl t)], [], (r30.1, r30.2.1, r30.2.2, fm_P pa pb))) rfl ?_
                              exact fm_gRe O rfl trivial (by first | (rw [he]; done) | (rw [he]; rfl) | rfl) (by first | (rw [he]; done) | (rw [he]; rfl) | rfl)
                            · have h14 : ¬ 0 ≤ (lg_cmp (J 40 0 (((I 24 0 28) - 2).toNatClampNeg)) (J 40 0 ((((I 24 0 28) - 2) + 1).toNatClampNeg))) := h
                              have he := he.trans (if_neg h14)
                              have hp := hp.2 h14
                              refine fm_gr O 3 (C' := (270, [(11, .inl (((J 40 0 ((((I 24 0 28) - 2) + 1).toNatClampNeg)).toInt32) &&& 31)), (9, .inr (.inr (.inr (.inl (G 41 0 ((((I 24 0 28) - 2) + 1).toNatClampNeg)))))), (7, .inr (.inr (.inr (.inl (G 41 0 (((I 24 0 28) - 2).toNatClampNeg)))))), (5, .inr (.inl (J 40 0 ((((I 24 0 28) - 2) + 1).toNatClampNeg)))), (3, .inr (.inl (J 40 0 (((I 24 0 28) - 2).toNatClampNeg)))), (0, .inr (.inr (.inr (.inr (24, 0))))), (1, .inl o), (2, .inl t)], [.inr (.inr (.inr (.inl FP.dconst0))), .inr (.inl 1), .inl 0, .inr (.inr (.inr (.inr (24, 0))))], (fm_u I 24 0 28 ((I 24 0 28) - 2), J, G, fm_P pa pb))) rfl ?_
                              have K := fmD_push_c (d := d) hl (by omega) (fm_u I 24 0 28 ((I 24 0 28) - 2)) J G pa pb 0 1 FP.dconst0 hp
                              generalize er31 : fmD_push_f (fm_u I 24 0 28 ((I 24 0 28) - 2)) J G 0 1 FP.dconst0 = r31 at he
                              have he := he.trans (fm_letE _ _)
                              rw [er31] at K
                              refine fm_cV0 O fmD_push_o (i := 0) (as := [.inl 0, .inr (.inl 1), .inr (.inr (.inr (.inl FP.dconst0)))]) (rest := []) (v := none) rfl fk_6_172 rfl (by decide) fn_D_push (Nat.le_of_ble_eq_true rfl) (K) ?_
                              refine fm_gr O 1 (C' := (294, [(11, .inl (((J 40 0 ((((I 24 0 28) - 2) + 1).toNatClampNeg)).toInt32) &&& 31)), (9, .inr (.inr (.inr (.inl (G 41 0 ((((I 24 0 28) - 2) + 1).toNatClampNeg)))))), (7, .inr (.inr (.inr (.inl (G 41 0 (((I 24 0 28) - 2).toNatClampNeg)))))), (5, .inr (.inl (J 40 0 ((((I 24 0 28) - 2) + 1).toNatClampNeg)))), (3, .inr (.inl (J 40 0 (((I 24 0 28) - 2).toNatClampNeg)))), (0, .inr (.inr (.inr (.inr (24, 0))))), (1, .inl o), (2, .inl t)], [], (r31.1, r31.2.1, r31.2.2, fm_P pa pb))) rfl ?_
                              exact fm_gRe O rfl trivial (by first | (rw [he]; done) | (rw [he]; rfl) | rfl) (by first | (rw [he]; done) | (rw [he]; rfl) | rfl)
                          · have he := he.trans (if_neg h13)
                            have hp := hp.2 h13
                            refine fm_gt O rfl (by
                                show o.toInt < 11 ∨ 18 < o.toInt
                                have := lv_neT h6 (show (11 : Int32).toInt = 11 from by decide)
                                have := lv_neT h7 (show (12 : Int32).toInt = 12 from by decide)
                                have := lv_neT h8 (show (13 : Int32).toInt = 13 from by decide)
                                have := lv_neT h9 (show (14 : Int32).toInt = 14 from by decide)
                                have := lv_neT h10 (show (15 : Int32).toInt = 15 from by decide)
                                have := lv_neT h11 (show (16 : Int32).toInt = 16 from by decide)
                                have := lv_neT h12 (show (17 : Int32).toInt = 17 from by decide)
                                have := lv_neT h13 (show (18 : Int32).toInt = 18 from by decide)
                                omega) ?_
                            refine fm_gr O 5 (C' := (282, [(11, .inl (((J 40 0 ((((I 24 0 28) - 2) + 1).toNatClampNeg)).toInt32) &&& 31)), (9, .inr (.inr (.inr (.inl (G 41 0 ((((I 24 0 28) - 2) + 1).toNatClampNeg)))))), (7, .inr (.inr (.inr (.inl (G 41 0 (((I 24 0 28) - 2).toNatClampNeg)))))), (5, .inr (.inl (J 40 0 ((((I 24 0 28) - 2) + 1).toNatClampNeg)))), (3, .inr (.inl (J 40 0 (((I 24 0 28) - 2).toNatClampNeg)))), (0, .inr (.inr (.inr (.inr (24, 0))))), (1, .inl o), (2, .inl t)], [.inl (lg_cmp (J 40 0 (((I 24 0 28) - 2).toNatClampNeg)) (J 40 0 ((((I 24 0 28) - 2) + 1).toNatClampNeg))), .inl 0, .inr (.inr (.inr (.inr (24, 0))))], (fm_u I 24 0 28 ((I 24 0 28) - 2), J, G, fm_P pa pb))) rfl ?_
                            refine fm_gb O rfl (fun h => ?_) (fun h => ?_)
                            · have h14 : (lg_cmp (J 40 0 (((I 24 0 28) - 2).toNatClampNeg)) (J 40 0 ((((I 24 0 28) - 2) + 1).toNatClampNeg))) = 0 := h
                              have he := he.trans (if_pos h14)
                              have hp := hp.1 h14
                              refine fm_gr O 3 (C' := (291, [(11, .inl (((J 40 0 ((((I 24 0 28) - 2) + 1).toNatClampNeg)).toInt32) &&& 31)), (9, .inr (.inr (.inr (.inl (G 41 0 ((((I 24 0 28) - 2) + 1).toNatClampNeg)))))), (7, .inr (.inr (.inr (.inl (G 41 0 (((I 24 0 28) - 2).toNatClampNeg)))))), (5, .inr (.inl (J 40 0 ((((I 24 0 28) - 2) + 1).toNatClampNeg)))), (3, .inr (.inl (J 40 0 (((I 24 0 28) - 2).toNatClampNeg)))), (0, .inr (.inr (.inr (.inr (24, 0))))), (1, .inl o), (2, .inl t)], [.inr (.inr (.inr (.inl FP.dconst0))), .inr (.inl 1), .inl 0, .inr (.inr (.inr (.inr (24, 0))))], (fm_u I 24 0 28 ((I 24 0 28) - 2), J, G, fm_P pa pb))) rfl ?_
                              have K := fmD_push_c (d := d) hl (by omega) (fm_u I 24 0 28 ((I 24 0 28) - 2)) J G pa pb 0 1 FP.dconst0 hp
                              generalize er32 : fmD_push_f (fm_u I 24 0 28 ((I 24 0 28) - 2)) J G 0 1 FP.dconst0 = r32 at he
                              have he := he.trans (fm_letE _ _)
                              rw [er32] at K
                              refine fm_cV0 O fmD_push_o (i := 0) (as := [.inl 0, .inr (.inl 1), .inr (.inr (.inr (.inl FP.dconst0)))]) (rest := []) (v := none) rfl fk_6_172 rfl (by decide) fn_D_push (Nat.le_of_ble_eq_true rfl) (K) ?_
                              exact fm_gRe O rfl trivial (by first | (rw [he]; done) | (rw [he]; rfl) | rfl) (by first | (rw [he]; done) | (rw [he]; rfl) | rfl)
                            · have h14 : ¬ (lg_cmp (J 40 0 (((I 24 0 28) - 2).toNatClampNeg)) (J 40 0 ((((I 24 0 28) - 2) + 1).toNatClampNeg))) = 0 := h
                              have he := he.trans (if_neg h14)
                              have hp := hp.2 h14
                              refine fm_gr O 2 (C' := (291, [(11, .inl (((J 40 0 ((((I 24 0 28) - 2) + 1).toNatClampNeg)).toInt32) &&& 31)), (9, .inr (.inr (.inr (.inl (G 41 0 ((((I 24 0 28) - 2) + 1).toNatClampNeg)))))), (7, .inr (.inr (.inr (.inl (G 41 0 (((I 24 0 28) - 2).toNatClampNeg)))))), (5, .inr (.inl (J 40 0 ((((I 24 0 28) - 2) + 1).toNatClampNeg)))), (3, .inr (.inl (J 40 0 (((I 24 0 28) - 2).toNatClampNeg)))), (0, .inr (.inr (.inr (.inr (24, 0))))), (1, .inl o), (2, .inl t)], [.inr (.inr (.inr (.inl FP.dconst0))), .inr (.inl 0), .inl 0, .inr (.inr (.inr (.inr (24, 0))))], (fm_u I 24 0 28 ((I 24 0 28) - 2), J, G, fm_P pa pb))) rfl ?_
                              have K := fmD_push_c (d := d) hl (by omega) (fm_u I 24 0 28 ((I 24 0 28) - 2)) J G pa pb 0 0 FP.dconst0 hp
                              generalize er33 : fmD_push_f (fm_u I 24 0 28 ((I 24 0 28) - 2)) J G 0 0 FP.dconst0 = r33 at he
                              have he := he.trans (fm_letE _ _)
                              rw [er33] at K
                              refine fm_cV0 O fmD_push_o (i := 0) (as := [.inl 0, .inr (.inl 0), .inr (.inr (.inr (.inl FP.dconst0)))]) (rest := []) (v := none) rfl fk_6_172 rfl (by decide) fn_D_push (Nat.le_of_ble_eq_true rfl) (K) ?_
                              exact fm_gRe O rfl trivial (by first | (rw [he]; done) | (rw [he]; rfl) | rfl) (by first | (rw [he]; done) | (rw [he]; rfl) | rfl)
          · have h5 : ¬ t = 0 := h
            have he := he.trans (if_neg h5)
            have hp := hp.2 h5
            refine fm_gr O 4 (C' := (116, [(11, .inl (((J 40 0 ((((I 24 0 28) - 2) + 1).toNatClampNeg)).toInt32) &&& 63)), (9, .inr (.inr (.inr (.inl (G 41 0 ((((I 24 0 28) - 2) + 1).toNatClampNeg)))))), (7, .inr (.inr (.inr (.inl (G 41 0 (((I 24 0 28) - 2).toNatClampNeg)))))), (5, .inr (.inl (J 40 0 ((((I 24 0 28) - 2) + 1).toNatClampNeg)))), (3, .inr (.inl (J 40 0 (((I 24 0 28) - 2).toNatClampNeg)))), (0, .inr (.inr (.inr (.inr (24, 0))))), (1, .inl o), (2, .inl t)], [.inl o], (fm_u I 24 0 28 ((I 24 0 28) - 2), J, G, fm_P pa pb))) rfl ?_
            by_cases h6 : o = 11
            · have he := he.trans (if_pos h6)
              have hp := hp.1 h6
              refine fm_gs O 11 rfl (show o.toInt = 11 from by rw [h6]; decide) ?_
              refine fm_gr O 6 (C' := (171, [(11, .inl (((J 40 0 ((((I 24 0 28) - 2) + 1).toNatClampNeg)).toInt32) &&& 63)), (9, .inr (.inr (.inr (.inl (G 41 0 ((((I 24 0 28) - 2) + 1).toNatClampNeg)))))), (7, .inr (.inr (.inr (.inl (G 41 0 (((I 24 0 28) - 2).toNatClampNeg)))))), (5, .inr (.inl (J 40 0 ((((I 24 0 28) - 2) + 1).toNatClampNeg)))), (3, .inr (.inl (J 40 0 (((I 24 0 28) - 2).toNatClampNeg)))), (0, .inr (.inr (.inr (.inr (24, 0))))), (1, .inl o), (2, .inl t)], [.inr (.inr (.inr (.inl FP.dconst0))), .inr (.inl ((J 40 0 (((I 24 0 28) - 2).toNatClampNeg)) + (J 40 0 ((((I 24 0 28) - 2) + 1).toNatClampNeg)))), .inl t, .inr (.inr (.inr (.inr (24, 0))))], (fm_u I 24 0 28 ((I 24 0 28) - 2), J, G, fm_P pa pb))) rfl ?_
              have K := fmD_push_c (d := d) hl (by omega) (fm_u I 24 0 28 ((I 24 0 28) - 2)) J G pa pb t ((J 40 0 (((I 24 0 28) - 2).toNatClampNeg)) + (J 40 0 ((((I 24 0 28) - 2) + 1).toNatClampNeg))) FP.dconst0 hp
              generalize er34 : fmD_push_f (fm_u I 24 0 28 ((I 24 0 28) - 2)) J G t ((J 40 0 (((I 24 0 28) - 2).toNatClampNeg)) + (J 40 0 ((((I 24 0 28) - 2) + 1).toNatClampNeg))) FP.dconst0 = r34 at he
              have he := he.trans (fm_letE _ _)
              rw [er34] at K
              refine fm_cV0 O fmD_push_o (i := 0) (as := [.inl t, .inr (.inl ((J 40 0 (((I 24 0 28) - 2).toNatClampNeg)) + (J 40 0 ((((I 24 0 28) - 2) + 1).toNatClampNeg)))), .inr (.inr (.inr (.inl FP.dconst0)))]) (rest := []) (v := none) rfl fk_6_172 rfl (by decide) fn_D_push (Nat.le_of_ble_eq_true rfl) (K) ?_
              refine fm_gr O 1 (C' := (294, [(11, .inl (((J 40 0 ((((I 24 0 28) - 2) + 1).toNatClampNeg)).toInt32) &&& 63)), (9, .inr (.inr (.inr (.inl (G 41 0 ((((I 24 0 28) - 2) + 1).toNatClampNeg)))))), (7, .inr (.inr (.inr (.inl (G 41 0 (((I 24 0 28) - 2).toNatClampNeg)))))), (5, .inr (.inl (J 40 0 ((((I 24 0 28) - 2) + 1).toNatClampNeg)))), (3, .inr (.inl (J 40 0 (((I 24 0 28) - 2).toNatClampNeg)))), (0, .inr (.inr (.inr (.inr (24, 0))))), (1, .inl o), (2, .inl t)], [], (r34.1, r34.2.1, r34.2.2, fm_P pa pb))) rfl ?_
              exact fm_gRe O rfl trivial (by first | (rw [he]; done) | (rw [he]; rfl) | rfl) (by first | (rw [he]; done) | (rw [he]; rfl) | rfl)
            · have he := he.trans (if_neg h6)
              have hp := hp.2 h6
              by_cases h7 : o = 12
              · have he := he.trans (if_pos h7)
                have hp := hp.1 h7
                refine fm_gs O 12 rfl (show o.toInt = 12 from by rw [h7]; decide) ?_
                refine fm_gr O 6 (C' := (184, [(11, .inl (((J 40 0 ((((I 24 0 28) - 2) + 1).toNatClampNeg)).toInt32) &&& 63)), (9, .inr (.inr (.inr (.inl (G 41 0 ((((I 24 0 28) - 2) + 1).toNatClampNeg)))))), (7, .inr (.inr (.inr (.inl (G 41 0 (((I 24 0 28) - 2).toNatClampNeg)))))), (5, .inr (.inl (J 40 0 ((((I 24 0 28) - 2) + 1).toNatClampNeg)))), (3, .inr (.inl (J 40 0 (((I 24 0 28) - 2).toNatClampNeg)))), (0, .inr (.inr (.inr (.inr (24, 0))))), (1, .inl o), (2, .inl t)], [.inr (.inr (.inr (.inl FP.dconst0))), .inr (.inl ((J 40 0 (((I 24 0 28) - 2).toNatClampNeg)) - (J 40 0 ((((I 24 0 28) - 2) + 1).toNatClampNeg)))), .inl t, .inr (.inr (.inr (.inr (24, 0))))], (fm_u I 24 0 28 ((I 24 0 28) - 2), J, G, fm_P pa pb))) rfl ?_
                have K := fmD_push_c (d := d) hl (by omega) (fm_u I 24 0 28 ((I 24 0 28) - 2)) J G pa pb t ((J 40 0 (((I 24 0 28) - 2).toNatClampNeg)) - (J 40 0 ((((I 24 0 28) - 2) + 1).toNatClampNeg))) FP.dconst0 hp
                generalize er35 : fmD_push_f (fm_u I 24 0 28 ((I 24 0 28) - 2)) J G t ((J 40 0 (((I 24 0 28) - 2).toNatClampNeg)) - (J 40 0 ((((I 24 0 28) - 2) + 1).toNatClampNeg))) FP.dconst0 = r35 at he
                have he := he.trans (fm_letE _ _)
                rw [er35] at K
                refine fm_cV0 O fmD_push_o (i := 0) (as := [.inl t, .inr (.inl ((J 40 0 (((I 24 0 28) - 2).toNatClampNeg)) - (J 40 0 ((((I 24 0 28) - 2) + 1).toNatClampNeg)))), .inr (.inr (.inr (.inl FP.dconst0)))]) (rest := []) (v := none) rfl fk_6_172 rfl (by decide) fn_D_push (Nat.le_of_ble_eq_true rfl) (K) ?_
                refine fm_gr O 1 (C' := (294, [(11, .inl (((J 40 0 ((((I 24 0 28) - 2) + 1).toNatClampNeg)).toInt32) &&& 63)), (9, .inr (.inr (.inr (.inl (G 41 0 ((((I 24 0 28) - 2) + 1).toNatClampNeg)))))), (7, .inr (.inr (.inr (.inl (G 41 0 (((I 24 0 28) - 2).toNatClampNeg)))))), (5, .inr (.inl (J 40 0 ((((I 24 0 28) - 2) + 1).toNatClampNeg)))), (3, .inr (.inl (J 40 0 (((I 24 0 28) - 2).toNatClampNeg)))), (0, .inr (.inr (.inr (.inr (24, 0))))), (1, .inl o), (2, .inl t)], [], (r35.1, r35.2.1, r35.2.2, fm_P pa pb))) rfl ?_
                exact fm_gRe O rfl trivial (by first | (rw [he]; done) | (rw [he]; rfl) | rfl) (by first | (rw [he]; done) | (rw [he]; rfl) | rfl)
              · have he := he.trans (if_neg h7)
                have hp := hp.2 h7
                by_cases h8 : o = 13
                · have he := he.trans (if_pos h8)
                  have hp := hp.1 h8
                  refine fm_gs O 13 rfl (show o.toInt = 13 from by rw [h8]; decide) ?_
                  refine fm_gr O 6 (C' := (197, [(11, .inl (((J 40 0 ((((I 24 0 28) - 2) + 1).toNatClampNeg)).toInt32) &&& 63)), (9, .inr (.inr (.inr (.inl (G 41 0 ((((I 24 0 28) - 2) + 1).toNatClampNeg)))))), (7, .inr (.inr (.inr (.inl (G 41 0 (((I 24 0 28) - 2).toNatClampNeg)))))), (5, .inr (.inl (J 40 0 ((((I 24 0 28) - 2) + 1).toNatClampNeg)))), (3, .inr (.inl (J 40 0 (((I 24 0 28) - 2).toNatClampNeg)))), (0, .inr (.inr (.inr (.inr (24, 0))))), (1, .inl o), (2, .inl t)], [.inr (.inr (.inr (.inl FP.dconst0))), .inr (.inl ((J 40 0 (((I 24 0 28) - 2).toNatClampNeg)) * (J 40 0 ((((I 24 0 28) - 2) + 1).toNatClampNeg)))), .inl t, .inr (.inr (.inr (.inr (24, 0))))], (fm_u I 24 0 28 ((I 24 0 28) - 2), J, G, fm_P pa pb))) rfl ?_
                  have K := fmD_push_c (d := d) hl (by omega) (fm_u I 24 0 28 ((I 24 0 28) - 2)) J G pa pb t ((J 40 0 (((I 24 0 28) - 2).toNatClampNeg)) * (J 40 0 ((((I 24 0 28) - 2) + 1).toNatClampNeg))) FP.dconst0 hp
                  generalize er36 : fmD_push_f (fm_u I 24 0 28 ((I 24 0 28) - 2)) J G t ((J 40 0 (((I 24 0 28) - 2).toNatClampNeg)) * (J 40 0 ((((I 24 0 28) - 2) + 1).toNatClampNeg))) FP.dconst0 = r36 at he
                  have he := he.trans (fm_letE _ _)
                  rw [er36] at K
                  refine fm_cV0 O fmD_push_o (i := 0) (as := [.inl t, .inr (.inl ((J 40 0 (((I 24 0 28) - 2).toNatClampNeg)) * (J 40 0 ((((I 24 0 28) - 2) + 1).toNatClampNeg)))), .inr (.inr (.inr (.inl FP.dconst0)))]) (rest := []) (v := none) rfl fk_6_172 rfl (by decide) fn_D_push (Nat.le_of_ble_eq_true rfl) (K) ?_
                  refine fm_gr O 1 (C' := (294, [(11, .inl (((J 40 0 ((((I 24 0 28) - 2) + 1).toNatClampNeg)).toInt32) &&& 63)), (9, .inr (.inr (.inr (.inl (G 41 0 ((((I 24 0 28) - 2) + 1).toNatClampNeg)))))), (7, .inr (.inr (.inr (.inl (G 41 0 (((I 24 0 28) - 2).toNatClampNeg)))))), (5, .inr (.inl (J 40 0 ((((I 24 0 28) - 2) + 1).toNatClampNeg)))), (3, .inr (.inl (J 40 0 (((I 24 0 28) - 2).toNatClampNeg)))), (0, .inr (.inr (.inr (.inr (24, 0))))), (1, .inl o), (2, .inl t)], [], (r36.1, r36.2.1, r36.2.2, fm_P pa pb))) rfl ?_
                  exact fm_gRe O rfl trivial (by first | (rw [he]; done) | (rw [he]; rfl) | rfl) (by first | (rw [he]; done) | (rw [he]; rfl) | rfl)
                · have he := he.trans (if_neg h8)
                  have hp := hp.2 h8
                  by_cases h9 : o = 14
                  · have he := he.trans (if_pos h9)
                    have hp := hp.1 h9
                    refine fm_gs O 14 rfl (show o.toInt = 14 from by rw [h9]; decide) ?_
                    refine fm_gr O 4 (C' := (208, [(11, .inl (((J 40 0 ((((I 24 0 28) - 2) + 1).toNatClampNeg)).toInt32) &&& 63)), (9, .inr (.inr (.inr (.inl (G 41 0 ((((I 24 0 28) - 2) + 1).toNatClampNeg)))))), (7, .inr (.inr (.inr (.inl (G 41 0 (((I 24 0 28) - 2).toNatClampNeg)))))), (5, .inr (.inl (J 40 0 ((((I 24 0 28) - 2) + 1).toNatClampNeg)))), (3, .inr (.inl (J 40 0 (((I 24 0 28) - 2).toNatClampNeg)))), (0, .inr (.inr (.inr (.inr (24, 0))))), (1, .inl o), (2, .inl t)], [.inr (.inl (J 40 0 ((((I 24 0 28) - 2) + 1).toNatClampNeg))), .inr (.inl (J 40 0 (((I 24 0 28) - 2).toNatClampNeg))), .inl t, .inr (.inr (.inr (.inr (24, 0))))], (fm_u I 24 0 28 ((I 24 0 28) - 2), J, G, fm_P pa pb))) rfl ?_
                    refine fm_gg O rfl hp.1 ?_
                    have hp := hp.2
                    refine fm_gr O 1 (C' := (210, [(11, .inl (((J 40 0 ((((I 24 0 28) - 2) + 1).toNatClampNeg)).toInt32) &&& 63)), (9, .inr (.inr (.inr (.inl (G 41 0 ((((I 24 0 28) - 2) + 1).toNatClampNeg)))))), (7, .inr (.inr (.inr (.inl (G 41 0 (((I 24 0 28) - 2).toNatClampNeg)))))), (5, .inr (.inl (J 40 0 ((((I 24 0 28) - 2) + 1).toNatClampNeg)))), (3, .inr (.inl (J 40 0 (((I 24 0 28) - 2).toNatClampNeg)))), (0, .inr (.inr (.inr (.inr (24, 0))))), (1, .inl o), (2, .inl t)], [.inr (.inr (.inr (.inl FP.dconst0))), .inr (.inl ((J 40 0 (((I 24 0 28) - 2).toNatClampNeg)) / (J 40 0 ((((I 24 0 28) - 2) + 1).toNatClampNeg)))), .inl t, .inr (.inr (.inr (.inr (24, 0))))], (fm_u I 24 0 28 ((I 24 0 28) - 2), J, G, fm_P pa pb))) rfl ?_
                    have K := fmD_push_c (d := d) hl (by omega) (fm_u I 24 0 28 ((I 24 0 28) - 2)) J G pa pb t ((J 40 0 (((I 24 0 28) - 2).toNatClampNeg)) / (J 40 0 ((((I 24 0 28) - 2) + 1).toNatClampNeg))) FP.dconst0 hp
                    generalize er37 : fmD_push_f (fm_u I 24 0 28 ((I 24 0 28) - 2)) J G t ((J 40 0 (((I 24 0 28) - 2).toNatClampNeg)) / (J 40 0 ((((I 24 0 28) - 2) + 1).toNatClampNeg))) FP.dconst0 = r37 at he
                    have he := he.trans (fm_letE _ _)
                    rw [er37] at K
                    refine fm_cV0 O fmD_push_o (i := 0) (as := [.inl t, .inr (.inl ((J 40 0 (((I 24 0 28) - 2).toNatClampNeg)) / (J 40 0 ((((I 24 0 28) - 2) + 1).toNatClampNeg)))), .inr (.inr (.inr (.inl FP.dconst0)))]) (rest := []) (v := none) rfl fk_6_172 rfl (by decide) fn_D_push (Nat.le_of_ble_eq_true rfl) (K) ?_
                    refine fm_gr O 1 (C' := (294, [(11, .inl (((J 40 0 ((((I 24 0 28) - 2) + 1).toNatClampNeg)).toInt32) &&& 63)), (9, .inr (.inr (.inr (.inl (G 41 0 ((((I 24 0 28) - 2) + 1).toNatClampNeg)))))), (7, .inr (.inr (.inr (.inl (G 41 0 (((I 24 0 28) - 2).toNatClampNeg)))))), (5, .inr (.inl (J 40 0 ((((I 24 0 28) - 2) + 1).toNatClampNeg)))), (3, .inr (.inl (J 40 0 (((I 24 0 28) - 2).toNatClampNeg)))), (0, .inr (.inr (.inr (.inr (24, 0))))), (1, .inl o), (2, .inl t)], [], (r37.1, r37.2.1, r37.2.2, fm_P pa pb))) rfl ?_
                    exact fm_gRe O rfl trivial (by first | (rw [he]; done) | (rw [he]; rfl) | rfl) (by first | (rw [he]; done) | (rw [he]; rfl) | rfl)
                  · have he := he.trans (if_neg h9)
                    have hp := hp.2 h9
                    by_cases h10 : o = 15
                    · have he := he.trans (if_pos h10)
                      have hp := hp.1 h10
                      refine fm_gs O 15 rfl (show o.toInt = 15 from by rw [h10]; decide) ?_
                      refine fm_gr O 4 (C' := (221, [(11, .inl (((J 40 0 ((((I 24 0 28) - 2) + 1).toNatClampNeg)).toInt32) &&& 63)), (9, .inr (.inr (.inr (.inl (G 41 0 ((((I 24 0 28) - 2) + 1).toNatClampNeg)))))), (7, .inr (.inr (.inr (.inl (G 41 0 (((I 24 0 28) - 2).toNatClampNeg)))))), (5, .inr (.inl (J 40 0 ((((I 24 0 28) - 2) + 1).toNatClampNeg)))), (3, .inr (.inl (J 40 0 (((I 24 0 28) - 2).toNatClampNeg)))), (0, .inr (.inr (.inr (.inr (24, 0))))), (1, .inl o), (2, .inl t)], [.inr (.inl (J 40 0 ((((I 24 0 28) - 2) + 1).toNatClampNeg))), .inr (.inl (J 40 0 (((I 24 0 28) - 2).toNatClampNeg))), .inl t, .inr (.inr (.inr (.inr (24, 0))))], (fm_u I 24 0 28 ((I 24 0 28) - 2), J, G, fm_P pa pb))) rfl ?_
                      refine fm_gg O rfl hp.1 ?_
                      have hp := hp.2
                      refine fm_gr O 1 (C' := (223, [(11, .inl (((J 40 0 ((((I 24 0 28) - 2) + 1).toNatClampNeg)).toInt32) &&& 63)), (9, .inr (.inr (.inr (.inl (G 41 0 ((((I 24 0 28) - 2) + 1).toNatClampNeg)))))), (7, .inr (.inr (.inr (.inl (G 41 0 (((I 24 0 28) - 2).toNatClampNeg)))))), (5, .inr (.inl (J 40 0 ((((I 24 0 28) - 2) + 1).toNatClampNeg)))), (3, .inr (.inl (J 40 0 (((I 24 0 28) - 2).toNatClampNeg)))), (0, .inr (.inr (.inr (.inr (24, 0))))), (1, .inl o), (2, .inl t)], [.inr (.inr (.inr (.inl FP.dconst0))), .inr (.inl ((J 40 0 (((I 24 0 28) - 2).toNatClampNeg)) - (J 40 0 (((I 24 0 28) - 2).toNatClampNeg)) / (J 40 0 ((((I 24 0 28) - 2) + 1).toNatClampNeg)) * (J 40 0 ((((I 24 0 28) - 2) + 1).toNatClampNeg)))), .inl t, .inr (.inr (.inr (.inr (24, 0))))], (fm_u I 24 0 28 ((I 24 0 28) - 2), J, G, fm_P pa pb))) rfl ?_
                      have K := fmD_push_c (d := d) hl (by omega) (fm_u I 24 0 28 ((I 24 0 28) - 2)) J G pa pb t ((J 40 0 (((I 24 0 28) - 2).toNatClampNeg)) - (J 40 0 (((I 24 0 28) - 2).toNatClampNeg)) / (J 40 0 ((((I 24 0 28) - 2) + 1).toNatClampNeg)) * (J 40 0 ((((I 24 0 28) - 2) + 1).toNatClampNeg))) FP.dconst0 hp
                      generalize er38 : fmD_push_f (fm_u I 24 0 28 ((I 24 0 28) - 2)) J G t ((J 40 0 (((I 24 0 28) - 2).toNatClampNeg)) - (J 40 0 (((I 24 0 28) - 2).toNatClampNeg)) / (J 40 0 ((((I 24 0 28) - 2) + 1).toNatClampNeg)) * (J 40 0 ((((I 24 0 28) - 2) + 1).toNatClampNeg))) FP.dconst0 = r38 at he
                      have he := he.trans (fm_letE _ _)
                      rw [er38] at K
                      refine fm_cV0 O fmD_push_o (i := 0) (as := [.inl t, .inr (.inl ((J 40 0 (((I 24 0 28) - 2).toNatClampNeg)) - (J 40 0 (((I 24 0 28) - 2).toNatClampNeg)) / (J 40 0 ((((I 24 0 28) - 2) + 1).toNatClampNeg)) * (J 40 0 ((((I 24 0 28) - 2) + 1).toNatClampNeg)))), .inr (.inr (.inr (.inl FP.dconst0)))]) (rest := []) (v := none) rfl fk_6_172 rfl (by decide) fn_D_push (Nat.le_of_ble_eq_true rfl) (K) ?_
                      refine fm_gr O 1 (C' := (294, [(11, .inl (((J 40 0 ((((I 24 0 28) - 2) + 1).toNatClampNeg)).toInt32) &&& 63)), (9, .inr (.inr (.inr (.inl (G 41 0 ((((I 24 0 28) - 2) + 1).toNatClampNeg)))))), (7, .inr (.inr (.inr (.inl (G 41 0 (((I 24 0 28) - 2).toNatClampNeg)))))), (5, .inr (.inl (J 40 0 ((((I 24 0 28) - 2) + 1).toNatClampNeg)))), (3, .inr (.inl (J 40 0 (((I 24 0 28) - 2).toNatClampNeg)))), (0, .inr (.inr (.inr (.inr (24, 0))))), (1, .inl o), (2, .inl t)], [], (r38.1, r38.2.1, r38.2.2, fm_P pa pb))) rfl ?_
                      exact fm_gRe O rfl trivial (by first | (rw [he]; done) | (rw [he]; rfl) | rfl) (by first | (rw [he]; done) | (rw [he]; rfl) | rfl)
                    · have he := he.trans (if_neg h10)
                      have hp := hp.2 h10
                      by_cases h11 : o = 16
                      · have he := he.trans (if_pos h11)
                        have hp := hp.1 h11
                        refine fm_gs O 16 rfl (show o.toInt = 16 from by rw [h11]; decide) ?_
                        refine fm_gr O 6 (C' := (236, [(11, .inl (((J 40 0 ((((I 24 0 28) - 2) + 1).toNatClampNeg)).toInt32) &&& 63)), (9, .inr (.inr (.inr (.inl (G 41 0 ((((I 24 0 28) - 2) + 1).toNatClampNeg)))))), (7, .inr (.inr (.inr (.inl (G 41 0 (((I 24 0 28) - 2).toNatClampNeg)))))), (5, .inr (.inl (J 40 0 ((((I 24 0 28) - 2) + 1).toNatClampNeg)))), (3, .inr (.inl (J 40 0 (((I 24 0 28) - 2).toNatClampNeg)))), (0, .inr (.inr (.inr (.inr (24, 0))))), (1, .inl o), (2, .inl t)], [.inr (.inr (.inr (.inl FP.dconst0))), .inr (.inl ((J 40 0 (((I 24 0 28) - 2).toNatClampNeg)) &&& (J 40 0 ((((I 24 0 28) - 2) + 1).toNatClampNeg)))), .inl t, .inr (.inr (.inr (.inr (24, 0))))], (fm_u I 24 0 28 ((I 24 0 28) - 2), J, G, fm_P pa pb))) rfl ?_
                        have K := fmD_push_c (d := d) hl (by omega) (fm_u I 24 0 28 ((I 24 0 28) - 2)) J G pa pb t ((J 40 0 (((I 24 0 28) - 2).toNatClampNeg)) &&& (J 40 0 ((((I 24 0 28) - 2) + 1).toNatClampNeg))) FP.dconst0 hp
                        generalize er39 : fmD_push_f (fm_u I 24 0 28 ((I 24 0 28) - 2)) J G t ((J 40 0 (((I 24 0 28) - 2).toNatClampNeg)) &&& (J 40 0 ((((I 24 0 28) - 2) + 1).toNatClampNeg))) FP.dconst0 = r39 at he
                        have he := he.trans (fm_letE _ _)
                        rw [er39] at K
                        refine fm_cV0 O fmD_push_o (i := 0) (as := [.inl t, .inr (.inl ((J 40 0 (((I 24 0 28) - 2).toNatClampNeg)) &&& (J 40 0 ((((I 24 0 28) - 2) + 1).toNatClampNeg)))), .inr (.inr (.inr (.inl FP.dconst0)))]) (rest := []) (v := none) rfl fk_6_172 rfl (by decide) fn_D_push (Nat.le_of_ble_eq_true rfl) (K) ?_
                        refine fm_gr O 1 (C' := (294, [(11, .inl (((J 40 0 ((((I 24 0 28) - 2) + 1).toNatClampNeg)).toInt32) &&& 63)), (9, .inr (.inr (.inr (.inl (G 41 0 ((((I 24 0 28) - 2) + 1).toNatClampNeg)))))), (7, .inr (.inr (.inr (.inl (G 41 0 (((I 24 0 28) - 2).toNatClampNeg)))))), (5, .inr (.inl (J 40 0 ((((I 24 0 28) - 2) + 1).toNatClampNeg)))), (3, .inr (.inl (J 40 0 (((I 24 0 28) - 2).toNatClampNeg)))), (0, .inr (.inr (.inr (.inr (24, 0))))), (1, .inl o), (2, .inl t)], [], (r39.1, r39.2.1, r39.2.2, fm_P pa pb))) rfl ?_
                        exact fm_gRe O rfl trivial (by first | (rw [he]; done) | (rw [he]; rfl) | rfl) (by first | (rw [he]; done) | (rw [he]; rfl) | rfl)
                      · have he := he.trans (if_neg h11)
                        have hp := hp.2 h11
                        by_cases h12 : o = 17
                        · have he := he.trans (if_pos h12)
                          have hp := hp.1 h12
                          refine fm_gs O 17 rfl (show o.toInt = 17 from by rw [h12]; decide) ?_
                          refine fm_gr O 6 (C' := (249, [(11, .inl (((J 40 0 ((((I 24 0 28) - 2) + 1).toNatClampNeg)).toInt32) &&& 63)), (9, .inr (.inr (.inr (.inl (G 41 0 ((((I 24 0 28) - 2) + 1).toNatClampNeg)))))), (7, .inr (.inr (.inr (.inl (G 41 0 (((I 24 0 28) - 2).toNatClampNeg)))))), (5, .inr (.inl (J 40 0 ((((I 24 0 28) - 2) + 1).toNatClampNeg)))), (3, .inr (.inl (J 40 0 (((I 24 0 28) - 2).toNatClampNeg)))), (0, .inr (.inr (.inr (.inr (24, 0))))), (1, .inl o), (2, .inl t)], [.inr (.inr (.inr (.inl FP.dconst0))), .inr (.inl ((J 40 0 (((I 24 0 28) - 2).toNatClampNeg)) <<< ((((J 40 0 ((((I 24 0 28) - 2) + 1).toNatClampNeg)).toInt32) &&& 63).toInt64 &&& 63))), .inl t, .inr (.inr (.inr (.inr (24, 0))))], (fm_u I 24 0 28 ((I 24 0 28) - 2), J, G, fm_P pa pb))) rfl ?_
                          have K := fmD_push_c (d := d) hl (by omega) (fm_u I 24 0 28 ((I 24 0 28) - 2)) J G pa pb t ((J 40 0 (((I 24 0 28) - 2).toNatClampNeg)) <<< ((((J 40 0 ((((I 24 0 28) - 2) + 1).toNatClampNeg)).toInt32) &&& 63).toInt64 &&& 63)) FP.dconst0 hp
                          generalize er40 : fmD_push_f (fm_u I 24 0 28 ((I 24 0 28) - 2)) J G t ((J 40 0 (((I 24 0 28) - 2).toNatClampNeg)) <<< ((((J 40 0 ((((I 24 0 28) - 2) + 1).toNatClampNeg)).toInt32) &&& 63).toInt64 &&& 63)) FP.dconst0 = r40 at he
                          have he := he.trans (fm_letE _ _)
                          rw [er40] at K
                          refine fm_cV0 O fmD_push_o (i := 0) (as := [.inl t, .inr (.inl ((J 40 0 (((I 24 0 28) - 2).toNatClampNeg)) <<< ((((J 40 0 ((((I 24 0 28) - 2) + 1).toNatClampNeg)).toInt32) &&& 63).toInt64 &&& 63))), .inr (.inr (.inr (.inl FP.dconst0)))]) (rest := []) (v := none) rfl fk_6_172 rfl (by decide) fn_D_push (Nat.le_of_ble_eq_true rfl) (K) ?_
                          refine fm_gr O 1 (C' := (294, [(11, .inl (((J 40 0 ((((I 24 0 28) - 2) + 1).toNatClampNeg)).toInt32) &&& 63)), (9, .inr (.inr (.inr (.inl (G 41 0 ((((I 24 0 28) - 2) + 1).toNatClampNeg)))))), (7, .inr (.inr (.inr (.inl (G 41 0 (((I 24 0 28) - 2).toNatClampNeg)))))), (5, .inr (.inl (J 40 0 ((((I 24 0 28) - 2) + 1).toNatClampNeg)))), (3, .inr (.inl (J 40 0 (((I 24 0 28) - 2).toNatClampNeg)))), (0, .inr (.inr (.inr (.inr (24, 0))))), (1, .inl o), (2, .inl t)], [], (r40.1, r40.2.1, r40.2.2, fm_P pa pb))) rfl ?_
                          exact fm_gRe O rfl trivial (by first | (rw [he]; done) | (rw [he]; rfl) | rfl) (by first | (rw [he]; done) | (rw [he]; rfl) | rfl)
                        · have he := he.trans (if_neg h12)
                          have hp := hp.2 h12
                          by_cases h13 : o = 18
                          · have he := he.trans (if_pos h13)
                            have hp := hp.1 h13
                            refine fm_gs O 18 rfl (show o.toInt = 18 from by rw [h13]; decide) ?_
                            refine fm_gr O 5 (C' := (261, [(11, .inl (((J 40 0 ((((I 24 0 28) - 2) + 1).toNatClampNeg)).toInt32) &&& 63)), (9, .inr (.inr (.inr (.inl (G 41 0 ((((I 24 0 28) - 2) + 1).toNatClampNeg)))))), (7, .inr (.inr (.inr (.inl (G 41 0 (((I 24 0 28) - 2).toNatClampNeg)))))), (5, .inr (.inl (J 40 0 ((((I 24 0 28) - 2) + 1).toNatClampNeg)))), (3, .inr (.inl (J 40 0 (((I 24 0 28) - 2).toNatClampNeg)))), (0, .inr (.inr (.inr (.inr (24, 0))))), (1, .inl o), (2, .inl t)], [.inl (lg_cmp (J 40 0 (((I 24 0 28) - 2).toNatClampNeg)) (J 40 0 ((((I 24 0 28) - 2) + 1).toNatClampNeg))), .inl 0, .inr (.inr (.inr (.inr (24, 0))))], (fm_u I 24 0 28 ((I 24 0 28) - 2), J, G, fm_P pa pb))) rfl ?_
                            refine fm_gb O rfl (fun h => ?_) (fun h => ?_)
                            · have h14 : 0 ≤ (lg_cmp (J 40 0 (((I 24 0 28) - 2).toNatClampNeg)) (J 40 0 ((((I 24 0 28) - 2) + 1).toNatClampNeg))) := h
                              have he := he.trans (if_pos h14)
                              have hp := hp.1 h14
                              refine fm_gr O 2 (C' := (270, [(11, .inl (((J 40 0 ((((I 24 0 28) - 2) + 1).toNatClampNeg)).toInt32) &&& 63)), (9, .inr (.inr (.inr (.inl (G 41 0 ((((I 24 0 28) - 2) + 1).toNatClampNeg)))))), (7, .inr (.inr (.inr (.inl (G 41 0 (((I 24 0 28) - 2).toNatClampNeg)))))), (5, .inr (.inl (J 40 0 ((((I 24 0 28) - 2) + 1).toNatClampNeg)))), (3, .inr (.inl (J 40 0 (((I 24 0 28) - 2).toNatClampNeg)))), (0, .inr (.inr (.inr (.inr (24, 0))))), (1, .inl o), (2, .inl t)], [.inr (.inr (.inr (.inl FP.dconst0))), .inr (.inl 0), .inl 0, .inr (.inr (.inr (.inr (24, 0))))], (fm_u I 24 0 28 ((I 24 0 28) - 2), J, G, fm_P pa pb))) rfl ?_
                              have K := fmD_push_c (d := d) hl (by omega) (fm_u I 24 0 28 ((I 24 0 28) - 2)) J G pa pb 0 0 FP.dconst0 hp
                              generalize er41 : fmD_push_f (fm_u I 24 0 28 ((I 24 0 28) - 2)) J G 0 0 FP.dconst0 = r41 at he
                              have he := he.trans (fm_letE _ _)
                              rw [er41] at K
                              refine fm_cV0 O fmD_push_o (i := 0) (as := [.inl 0, .inr (.inl 0), .inr (.inr (.inr (.inl FP.dconst0)))]) (rest := []) (v := none) rfl fk_6_172 rfl (by decide) fn_D_push (Nat.le_of_ble_eq_true rfl) (K) ?_
                              refine fm_gr O 1 (C' := (294, [(11, .inl (((J 40 0 ((((I 24 0 28) - 2) + 1).toNatClampNeg)).toInt32) &&& 63)), (9, .inr (.inr (.inr (.inl (G 41 0 ((((I 24 0 28) - 2) + 1).toNatClampNeg)))))), (7, .inr (.inr (.inr (.inl (G 41 0 (((I 24 0 28) - 2).toNatClampNeg)))))), (5, .inr (.inl (J 40 0 ((((I 24 0 28) - 2) + 1).toNatClampNeg)))), (3, .inr (.inl (J 40 0 (((I 24 0 28) - 2).toNatClampNeg)))), (0, .inr (.inr (.inr (.inr (24, 0))))), (1, .inl o), (2, .inl t)], [], (r41.1, r41.2.1, r41.2.2, fm_P pa pb))) rfl ?_
                              exact fm_gRe O rfl trivial (by first | (rw [he]; done) | (rw [he]; rfl) | rfl) (by first | (rw [he]; done) | (rw [he]; rfl) | rfl)
                            · have h14 : ¬ 0 ≤ (lg_cmp (J 40 0 (((I 24 0 28) - 2).toNatClampNeg)) (J 40 0 ((((I 24 0 28) - 2) + 1).toNatClampNeg))) := h
                              have he := he.trans (if_neg h14)
                              have hp := hp.2 h14
                              refine fm_gr O 3 (C' := (270, [(11, .inl (((J 40 0 ((((I 24 0 28) - 2) + 1).toNatClampNeg)).toInt32) &&& 63)), (9, .inr (.inr (.inr (.inl (G 41 0 ((((I 24 0 28) - 2) + 1).toNatClampNeg)))))), (7, .inr (.inr (.inr (.inl (G 41 0 (((I 24 0 28) - 2).toNatClampNeg)))))), (5, .inr (.inl (J 40 0 ((((I 24 0 28) - 2) + 1).toNatClampNeg)))), (3, .inr (.inl (J 40 0 (((I 24 0 28) - 2).toNatClampNeg)))), (0, .inr (.inr (.inr (.inr (24, 0))))), (1, .inl o), (2, .inl t)], [.inr (.inr (.inr (.inl FP.dconst0))), .inr (.inl 1), .inl 0, .inr (.inr (.inr (.inr (24, 0))))], (fm_u I 24 0 28 ((I 24 0 28) - 2), J, G, fm_P pa pb))) rfl ?_
                              have K := fmD_push_c (d := d) hl (by omega) (fm_u I 24 0 28 ((I 24 0 28) - 2)) J G pa pb 0 1 FP.dconst0 hp
                              generalize er42 : fmD_push_f (fm_u I 24 0 28 ((I 24 0 28) - 2)) J G 0 1 FP.dconst0 = r42 at he
                              have he := he.trans (fm_letE _ _)
                              rw [er42] at K
                              refine fm_cV0 O fmD_push_o (i := 0) (as := [.inl 0, .inr (.inl 1), .inr (.inr (.inr (.inl FP.dconst0)))]) (rest := []) (v := none) rfl fk_6_172 rfl (by decide) fn_D_push (Nat.le_of_ble_eq_true rfl) (K) ?_
                              refine fm_gr O 1 (C' := (294, [(11, .inl (((J 40 0 ((((I 24 0 28) - 2) + 1).toNatClampNeg)).toInt32) &&& 63)), (9, .inr (.inr (.inr (.inl (G 41 0 ((((I 24 0 28) - 2) + 1).toNatClampNeg)))))), (7, .inr (.inr (.inr (.inl (G 41 0 (((I 24 0 28) - 2).toNatClampNeg)))))), (5, .inr (.inl (J 40 0 ((((I 24 0 28) - 2) + 1).toNatClampNeg)))), (3, .inr (.inl (J 40 0 (((I 24 0 28) - 2).toNatClampNeg)))), (0, .inr (.inr (.inr (.inr (24, 0))))), (1, .inl o), (2, .inl t)], [], (r42.1, r42.2.1, r42.2.2, fm_P pa pb))) rfl ?_
                              exact fm_gRe O rfl trivial (by first | (rw [he]; done) | (rw [he]; rfl) | rfl) (by first | (rw [he]; done) | (rw [he]; rfl) | rfl)
                          · have he := he.trans (if_neg h13)
                            have hp := hp.2 h13
                            refine fm_gt O rfl (by
                                show o.toInt < 11 ∨ 18 < o.toInt
                                have := lv_neT h6 (show (11 : Int32).toInt = 11 from by decide)
                                have := lv_neT h7 (show (12 : Int32).toInt = 12 from by decide)
                                have := lv_neT h8 (show (13 : Int32).toInt = 13 from by decide)
                                have := lv_neT h9 (show (14 : Int32).toInt = 14 from by decide)
                                have := lv_neT h10 (show (15 : Int32).toInt = 15 from by decide)
                                have := lv_neT h11 (show (16 : Int32).toInt = 16 from by decide)
                                have := lv_neT h12 (show (17 : Int32).toInt = 17 from by decide)
                                have := lv_neT h13 (show (18 : Int32).toInt = 18 from by decide)
                                omega) ?_
                            refine fm_gr O 5 (C' := (282, [(11, .inl (((J 40 0 ((((I 24 0 28) - 2) + 1).toNatClampNeg)).toInt32) &&& 63)), (9, .inr (.inr (.inr (.inl (G 41 0 ((((I 24 0 28) - 2) + 1).toNatClampNeg)))))), (7, .inr (.inr (.inr (.inl (G 41 0 (((I 24 0 28) - 2).toNatClampNeg)))))), (5, .inr (.inl (J 40 0 ((((I 24 0 28) - 2) + 1).toNatClampNeg)))), (3, .inr (.inl (J 40 0 (((I 24 0 28) - 2).toNatClampNeg)))), (0, .inr (.inr (.inr (.inr (24, 0))))), (1, .inl o), (2, .inl t)], [.inl (lg_cmp (J 40 0 (((I 24 0 28) - 2).toNatClampNeg)) (J 40 0 ((((I 24 0 28) - 2) + 1).toNatClampNeg))), .inl 0, .inr (.inr (.inr (.inr (24, 0))))], (fm_u I 24 0 28 ((I 24 0 28) - 2), J, G, fm_P pa pb))) rfl ?_
                            refine fm_gb O rfl (fun h => ?_) (fun h => ?_)
                            · have h14 : (lg_cmp (J 40 0 (((I 24 0 28) - 2).toNatClampNeg)) (J 40 0 ((((I 24 0 28) - 2) + 1).toNatClampNeg))) = 0 := h
                              have he := he.trans (if_pos h14)
                              have hp := hp.1 h14
                              refine fm_gr O 3 (C' := (291, [(11, .inl (((J 40 0 ((((I 24 0 28) - 2) + 1).toNatClampNeg)).toInt32) &&& 63)), (9, .inr (.inr (.inr (.inl (G 41 0 ((((I 24 0 28) - 2) + 1).toNatClampNeg)))))), (7, .inr (.inr (.inr (.inl (G 41 0 (((I 24 0 28) - 2).toNatClampNeg)))))), (5, .inr (.inl (J 40 0 ((((I 24 0 28) - 2) + 1).toNatClampNeg)))), (3, .inr (.inl (J 40 0 (((I 24 0 28) - 2).toNatClampNeg)))), (0, .inr (.inr (.inr (.inr (24, 0))))), (1, .inl o), (2, .inl t)], [.inr (.inr (.inr (.inl FP.dconst0))), .inr (.inl 1), .inl 0, .inr (.inr (.inr (.inr (24, 0))))], (fm_u I 24 0 28 ((I 24 0 28) - 2), J, G, fm_P pa pb))) rfl ?_
                              have K := fmD_push_c (d := d) hl (by omega) (fm_u I 24 0 28 ((I 24 0 28) - 2)) J G pa pb 0 1 FP.dconst0 hp
                              generalize er43 : fmD_push_f (fm_u I 24 0 28 ((I 24 0 28) - 2)) J G 0 1 FP.dconst0 = r43 at he
                              have he := he.trans (fm_letE _ _)
                              rw [er43] at K
                              refine fm_cV0 O fmD_push_o (i := 0) (as := [.inl 0, .inr (.inl 1), .inr (.inr (.inr (.inl FP.dconst0)))]) (rest := []) (v := none) rfl fk_6_172 rfl (by decide) fn_D_push (Nat.le_of_ble_eq_true rfl) (K) ?_
                              exact fm_gRe O rfl trivial (by first | (rw [he]; done) | (rw [he]; rfl) | rfl) (by first | (rw [he]; done) | (rw [he]; rfl) | rfl)
                            · have h14 : ¬ (lg_cmp (J 40 0 (((I 24 0 28) - 2).toNatClampNeg)) (J 40 0 ((((I 24 0 28) - 2) + 1).toNatClampNeg))) = 0 := h
                              have he := he.trans (if_neg h14)
                              have hp := hp.2 h14
                              refine fm_gr O 2 (C' := (291, [(11, .inl (((J 40 0 ((((I 24 0 28) - 2) + 1).toNatClampNeg)).toInt32) &&& 63)), (9, .inr (.inr (.inr (.inl (G 41 0 ((((I 24 0 28) - 2) + 1).toNatClampNeg)))))), (7, .inr (.inr (.inr (.inl (G 41 0 (((I 24 0 28) - 2).toNatClampNeg)))))), (5, .inr (.inl (J 40 0 ((((I 24 0 28) - 2) + 1).toNatClampNeg)))), (3, .inr (.inl (J 40 0 (((I 24 0 28) - 2).toNatClampNeg)))), (0, .inr (.inr (.inr (.inr (24, 0))))), (1, .inl o), (2, .inl t)], [.inr (.inr (.inr (.inl FP.dconst0))), .inr (.inl 0), .inl 0, .inr (.inr (.inr (.inr (24, 0))))], (fm_u I 24 0 28 ((I 24 0 28) - 2), J, G, fm_P pa pb))) rfl ?_
                              have K := fmD_push_c (d := d) hl (by omega) (fm_u I 24 0 28 ((I 24 0 28) - 2)) J G pa pb 0 0 FP.dconst0 hp
                              generalize er44 : fmD_push_f (fm_u I 24 0 28 ((I 24 0 28) - 2)) J G 0 0 FP.dconst0 = r44 at he
                              have he := he.trans (fm_letE _ _)
                              rw [er44] at K
                              refine fm_cV0 O fmD_push_o (i := 0) (as := [.inl 0, .inr (.inl 0), .inr (.inr (.inr (.inl FP.dconst0)))]) (rest := []) (v := none) rfl fk_6_172 rfl (by decide) fn_D_push (Nat.le_of_ble_eq_true rfl) (K) ?_
                              exact fm_gRe O rfl trivial (by first | (rw [he]; done) | (rw [he]; rfl) | rfl) (by first | (rw [he]; done) | (rw [he]; rfl) | rfl)
      · have h3 : ¬ o = 15 := h
        have he := he.trans (if_neg h3)
        have hp := hp.2 h3
        refine fm_gr O 3 (C' := (102, [(9, .inr (.inr (.inr (.inl (G 41 0 ((((I 24 0 28) - 2) + 1).toNatClampNeg)))))), (7, .inr (.inr (.inr (.inl (G 41 0 (((I 24 0 28) - 2).toNatClampNeg)))))), (5, .inr (.inl (J 40 0 ((((I 24 0 28) - 2) + 1).toNatClampNeg)))), (3, .inr (.inl (J 40 0 (((I 24 0 28) - 2).toNatClampNeg)))), (0, .inr (.inr (.inr (.inr (24, 0))))), (1, .inl o), (2, .inl t)], [.inl t, .inl ((J 40 0 ((((I 24 0 28) - 2) + 1).toNatClampNeg)).toInt32)], (fm_u I 24 0 28 ((I 24 0 28) - 2), J, G, fm_P pa pb))) rfl ?_
        refine fm_gb O rfl (fun h => ?_) (fun h => ?_)
        · have h4 : t = 0 := h
          have he := he.trans (if_pos h4)
          have hp := hp.1 h4
          refine fm_gr O 5 (C' := (116, [(11, .inl (((J 40 0 ((((I 24 0 28) - 2) + 1).toNatClampNeg)).toInt32) &&& 31)), (9, .inr (.inr (.inr (.inl (G 41 0 ((((I 24 0 28) - 2) + 1).toNatClampNeg)))))), (7, .inr (.inr (.inr (.inl (G 41 0 (((I 24 0 28) - 2).toNatClampNeg)))))), (5, .inr (.inl (J 40 0 ((((I 24 0 28) - 2) + 1).toNatClampNeg)))), (3, .inr (.inl (J 40 0 (((I 24 0 28) - 2).toNatClampNeg)))), (0, .inr (.inr (.inr (.inr (24, 0))))), (1, .inl o), (2, .inl t)], [.inl o], (fm_u I 24 0 28 ((I 24 0 28) - 2), J, G, fm_P pa pb))) rfl ?_
          by_cases h5 : o = 11
          · have he := he.trans (if_pos h5)
            have hp := hp.1 h5
            refine fm_gs O 11 rfl (show o.toInt = 11 from by rw [h5]; decide) ?_
            refine fm_gr O 6 (C' := (171, [(11, .inl (((J 40 0 ((((I 24 0 28) - 2) + 1).toNatClampNeg)).toInt32) &&& 31)), (9, .inr (.inr (.inr (.inl (G 41 0 ((((I 24 0 28) - 2) + 1).toNatClampNeg)))))), (7, .inr (.inr (.inr (.inl (G 41 0 (((I 24 0 28) - 2).toNatClampNeg)))))), (5, .inr (.inl (J 40 0 ((((I 24 0 28) - 2) + 1).toNatClampNeg)))), (3, .inr (.inl (J 40 0 (((I 24 0 28) - 2).toNatClampNeg)))), (0, .inr (.inr (.inr (.inr (24, 0))))), (1, .inl o), (2, .inl t)], [.inr (.inr (.inr (.inl FP.dconst0))), .inr (.inl ((J 40 0 (((I 24 0 28) - 2).toNatClampNeg)) + (J 40 0 ((((I 24 0 28) - 2) + 1).toNatClampNeg)))), .inl t, .inr (.inr (.inr (.inr (24, 0))))], (fm_u I 24 0 28 ((I 24 0 28) - 2), J, G, fm_P pa pb))) rfl ?_
            have K := fmD_push_c (d := d) hl (by omega) (fm_u I 24 0 28 ((I 24 0 28) - 2)) J G pa pb t ((J 40 0 (((I 24 0 28) - 2).toNatClampNeg)) + (J 40 0 ((((I 24 0 28) - 2) + 1).toNatClampNeg))) FP.dconst0 hp
            generalize er45 : fmD_push_f (fm_u I 24 0 28 ((I 24 0 28) - 2)) J G t ((J 40 0 (((I 24 0 28) - 2).toNatClampNeg)) + (J 40 0 ((((I 24 0 28) - 2) + 1).toNatClampNeg))) FP.dconst0 = r45 at he
            have he := he.trans (fm_letE _ _)
            rw [er45] at K
            refine fm_cV0 O fmD_push_o (i := 0) (as := [.inl t, .inr (.inl ((J 40 0 (((I 24 0 28) - 2).toNatClampNeg)) + (J 40 0 ((((I 24 0 28) - 2) + 1).toNatClampNeg)))), .inr (.inr (.inr (.inl FP.dconst0)))]) (rest := []) (v := none) rfl fk_6_172 rfl (by decide) fn_D_push (Nat.le_of_ble_eq_true rfl) (K) ?_
            refine fm_gr O 1 (C' := (294, [(11, .inl (((J 40 0 ((((I 24 0 28) - 2) + 1).toNatClampNeg)).toInt32) &&& 31)), (9, .inr (.inr (.inr (.inl (G 41 0 ((((I 24 0 28) - 2) + 1).toNatClampNeg)))))), (7, .inr (.inr (.inr (.inl (G 41 0 (((I 24 0 28) - 2).toNatClampNeg)))))), (5, .inr (.inl (J 40 0 ((((I 24 0 28) - 2) + 1).toNatClampNeg)))), (3, .inr (.inl (J 40 0 (((I 24 0 28) - 2).toNatClampNeg)))), (0, .inr (.inr (.inr (.inr (24, 0))))), (1, .inl o), (2, .inl t)], [], (r45.1, r45.2.1, r45.2.2, fm_P pa pb))) rfl ?_
            exact fm_gRe O rfl trivial (by first | (rw [he]; done) | (rw [he]; rfl) | rfl) (by first | (rw [he]; done) | (rw [he]; rfl) | rfl)
          · have he := he.trans (if_neg h5)
            have hp := hp.2 h5
            by_cases h6 : o = 12
            · have he := he.trans (if_pos h6)
              have hp := hp.1 h6
              refine fm_gs O 12 rfl (show o.toInt = 12 from by rw [h6]; decide) ?_
              refine fm_gr O 6 (C' := (184, [(11, .inl (((J 40 0 ((((I 24 0 28) - 2) + 1).toNatClampNeg)).toInt32) &&& 31)), (9, .inr (.inr (.inr (.inl (G 41 0 ((((I 24 0 28) - 2) + 1).toNatClampNeg)))))), (7, .inr (.inr (.inr (.inl (G 41 0 (((I 24 0 28) - 2).toNatClampNeg)))))), (5, .inr (.inl (J 40 0 ((((I 24 0 28) - 2) + 1).toNatClampNeg)))), (3, .inr (.inl (J 40 0 (((I 24 0 28) - 2).toNatClampNeg)))), (0, .inr (.inr (.inr (.inr (24, 0))))), (1, .inl o), (2, .inl t)], [.inr (.inr (.inr (.inl FP.dconst0))), .inr (.inl ((J 40 0 (((I 24 0 28) - 2).toNatClampNeg)) - (J 40 0 ((((I 24 0 28) - 2) + 1).toNatClampNeg)))), .inl t, .inr (.inr (.inr (.inr (24, 0))))], (fm_u I 24 0 28 ((I 24 0 28) - 2), J, G, fm_P pa pb))) rfl ?_
              have K := fmD_push_c (d := d) hl (by omega) (fm_u I 24 0 28 ((I 24 0 28) - 2)) J G pa pb t ((J 40 0 (((I 24 0 28) - 2).toNatClampNeg)) - (J 40 0 ((((I 24 0 28) - 2) + 1).toNatClampNeg))) FP.dconst0 hp
              generalize er46 : fmD_push_f (fm_u I 24 0 28 ((I 24 0 28) - 2)) J G t ((J 40 0 (((I 24 0 28) - 2).toNatClampNeg)) - (J 40 0 ((((I 24 0 28) - 2) + 1).toNatClampNeg))) FP.dconst0 = r46 at he
              have he := he.trans (fm_letE _ _)
              rw [er46] at K
              refine fm_cV0 O fmD_push_o (i := 0) (as := [.inl t, .inr (.inl ((J 40 0 (((I 24 0 28) - 2).toNatClampNeg)) - (J 40 0 ((((I 24 0 28) - 2) + 1).toNatClampNeg)))), .inr (.inr (.inr (.inl FP.dconst0)))]) (rest := []) (v := none) rfl fk_6_172 rfl (by decide) fn_D_push (Nat.le_of_ble_eq_true rfl) (K) ?_
              refine fm_gr O 1 (C' := (294, [(11, .inl (((J 40 0 ((((I 24 0 28) - 2) + 1).toNatClampNeg)).toInt32) &&& 31)), (9, .inr (.inr (.inr (.inl (G 41 0 ((((I 24 0 28) - 2) + 1).toNatClampNeg)))))), (7, .inr (.inr (.inr (.inl (G 41 0 (((I 24 0 28) - 2).toNatClampNeg)))))), (5, .inr (.inl (J 40 0 ((((I 24 0 28) - 2) + 1).toNatClampNeg)))), (3, .inr (.inl (J 40 0 (((I 24 0 28) - 2).toNatClampNeg)))), (0, .inr (.inr (.inr (.inr (24, 0))))), (1, .inl o), (2, .inl t)], [], (r46.1, r46.2.1, r46.2.2, fm_P pa pb))) rfl ?_
              exact fm_gRe O rfl trivial (by first | (rw [he]; done) | (rw [he]; rfl) | rfl) (by first | (rw [he]; done) | (rw [he]; rfl) | rfl)
            · have he := he.trans (if_neg h6)
              have hp := hp.2 h6
              by_cases h7 : o = 13
              · have he := he.trans (if_pos h7)
                have hp := hp.1 h7
                refine fm_gs O 13 rfl (show o.toInt = 13 from by rw [h7]; decide) ?_
                refine fm_gr O 6 (C' := (197, [(11, .inl (((J 40 0 ((((I 24 0 28) - 2) + 1).toNatClampNeg)).toInt32) &&& 31)), (9, .inr (.inr (.inr (.inl (G 41 0 ((((I 24 0 28) - 2) + 1).toNatClampNeg)))))), (7, .inr (.inr (.inr (.inl (G 41 0 (((I 24 0 28) - 2).toNatClampNeg)))))), (5, .inr (.inl (J 40 0 ((((I 24 0 28) - 2) + 1).toNatClampNeg)))), (3, .inr (.inl (J 40 0 (((I 24 0 28) - 2).toNatClampNeg)))), (0, .inr (.inr (.inr (.inr (24, 0))))), (1, .inl o), (2, .inl t)], [.inr (.inr (.inr (.inl FP.dconst0))), .inr (.inl ((J 40 0 (((I 24 0 28) - 2).toNatClampNeg)) * (J 40 0 ((((I 24 0 28) - 2) + 1).toNatClampNeg)))), .inl t, .inr (.inr (.inr (.inr (24, 0))))], (fm_u I 24 0 28 ((I 24 0 28) - 2), J, G, fm_P pa pb))) rfl ?_
                have K := fmD_push_c (d := d) hl (by omega) (fm_u I 24 0 28 ((I 24 0 28) - 2)) J G pa pb t ((J 40 0 (((I 24 0 28) - 2).toNatClampNeg)) * (J 40 0 ((((I 24 0 28) - 2) + 1).toNatClampNeg))) FP.dconst0 hp
                generalize er47 : fmD_push_f (fm_u I 24 0 28 ((I 24 0 28) - 2)) J G t ((J 40 0 (((I 24 0 28) - 2).toNatClampNeg)) * (J 40 0 ((((I 24 0 28) - 2) + 1).toNatClampNeg))) FP.dconst0 = r47 at he
                have he := he.trans (fm_letE _ _)
                rw [er47] at K
                refine fm_cV0 O fmD_push_o (i := 0) (as := [.inl t, .inr (.inl ((J 40 0 (((I 24 0 28) - 2).toNatClampNeg)) * (J 40 0 ((((I 24 0 28) - 2) + 1).toNatClampNeg)))), .inr (.inr (.inr (.inl FP.dconst0)))]) (rest := []) (v := none) rfl fk_6_172 rfl (by decide) fn_D_push (Nat.le_of_ble_eq_true rfl) (K) ?_
                refine fm_gr O 1 (C' := (294, [(11, .inl (((J 40 0 ((((I 24 0 28) - 2) + 1).toNatClampNeg)).toInt32) &&& 31)), (9, .inr (.inr (.inr (.inl (G 41 0 ((((I 24 0 28) - 2) + 1).toNatClampNeg)))))), (7, .inr (.inr (.inr (.inl (G 41 0 (((I 24 0 28) - 2).toNatClampNeg)))))), (5, .inr (.inl (J 40 0 ((((I 24 0 28) - 2) + 1).toNatClampNeg)))), (3, .inr (.inl (J 40 0 (((I 24 0 28) - 2).toNatClampNeg)))), (0, .inr (.inr (.inr (.inr (24, 0))))), (1, .inl o), (2, .inl t)], [], (r47.1, r47.2.1, r47.2.2, fm_P pa pb))) rfl ?_
                exact fm_gRe O rfl trivial (by first | (rw [he]; done) | (rw [he]; rfl) | rfl) (by first | (rw [he]; done) | (rw [he]; rfl) | rfl)
              · have he := he.trans (if_neg h7)
                have hp := hp.2 h7
                by_cases h8 : o = 14
                · have he := he.trans (if_pos h8)
                  have hp := hp.1 h8
                  refine fm_gs O 14 rfl (show o.toInt = 14 from by rw [h8]; decide) ?_
                  refine fm_gr O 4 (C' := (208, [(11, .inl (((J 40 0 ((((I 24 0 28) - 2) + 1).toNatClampNeg)).toInt32) &&& 31)), (9, .inr (.inr (.inr (.inl (G 41 0 ((((I 24 0 28) - 2) + 1).toNatClampNeg)))))), (7, .inr (.inr (.inr (.inl (G 41 0 (((I 24 0 28) - 2).toNatClampNeg)))))), (5, .inr (.inl (J 40 0 ((((I 24 0 28) - 2) + 1).toNatClampNeg)))), (3, .inr (.inl (J 40 0 (((I 24 0 28) - 2).toNatClampNeg)))), (0, .inr (.inr (.inr (.inr (24, 0))))), (1, .inl o), (2, .inl t)], [.inr (.inl (J 40 0 ((((I 24 0 28) - 2) + 1).toNatClampNeg))), .inr (.inl (J 40 0 (((I 24 0 28) - 2).toNatClampNeg))), .inl t, .inr (.inr (.inr (.inr (24, 0))))], (fm_u I 24 0 28 ((I 24 0 28) - 2), J, G, fm_P pa pb))) rfl ?_
                  refine fm_gg O rfl hp.1 ?_
                  have hp := hp.2
                  refine fm_gr O 1 (C' := (210, [(11, .inl (((J 40 0 ((((I 24 0 28) - 2) + 1).toNatClampNeg)).toInt32) &&& 31)), (9, .inr (.inr (.inr (.inl (G 41 0 ((((I 24 0 28) - 2) + 1).toNatClampNeg)))))), (7, .inr (.inr (.inr (.inl (G 41 0 (((I 24 0 28) - 2).toNatClampNeg)))))), (5, .inr (.inl (J 40 0 ((((I 24 0 28) - 2) + 1).toNatClampNeg)))), (3, .inr (.inl (J 40 0 (((I 24 0 28) - 2).toNatClampNeg)))), (0, .inr (.inr (.inr (.inr (24, 0))))), (1, .inl o), (2, .inl t)], [.inr (.inr (.inr (.inl FP.dconst0))), .inr (.inl ((J 40 0 (((I 24 0 28) - 2).toNatClampNeg)) / (J 40 0 ((((I 24 0 28) - 2) + 1).toNatClampNeg)))), .inl t, .inr (.inr (.inr (.inr (24, 0))))], (fm_u I 24 0 28 ((I 24 0 28) - 2), J, G, fm_P pa pb))) rfl ?_
                  have K := fmD_push_c (d := d) hl (by omega) (fm_u I 24 0 28 ((I 24 0 28) - 2)) J G pa pb t ((J 40 0 (((I 24 0 28) - 2).toNatClampNeg)) / (J 40 0 ((((I 24 0 28) - 2) + 1).toNatClampNeg))) FP.dconst0 hp
                  generalize er48 : fmD_push_f (fm_u I 24 0 28 ((I 24 0 28) - 2)) J G t ((J 40 0 (((I 24 0 28) - 2).toNatClampNeg)) / (J 40 0 ((((I 24 0 28) - 2) + 1).toNatClampNeg))) FP.dconst0 = r48 at he
                  have he := he.trans (fm_letE _ _)
                  rw [er48] at K
                  refine fm_cV0 O fmD_push_o (i := 0) (as := [.inl t, .inr (.inl ((J 40 0 (((I 24 0 28) - 2).toNatClampNeg)) / (J 40 0 ((((I 24 0 28) - 2) + 1).toNatClampNeg)))), .inr (.inr (.inr (.inl FP.dconst0)))]) (rest := []) (v := none) rfl fk_6_172 rfl (by decide) fn_D_push (Nat.le_of_ble_eq_true rfl) (K) ?_
                  refine fm_gr O 1 (C' := (294, [(11, .inl (((J 40 0 ((((I 24 0 28) - 2) + 1).toNatClampNeg)).toInt32) &&& 31)), (9, .inr (.inr (.inr (.inl (G 41 0 ((((I 24 0 28) - 2) + 1).toNatClampNeg)))))), (7, .inr (.inr (.inr (.inl (G 41 0 (((I 24 0 28) - 2).toNatClampNeg)))))), (5, .inr (.inl (J 40 0 ((((I 24 0 28) - 2) + 1).toNatClampNeg)))), (3, .inr (.inl (J 40 0 (((I 24 0 28) - 2).toNatClampNeg)))), (0, .inr (.inr (.inr (.inr (24, 0))))), (1, .inl o), (2, .inl t)], [], (r48.1, r48.2.1, r48.2.2, fm_P pa pb))) rfl ?_
                  exact fm_gRe O rfl trivial (by first | (rw [he]; done) | (rw [he]; rfl) | rfl) (by first | (rw [he]; done) | (rw [he]; rfl) | rfl)
                · have he := he.trans (if_neg h8)
                  have hp := hp.2 h8
                  by_cases h9 : o = 15
                  · have he := he.trans (if_pos h9)
                    have hp := hp.1 h9
                    refine fm_gs O 15 rfl (show o.toInt = 15 from by rw [h9]; decide) ?_
                    refine fm_gr O 4 (C' := (221, [(11, .inl (((J 40 0 ((((I 24 0 28) - 2) + 1).toNatClampNeg)).toInt32) &&& 31)), (9, .inr (.inr (.inr (.inl (G 41 0 ((((I 24 0 28) - 2) + 1).toNatClampNeg)))))), (7, .inr (.inr (.inr (.inl (G 41 0 (((I 24 0 28) - 2).toNatClampNeg)))))), (5, .inr (.inl (J 40 0 ((((I 24 0 28) - 2) + 1).toNatClampNeg)))), (3, .inr (.inl (J 40 0 (((I 24 0 28) - 2).toNatClampNeg)))), (0, .inr (.inr (.inr (.inr (24, 0))))), (1, .inl o), (2, .inl t)], [.inr (.inl (J 40 0 ((((I 24 0 28) - 2) + 1).toNatClampNeg))), .inr (.inl (J 40 0 (((I 24 0 28) - 2).toNatClampNeg))), .inl t, .inr (.inr (.inr (.inr (24, 0))))], (fm_u I 24 0 28 ((I 24 0 28) - 2), J, G, fm_P pa pb))) rfl ?_
                    refine fm_gg O rfl hp.1 ?_
                    have hp := hp.2
                    refine fm_gr O 1 (C' := (223, [(11, .inl (((J 40 0 ((((I 24 0 28) - 2) + 1).toNatClampNeg)).toInt32) &&& 31)), (9, .inr (.inr (.inr (.inl (G 41 0 ((((I 24 0 28) - 2) + 1).toNatClampNeg)))))), (7, .inr (.inr (.inr (.inl (G 41 0 (((I 24 0 28) - 2).toNatClampNeg)))))), (5, .inr (.inl (J 40 0 ((((I 24 0 28) - 2) + 1).toNatClampNeg)))), (3, .inr (.inl (J 40 0 (((I 24 0 28) - 2).toNatClampNeg)))), (0, .inr (.inr (.inr (.inr (24, 0))))), (1, .inl o), (2, .inl t)], [.inr (.inr (.inr (.inl FP.dconst0))), .inr (.inl ((J 40 0 (((I 24 0 28) - 2).toNatClampNeg)) - (J 40 0 (((I 24 0 28) - 2).toNatClampNeg)) / (J 40 0 ((((I 24 0 28) - 2) + 1).toNatClampNeg)) * (J 40 0 ((((I 24 0 28) - 2) + 1).toNatClampNeg)))), .inl t, .inr (.inr (.inr (.inr (24, 0))))], (fm_u I 24 0 28 ((I 24 0 28) - 2), J, G, fm_P pa pb))) rfl ?_
                    have K := fmD_push_c (d := d) hl (by omega) (fm_u I 24 0 28 ((I 24 0 28) - 2)) J G pa pb t ((J 40 0 (((I 24 0 28) - 2).toNatClampNeg)) - (J 40 0 (((I 24 0 28) - 2).toNatClampNeg)) / (J 40 0 ((((I 24 0 28) - 2) + 1).toNatClampNeg)) * (J 40 0 ((((I 24 0 28) - 2) + 1).toNatClampNeg))) FP.dconst0 hp
                    generalize er49 : fmD_push_f (fm_u I 24 0 28 ((I 24 0 28) - 2)) J G t ((J 40 0 (((I 24 0 28) - 2).toNatClampNeg)) - (J 40 0 (((I 24 0 28) - 2).toNatClampNeg)) / (J 40 0 ((((I 24 0 28) - 2) + 1).toNatClampNeg)) * (J 40 0 ((((I 24 0 28) - 2) + 1).toNatClampNeg))) FP.dconst0 = r49 at he
                    have he := he.trans (fm_letE _ _)
                    rw [er49] at K
                    refine fm_cV0 O fmD_push_o (i := 0) (as := [.inl t, .inr (.inl ((J 40 0 (((I 24 0 28) - 2).toNatClampNeg)) - (J 40 0 (((I 24 0 28) - 2).toNatClampNeg)) / (J 40 0 ((((I 24 0 28) - 2) + 1).toNatClampNeg)) * (J 40 0 ((((I 24 0 28) - 2) + 1).toNatClampNeg)))), .inr (.inr (.inr (.inl FP.dconst0)))]) (rest := []) (v := none) rfl fk_6_172 rfl (by decide) fn_D_push (Nat.le_of_ble_eq_true rfl) (K) ?_
                    refine fm_gr O 1 (C' := (294, [(11, .inl (((J 40 0 ((((I 24 0 28) - 2) + 1).toNatClampNeg)).toInt32) &&& 31)), (9, .inr (.inr (.inr (.inl (G 41 0 ((((I 24 0 28) - 2) + 1).toNatClampNeg)))))), (7, .inr (.inr (.inr (.inl (G 41 0 (((I 24 0 28) - 2).toNatClampNeg)))))), (5, .inr (.inl (J 40 0 ((((I 24 0 28) - 2) + 1).toNatClampNeg)))), (3, .inr (.inl (J 40 0 (((I 24 0 28) - 2).toNatClampNeg)))), (0, .inr (.inr (.inr (.inr (24, 0))))), (1, .inl o), (2, .inl t)], [], (r49.1, r49.2.1, r49.2.2, fm_P pa pb))) rfl ?_
                    exact fm_gRe O rfl trivial (by first | (rw [he]; done) | (rw [he]; rfl) | rfl) (by first | (rw [he]; done) | (rw [he]; rfl) | rfl)
                  · have he := he.trans (if_neg h9)
                    have hp := hp.2 h9
                    by_cases h10 : o = 16
                    · have he := he.trans (if_pos h10)
                      have hp := hp.1 h10
                      refine fm_gs O 16 rfl (show o.toInt = 16 from by rw [h10]; decide) ?_
                      refine fm_gr O 6 (C' := (236, [(11, .inl (((J 40 0 ((((I 24 0 28) - 2) + 1).toNatClampNeg)).toInt32) &&& 31)), (9, .inr (.inr (.inr (.inl (G 41 0 ((((I 24 0 28) - 2) + 1).toNatClampNeg)))))), (7, .inr (.inr (.inr (.inl (G 41 0 (((I 24 0 28) - 2).toNatClampNeg)))))), (5, .inr (.inl (J 40 0 ((((I 24 0 28) - 2) + 1).toNatClampNeg)))), (3, .inr (.inl (J 40 0 (((I 24 0 28) - 2).toNatClampNeg)))), (0, .inr (.inr (.inr (.inr (24, 0))))), (1, .inl o), (2, .inl t)], [.inr (.inr (.inr (.inl FP.dconst0))), .inr (.inl ((J 40 0 (((I 24 0 28) - 2).toNatClampNeg)) &&& (J 40 0 ((((I 24 0 28) - 2) + 1).toNatClampNeg)))), .inl t, .inr (.inr (.inr (.inr (24, 0))))], (fm_u I 24 0 28 ((I 24 0 28) - 2), J, G, fm_P pa pb))) rfl ?_
                      have K := fmD_push_c (d := d) hl (by omega) (fm_u I 24 0 28 ((I 24 0 28) - 2)) J G pa pb t ((J 40 0 (((I 24 0 28) - 2).toNatClampNeg)) &&& (J 40 0 ((((I 24 0 28) - 2) + 1).toNatClampNeg))) FP.dconst0 hp
                      generalize er50 : fmD_push_f (fm_u I 24 0 28 ((I 24 0 28) - 2)) J G t ((J 40 0 (((I 24 0 28) - 2).toNatClampNeg)) &&& (J 40 0 ((((I 24 0 28) - 2) + 1).toNatClampNeg))) FP.dconst0 = r50 at he
                      have he := he.trans (fm_letE _ _)
                      rw [er50] at K
                      refine fm_cV0 O fmD_push_o (i := 0) (as := [.inl t, .inr (.inl ((J 40 0 (((I 24 0 28) - 2).toNatClampNeg)) &&& (J 40 0 ((((I 24 0 28) - 2) + 1).toNatClampNeg)))), .inr (.inr (.inr (.inl FP.dconst0)))]) (rest := []) (v := none) rfl fk_6_172 rfl (by decide) fn_D_push (Nat.le_of_ble_eq_true rfl) (K) ?_
                      refine fm_gr O 1 (C' := (294, [(11, .inl (((J 40 0 ((((I 24 0 28) - 2) + 1).toNatClampNeg)).toInt32) &&& 31)), (9, .inr (.inr (.inr (.inl (G 41 0 ((((I 24 0 28) - 2) + 1).toNatClampNeg)))))), (7, .inr (.inr (.inr (.inl (G 41 0 (((I 24 0 28) - 2).toNatClampNeg)))))), (5, .inr (.inl (J 40 0 ((((I 24 0 28) - 2) + 1).toNatClampNeg)))), (3, .inr (.inl (J 40 0 (((I 24 0 28) - 2).toNatClampNeg)))), (0, .inr (.inr (.inr (.inr (24, 0))))), (1, .inl o), (2, .inl t)], [], (r50.1, r50.2.1, r50.2.2, fm_P pa pb))) rfl ?_
                      exact fm_gRe O rfl trivial (by first | (rw [he]; done) | (rw [he]; rfl) | rfl) (by first | (rw [he]; done) | (rw [he]; rfl) | rfl)
                    · have he := he.trans (if_neg h10)
                      have hp := hp.2 h10
                      by_cases h11 : o = 17
                      · have he := he.trans (if_pos h11)
                        have hp := hp.1 h11
                        refine fm_gs O 17 rfl (show o.toInt = 17 from by rw [h11]; decide) ?_
                        refine fm_gr O 6 (C' := (249, [(11, .inl (((J 40 0 ((((I 24 0 28) - 2) + 1).toNatClampNeg)).toInt32) &&& 31)), (9, .inr (.inr (.inr (.inl (G 41 0 ((((I 24 0 28) - 2) + 1).toNatClampNeg)))))), (7, .inr (.inr (.inr (.inl (G 41 0 (((I 24 0 28) - 2).toNatClampNeg)))))), (5, .inr (.inl (J 40 0 ((((I 24 0 28) - 2) + 1).toNatClampNeg)))), (3, .inr (.inl (J 40 0 (((I 24 0 28) - 2).toNatClampNeg)))), (0, .inr (.inr (.inr (.inr (24, 0))))), (1, .inl o), (2, .inl t)], [.inr (.inr (.inr (.inl FP.dconst0))), .inr (.inl ((J 40 0 (((I 24 0 28) - 2).toNatClampNeg)) <<< ((((J 40 0 ((((I 24 0 28) - 2) + 1).toNatClampNeg)).toInt32) &&& 31).toInt64 &&& 63))), .inl t, .inr (.inr (.inr (.inr (24, 0))))], (fm_u I 24 0 28 ((I 24 0 28) - 2), J, G, fm_P pa pb))) rfl ?_
                        have K := fmD_push_c (d := d) hl (by omega) (fm_u I 24 0 28 ((I 24 0 28) - 2)) J G pa pb t ((J 40 0 (((I 24 0 28) - 2).toNatClampNeg)) <<< ((((J 40 0 ((((I 24 0 28) - 2) + 1).toNatClampNeg)).toInt32) &&& 31).toInt64 &&& 63)) FP.dconst0 hp
                        generalize er51 : fmD_push_f (fm_u I 24 0 28 ((I 24 0 28) - 2)) J G t ((J 40 0 (((I 24 0 28) - 2).toNatClampNeg)) <<< ((((J 40 0 ((((I 24 0 28) - 2) + 1).toNatClampNeg)).toInt32) &&& 31).toInt64 &&& 63)) FP.dconst0 = r51 at he
                        have he := he.trans (fm_letE _ _)
                        rw [er51] at K
                        refine fm_cV0 O fmD_push_o (i := 0) (as := [.inl t, .inr (.inl ((J 40 0 (((I 24 0 28) - 2).toNatClampNeg)) <<< ((((J 40 0 ((((I 24 0 28) - 2) + 1).toNatClampNeg)).toInt32) &&& 31).toInt64 &&& 63))), .inr (.inr (.inr (.inl FP.dconst0)))]) (rest := []) (v := none) rfl fk_6_172 rfl (by decide) fn_D_push (Nat.le_of_ble_eq_true rfl) (K) ?_
                        refine fm_gr O 1 (C' := (294, [(11, .inl (((J 40 0 ((((I 24 0 28) - 2) + 1).toNatClampNeg)).toInt32) &&& 31)), (9, .inr (.inr (.inr (.inl (G 41 0 ((((I 24 0 28) - 2) + 1).toNatClampNeg)))))), (7, .inr (.inr (.inr (.inl (G 41 0 (((I 24 0 28) - 2).toNatClampNeg)))))), (5, .inr (.inl (J 40 0 ((((I 24 0 28) - 2) + 1).toNatClampNeg)))), (3, .inr (.inl (J 40 0 (((I 24 0 28) - 2).toNatClampNeg)))), (0, .inr (.inr (.inr (.inr (24, 0))))), (1, .inl o), (2, .inl t)], [], (r51.1, r51.2.1, r51.2.2, fm_P pa pb))) rfl ?_
                        exact fm_gRe O rfl trivial (by first | (rw [he]; done) | (rw [he]; rfl) | rfl) (by first | (rw [he]; done) | (rw [he]; rfl) | rfl)
                      · have he := he.trans (if_neg h11)
                        have hp := hp.2 h11
                        by_cases h12 : o = 18
                        · have he := he.trans (if_pos h12)
                          have hp := hp.1 h12
                          refine fm_gs O 18 rfl (show o.toInt = 18 from by rw [h12]; decide) ?_
                          refine fm_gr O 5 (C' := (261, [(11, .inl (((J 40 0 ((((I 24 0 28) - 2) + 1).toNatClampNeg)).toInt32) &&& 31)), (9, .inr (.inr (.inr (.inl (G 41 0 ((((I 24 0 28) - 2) + 1).toNatClampNeg)))))), (7, .inr (.inr (.inr (.inl (G 41 0 (((I 24 0 28) - 2).toNatClampNeg)))))), (5, .inr (.inl (J 40 0 ((((I 24 0 28) - 2) + 1).toNatClampNeg)))), (3, .inr (.inl (J 40 0 (((I 24 0 28) - 2).toNatClampNeg)))), (0, .inr (.inr (.inr (.inr (24, 0))))), (1, .inl o), (2, .inl t)], [.inl (lg_cmp (J 40 0 (((I 24 0 28) - 2).toNatClampNeg)) (J 40 0 ((((I 24 0 28) - 2) + 1).toNatClampNeg))), .inl 0, .inr (.inr (.inr (.inr (24, 0))))], (fm_u I 24 0 28 ((I 24 0 28) - 2), J, G, fm_P pa pb))) rfl ?_
                          refine fm_gb O rfl (fun h => ?_) (fun h => ?_)
                          · have h13 : 0 ≤ (lg_cmp (J 40 0 (((I 24 0 28) - 2).toNatClampNeg)) (J 40 0 ((((I 24 0 28) - 2) + 1).toNatClampNeg))) := h
                            have he := he.trans (if_pos h13)
                            have hp := hp.1 h13
                            refine fm_gr O 2 (C' := (270, [(11, .inl (((J 40 0 ((((I 24 0 28) - 2) + 1).toNatClampNeg)).toInt32) &&& 31)), (9, .inr (.inr (.inr (.inl (G 41 0 ((((I 24 0 28) - 2) + 1).toNatClampNeg)))))), (7, .inr (.inr (.inr (.inl (G 41 0 (((I 24 0 28) - 2).toNatClampNeg)))))), (5, .inr (.inl (J 40 0 ((((I 24 0 28) - 2) + 1).toNatClampNeg)))), (3, .inr (.inl (J 40 0 (((I 24 0 28) - 2).toNatClampNeg)))), (0, .inr (.inr (.inr (.inr (24, 0))))), (1, .inl o), (2, .inl t)], [.inr (.inr (.inr (.inl FP.dconst0))), .inr (.inl 0), .inl 0, .inr (.inr (.inr (.inr (24, 0))))], (fm_u I 24 0 28 ((I 24 0 28) - 2), J, G, fm_P pa pb))) rfl ?_
                            have K := fmD_push_c (d := d) hl (by omega) (fm_u I 24 0 28 ((I 24 0 28) - 2)) J G pa pb 0 0 FP.dconst0 hp
                            generalize er52 : fmD_push_f (fm_u I 24 0 28 ((I 24 0 28) - 2)) J G 0 0 FP.dconst0 = r52 at he
                            have he := he.trans (fm_letE _ _)
                            rw [er52] at K
                            refine fm_cV0 O fmD_push_o (i := 0) (as := [.inl 0, .inr (.inl 0), .inr (.inr (.inr (.inl FP.dconst0)))]) (rest := []) (v := none) rfl fk_6_172 rfl (by decide) fn_D_push (Nat.le_of_ble_eq_true rfl) (K) ?_
                            refine fm_gr O 1 (C' := (294, [(11, .inl (((J 40 0 ((((I 24 0 28) - 2) + 1).toNatClampNeg)).toInt32) &&& 31)), (9, .inr (.inr (.inr (.inl (G 41 0 ((((I 24 0 28) - 2) + 1).toNatClampNeg)))))), (7, .inr (.inr (.inr (.inl (G 41 0 (((I 24 0 28) - 2).toNatClampNeg)))))), (5, .inr (.inl (J 40 0 ((((I 24 0 28) - 2) + 1).toNatClampNeg)))), (3, .inr (.inl (J 40 0 (((I 24 0 28) - 2).toNatClampNeg)))), (0, .inr (.inr (.inr (.inr (24, 0))))), (1, .inl o), (2, .inl t)], [], (r52.1, r52.2.1, r52.2.2, fm_P pa pb))) rfl ?_
                            exact fm_gRe O rfl trivial (by first | (rw [he]; done) | (rw [he]; rfl) | rfl) (by first | (rw [he]; done) | (rw [he]; rfl) | rfl)
                          · have h13 : ¬ 0 ≤ (lg_cmp (J 40 0 (((I 24 0 28) - 2).toNatClampNeg)) (J 40 0 ((((I 24 0 28) - 2) + 1).toNatClampNeg))) := h
                            have he := he.trans (if_neg h13)
                            have hp := hp.2 h13
                            refine fm_gr O 3 (C' := (270, [(11, .inl (((J 40 0 ((((I 24 0 28) - 2) + 1).toNatClampNeg)).toInt32) &&& 31)), (9, .inr (.inr (.inr (.inl (G 41 0 ((((I 24 0 28) - 2) + 1).toNatClampNeg)))))), (7, .inr (.inr (.inr (.inl (G 41 0 (((I 24 0 28) - 2).toNatClampNeg)))))), (5, .inr (.inl (J 40 0 ((((I 24 0 28) - 2) + 1).toNatClampNeg)))), (3, .inr (.inl (J 40 0 (((I 24 0 28) - 2).toNatClampNeg)))), (0, .inr (.inr (.inr (.inr (24, 0))))), (1, .inl o), (2, .inl t)], [.inr (.inr (.inr (.inl FP.dconst0))), .inr (.inl 1), .inl 0, .inr (.inr (.inr (.inr (24, 0))))], (fm_u I 24 0 28 ((I 24 0 28) - 2), J, G, fm_P pa pb))) rfl ?_
                            have K := fmD_push_c (d := d) hl (by omega) (fm_u I 24 0 28 ((I 24 0 28) - 2)) J G pa pb 0 1 FP.dconst0 hp
                            generalize er53 : fmD_push_f (fm_u I 24 0 28 ((I 24 0 28) - 2)) J G 0 1 FP.dconst0 = r53 at he
                            have he := he.trans (fm_letE _ _)
                            rw [er53] at K
                            refine fm_cV0 O fmD_push_o (i := 0) (as := [.inl 0, .inr (.inl 1), .inr (.inr (.inr (.inl FP.dconst0)))]) (rest := []) (v := none) rfl fk_6_172 rfl (by decide) fn_D_push (Nat.le_of_ble_eq_true rfl) (K) ?_
                            refine fm_gr O 1 (C' := (294, [(11, .inl (((J 40 0 ((((I 24 0 28) - 2) + 1).toNatClampNeg)).toInt32) &&& 31)), (9, .inr (.inr (.inr (.inl (G 41 0 ((((I 24 0 28) - 2) + 1).toNatClampNeg)))))), (7, .inr (.inr (.inr (.inl (G 41 0 (((I 24 0 28) - 2).toNatClampNeg)))))), (5, .inr (.inl (J 40 0 ((((I 24 0 28) - 2) + 1).toNatClampNeg)))), (3, .inr (.inl (J 40 0 (((I 24 0 28) - 2).toNatClampNeg)))), (0, .inr (.inr (.inr (.inr (24, 0))))), (1, .inl o), (2, .inl t)], [], (r53.1, r53.2.1, r53.2.2, fm_P pa pb))) rfl ?_
                            exact fm_gRe O rfl trivial (by first | (rw [he]; done) | (rw [he]; rfl) | rfl) (by first | (rw [he]; done) | (rw [he]; rfl) | rfl)
                        · have he := he.trans (if_neg h12)
                          have hp := hp.2 h12
                          refine fm_gt O rfl (by
                              show o.toInt < 11 ∨ 18 < o.toInt
                              have := lv_neT h5 (show (11 : Int32).toInt = 11 from by decide)
                              have := lv_neT h6 (show (12 : Int32).toInt = 12 from by decide)
                              have := lv_neT h7 (show (13 : Int32).toInt = 13 from by decide)
                              have := lv_neT h8 (show (14 : Int32).toInt = 14 from by decide)
                              have := lv_neT h9 (show (15 : Int32).toInt = 15 from by decide)
                              have := lv_neT h10 (show (16 : Int32).toInt = 16 from by decide)
                              have := lv_neT h11 (show (17 : Int32).toInt = 17 from by decide)
                              have := lv_neT h12 (show (18 : Int32).toInt = 18 from by decide)
                              omega) ?_
                          refine fm_gr O 5 (C' := (282, [(11, .inl (((J 40 0 ((((I 24 0 28) - 2) + 1).toNatClampNeg)).toInt32) &&& 31)), (9, .inr (.inr (.inr (.inl (G 41 0 ((((I 24 0 28) - 2) + 1).toNatClampNeg)))))), (7, .inr (.inr (.inr (.inl (G 41 0 (((I 24 0 28) - 2).toNatClampNeg)))))), (5, .inr (.inl (J 40 0 ((((I 24 0 28) - 2) + 1).toNatClampNeg)))), (3, .inr (.inl (J 40 0 (((I 24 0 28) - 2).toNatClampNeg)))), (0, .inr (.inr (.inr (.inr (24, 0))))), (1, .inl o), (2, .inl t)], [.inl (lg_cmp (J 40 0 (((I 24 0 28) - 2).toNatClampNeg)) (J 40 0 ((((I 24 0 28) - 2) + 1).toNatClampNeg))), .inl 0, .inr (.inr (.inr (.inr (24, 0))))], (fm_u I 24 0 28 ((I 24 0 28) - 2), J, G, fm_P pa pb))) rfl ?_
                          refine fm_gb O rfl (fun h => ?_) (fun h => ?_)
                          · have h13 : (lg_cmp (J 40 0 (((I 24 0 28) - 2).toNatClampNeg)) (J 40 0 ((((I 24 0 28) - 2) + 1).toNatClampNeg))) = 0 := h
                            have he := he.trans (if_pos h13)
                            have hp := hp.1 h13
                            refine fm_gr O 3 (C' := (291, [(11, .inl (((J 40 0 ((((I 24 0 28) - 2) + 1).toNatClampNeg)).toInt32) &&& 31)), (9, .inr (.inr (.inr (.inl (G 41 0 ((((I 24 0 28) - 2) + 1).toNatClampNeg)))))), (7, .inr (.inr (.inr (.inl (G 41 0 (((I 24 0 28) - 2).toNatClampNeg)))))), (5, .inr (.inl (J 40 0 ((((I 24 0 28) - 2) + 1).toNatClampNeg)))), (3, .inr (.inl (J 40 0 (((I 24 0 28) - 2).toNatClampNeg)))), (0, .inr (.inr (.inr (.inr (24, 0))))), (1, .inl o), (2, .inl t)], [.inr (.inr (.inr (.inl FP.dconst0))), .inr (.inl 1), .inl 0, .inr (.inr (.inr (.inr (24, 0))))], (fm_u I 24 0 28 ((I 24 0 28) - 2), J, G, fm_P pa pb))) rfl ?_
                            have K := fmD_push_c (d := d) hl (by omega) (fm_u I 24 0 28 ((I 24 0 28) - 2)) J G pa pb 0 1 FP.dconst0 hp
                            generalize er54 : fmD_push_f (fm_u I 24 0 28 ((I 24 0 28) - 2)) J G 0 1 FP.dconst0 = r54 at he
                            have he := he.trans (fm_letE _ _)
                            rw [er54] at K
                            refine fm_cV0 O fmD_push_o (i := 0) (as := [.inl 0, .inr (.inl 1), .inr (.inr (.inr (.inl FP.dconst0)))]) (rest := []) (v := none) rfl fk_6_172 rfl (by decide) fn_D_push (Nat.le_of_ble_eq_true rfl) (K) ?_
                            exact fm_gRe O rfl trivial (by first | (rw [he]; done) | (rw [he]; rfl) | rfl) (by first | (rw [he]; done) | (rw [he]; rfl) | rfl)
                          · have h13 : ¬ (lg_cmp (J 40 0 (((I 24 0 28) - 2).toNatClampNeg)) (J 40 0 ((((I 24 0 28) - 2) + 1).toNatClampNeg))) = 0 := h
                            have he := he.trans (if_neg h13)
                            have hp := hp.2 h13
                            refine fm_gr O 2 (C' := (291, [(11, .inl (((J 40 0 ((((I 24 0 28) - 2) + 1).toNatClampNeg)).toInt32) &&& 31)), (9, .inr (.inr (.inr (.inl (G 41 0 ((((I 24 0 28) - 2) + 1).toNatClampNeg)))))), (7, .inr (.inr (.inr (.inl (G 41 0 (((I 24 0 28) - 2).toNatClampNeg)))))), (5, .inr (.inl (J 40 0 ((((I 24 0 28) - 2) + 1).toNatClampNeg)))), (3, .inr (.inl (J 40 0 (((I 24 0 28) - 2).toNatClampNeg)))), (0, .inr (.inr (.inr (.inr (24, 0))))), (1, .inl o), (2, .inl t)], [.inr (.inr (.inr (.inl FP.dconst0))), .inr (.inl 0), .inl 0, .inr (.inr (.inr (.inr (24, 0))))], (fm_u I 24 0 28 ((I 24 0 28) - 2), J, G, fm_P pa pb))) rfl ?_
                            have K := fmD_push_c (d := d) hl (by omega) (fm_u I 24 0 28 ((I 24 0 28) - 2)) J G pa pb 0 0 FP.dconst0 hp
                            generalize er55 : fmD_push_f (fm_u I 24 0 28 ((I 24 0 28) - 2)) J G 0 0 FP.dconst0 = r55 at he
                            have he := he.trans (fm_letE _ _)
                            rw [er55] at K
                            refine fm_cV0 O fmD_push_o (i := 0) (as := [.inl 0, .inr (.inl 0), .inr (.inr (.inr (.inl FP.dconst0)))]) (rest := []) (v := none) rfl fk_6_172 rfl (by decide) fn_D_push (Nat.le_of_ble_eq_true rfl) (K) ?_
                            exact fm_gRe O rfl trivial (by first | (rw [he]; done) | (rw [he]; rfl) | rfl) (by first | (rw [he]; done) | (rw [he]; rfl) | rfl)
        · have h4 : ¬ t = 0 := h
          have he := he.trans (if_neg h4)
          have hp := hp.2 h4
          refine fm_gr O 4 (C' := (116, [(11, .inl (((J 40 0 ((((I 24 0 28) - 2) + 1).toNatClampNeg)).toInt32) &&& 63)), (9, .inr (.inr (.inr (.inl (G 41 0 ((((I 24 0 28) - 2) + 1).toNatClampNeg)))))), (7, .inr (.inr (.inr (.inl (G 41 0 (((I 24 0 28) - 2).toNatClampNeg)))))), (5, .inr (.inl (J 40 0 ((((I 24 0 28) - 2) + 1).toNatClampNeg)))), (3, .inr (.inl (J 40 0 (((I 24 0 28) - 2).toNatClampNeg)))), (0, .inr (.inr (.inr (.inr (24, 0))))), (1, .inl o), (2, .inl t)], [.inl o], (fm_u I 24 0 28 ((I 24 0 28) - 2), J, G, fm_P pa pb))) rfl ?_
          by_cases h5 : o = 11
          · have he := he.trans (if_pos h5)
            have hp := hp.1 h5
            refine fm_gs O 11 rfl (show o.toInt = 11 from by rw [h5]; decide) ?_
            refine fm_gr O 6 (C' := (171, [(11, .inl (((J 40 0 ((((I 24 0 28) - 2) + 1).toNatClampNeg)).toInt32) &&& 63)), (9, .inr (.inr (.inr (.inl (G 41 0 ((((I 24 0 28) - 2) + 1).toNatClampNeg)))))), (7, .inr (.inr (.inr (.inl (G 41 0 (((I 24 0 28) - 2).toNatClampNeg)))))), (5, .inr (.inl (J 40 0 ((((I 24 0 28) - 2) + 1).toNatClampNeg)))), (3, .inr (.inl (J 40 0 (((I 24 0 28) - 2).toNatClampNeg)))), (0, .inr (.inr (.inr (.inr (24, 0))))), (1, .inl o), (2, .inl t)], [.inr (.inr (.inr (.inl FP.dconst0))), .inr (.inl ((J 40 0 (((I 24 0 28) - 2).toNatClampNeg)) + (J 40 0 ((((I 24 0 28) - 2) + 1).toNatClampNeg)))), .inl t, .inr (.inr (.inr (.inr (24, 0))))], (fm_u I 24 0 28 ((I 24 0 28) - 2), J, G, fm_P pa pb))) rfl ?_
            have K := fmD_push_c (d := d) hl (by omega) (fm_u I 24 0 28 ((I 24 0 28) - 2)) J G pa pb t ((J 40 0 (((I 24 0 28) - 2).toNatClampNeg)) + (J 40 0 ((((I 24 0 28) - 2) + 1).toNatClampNeg))) FP.dconst0 hp
            generalize er56 : fmD_push_f (fm_u I 24 0 28 ((I 24 0 28) - 2)) J G t ((J 40 0 (((I 24 0 28) - 2).toNatClampNeg)) + (J 40 0 ((((I 24 0 28) - 2) + 1).toNatClampNeg))) FP.dconst0 = r56 at he
            have he := he.trans (fm_letE _ _)
            rw [er56] at K
            refine fm_cV0 O fmD_push_o (i := 0) (as := [.inl t, .inr (.inl ((J 40 0 (((I 24 0 28) - 2).toNatClampNeg)) + (J 40 0 ((((I 24 0 28) - 2) + 1).toNatClampNeg)))), .inr (.inr (.inr (.inl FP.dconst0)))]) (rest := []) (v := none) rfl fk_6_172 rfl (by decide) fn_D_push (Nat.le_of_ble_eq_true rfl) (K) ?_
            refine fm_gr O 1 (C' := (294, [(11, .inl (((J 40 0 ((((I 24 0 28) - 2) + 1).toNatClampNeg)).toInt32) &&& 63)), (9, .inr (.inr (.inr (.inl (G 41 0 ((((I 24 0 28) - 2) + 1).toNatClampNeg)))))), (7, .inr (.inr (.inr (.inl (G 41 0 (((I 24 0 28) - 2).toNatClampNeg)))))), (5, .inr (.inl (J 40 0 ((((I 24 0 28) - 2) + 1).toNatClampNeg)))), (3, .inr (.inl (J 40 0 (((I 24 0 28) - 2).toNatClampNeg)))), (0, .inr (.inr (.inr (.inr (24, 0))))), (1, .inl o), (2, .inl t)], [], (r56.1, r56.2.1, r56.2.2, fm_P pa pb))) rfl ?_
            exact fm_gRe O rfl trivial (by first | (rw [he]; done) | (rw [he]; rfl) | rfl) (by first | (rw [he]; done) | (rw [he]; rfl) | rfl)
          · have he := he.trans (if_neg h5)
            have hp := hp.2 h5
            by_cases h6 : o = 12
            · have he := he.trans (if_pos h6)
              have hp := hp.1 h6
              refine fm_gs O 12 rfl (show o.toInt = 12 from by rw [h6]; decide) ?_
              refine fm_gr O 6 (C' := (184, [(11, .inl (((J 40 0 ((((I 24 0 28) - 2) + 1).toNatClampNeg)).toInt32) &&& 63)), (9, .inr (.inr (.inr (.inl (G 41 0 ((((I 24 0 28) - 2) + 1).toNatClampNeg)))))), (7, .inr (.inr (.inr (.inl (G 41 0 (((I 24 0 28) - 2).toNatClampNeg)))))), (5, .inr (.inl (J 40 0 ((((I 24 0 28) - 2) + 1).toNatClampNeg)))), (3, .inr (.inl (J 40 0 (((I 24 0 28) - 2).toNatClampNeg)))), (0, .inr (.inr (.inr (.inr (24, 0))))), (1, .inl o), (2, .inl t)], [.inr (.inr (.inr (.inl FP.dconst0))), .inr (.inl ((J 40 0 (((I 24 0 28) - 2).toNatClampNeg)) - (J 40 0 ((((I 24 0 28) - 2) + 1).toNatClampNeg)))), .inl t, .inr (.inr (.inr (.inr (24, 0))))], (fm_u I 24 0 28 ((I 24 0 28) - 2), J, G, fm_P pa pb))) rfl ?_
              have K := fmD_push_c (d := d) hl (by omega) (fm_u I 24 0 28 ((I 24 0 28) - 2)) J G pa pb t ((J 40 0 (((I 24 0 28) - 2).toNatClampNeg)) - (J 40 0 ((((I 24 0 28) - 2) + 1).toNatClampNeg))) FP.dconst0 hp
              generalize er57 : fmD_push_f (fm_u I 24 0 28 ((I 24 0 28) - 2)) J G t ((J 40 0 (((I 24 0 28) - 2).toNatClampNeg)) - (J 40 0 ((((I 24 0 28) - 2) + 1).toNatClampNeg))) FP.dconst0 = r57 at he
              have he := he.trans (fm_letE _ _)
              rw [er57] at K
              refine fm_cV0 O fmD_push_o (i := 0) (as := [.inl t, .inr (.inl ((J 40 0 (((I 24 0 28) - 2).toNatClampNeg)) - (J 40 0 ((((I 24 0 28) - 2) + 1).toNatClampNeg)))), .inr (.inr (.inr (.inl FP.dconst0)))]) (rest := []) (v := none) rfl fk_6_172 rfl (by decide) fn_D_push (Nat.le_of_ble_eq_true rfl) (K) ?_
              refine fm_gr O 1 (C' := (294, [(11, .inl (((J 40 0 ((((I 24 0 28) - 2) + 1).toNatClampNeg)).toInt32) &&& 63)), (9, .inr (.inr (.inr (.inl (G 41 0 ((((I 24 0 28) - 2) + 1).toNatClampNeg)))))), (7, .inr (.inr (.inr (.inl (G 41 0 (((I 24 0 28) - 2).toNatClampNeg)))))), (5, .inr (.inl (J 40 0 ((((I 24 0 28) - 2) + 1).toNatClampNeg)))), (3, .inr (.inl (J 40 0 (((I 24 0 28) - 2).toNatClampNeg)))), (0, .inr (.inr (.inr (.inr (24, 0))))), (1, .inl o), (2, .inl t)], [], (r57.1, r57.2.1, r57.2.2, fm_P pa pb))) rfl ?_
              exact fm_gRe O rfl trivial (by first | (rw [he]; done) | (rw [he]; rfl) | rfl) (by first | (rw [he]; done) | (rw [he]; rfl) | rfl)
            · have he := he.trans (if_neg h6)
              have hp := hp.2 h6
              by_cases h7 : o = 13
              · have he := he.trans (if_pos h7)
                have hp := hp.1 h7
                refine fm_gs O 13 rfl (show o.toInt = 13 from by rw [h7]; decide) ?_
                refine fm_gr O 6 (C' := (197, [(11, .inl (((J 40 0 ((((I 24 0 28) - 2) + 1).toNatClampNeg)).toInt32) &&& 63)), (9, .inr (.inr (.inr (.inl (G 41 0 ((((I 24 0 28) - 2) + 1).toNatClampNeg)))))), (7, .inr (.inr (.inr (.inl (G 41 0 (((I 24 0 28) - 2).toNatClampNeg)))))), (5, .inr (.inl (J 40 0 ((((I 24 0 28) - 2) + 1).toNatClampNeg)))), (3, .inr (.inl (J 40 0 (((I 24 0 28) - 2).toNatClampNeg)))), (0, .inr (.inr (.inr (.inr (24, 0))))), (1, .inl o), (2, .inl t)], [.inr (.inr (.inr (.inl FP.dconst0))), .inr (.inl ((J 40 0 (((I 24 0 28) - 2).toNatClampNeg)) * (J 40 0 ((((I 24 0 28) - 2) + 1).toNatClampNeg)))), .inl t, .inr (.inr (.inr (.inr (24, 0))))], (fm_u I 24 0 28 ((I 24 0 28) - 2), J, G, fm_P pa pb))) rfl ?_
                have K := fmD_push_c (d := d) hl (by omega) (fm_u I 24 0 28 ((I 24 0 28) - 2)) J G pa pb t ((J 40 0 (((I 24 0 28) - 2).toNatClampNeg)) * (J 40 0 ((((I 24 0 28) - 2) + 1).toNatClampNeg))) FP.dconst0 hp
                generalize er58 : fmD_push_f (fm_u I 24 0 28 ((I 24 0 28) - 2)) J G t ((J 40 0 (((I 24 0 28) - 2).toNatClampNeg)) * (J 40 0 ((((I 24 0 28) - 2) + 1).toNatClampNeg))) FP.dconst0 = r58 at he
                have he := he.trans (fm_letE _ _)
                rw [er58] at K
                refine fm_cV0 O fmD_push_o (i := 0) (as := [.inl t, .inr (.inl ((J 40 0 (((I 24 0 28) - 2).toNatClampNeg)) * (J 40 0 ((((I 24 0 28) - 2) + 1).toNatClampNeg)))), .inr (.inr (.inr (.inl FP.dconst0)))]) (rest := []) (v := none) rfl fk_6_172 rfl (by decide) fn_D_push (Nat.le_of_ble_eq_true rfl) (K) ?_
                refine fm_gr O 1 (C' := (294, [(11, .inl (((J 40 0 ((((I 24 0 28) - 2) + 1).toNatClampNeg)).toInt32) &&& 63)), (9, .inr (.inr (.inr (.inl (G 41 0 ((((I 24 0 28) - 2) + 1).toNatClampNeg)))))), (7, .inr (.inr (.inr (.inl (G 41 0 (((I 24 0 28) - 2).toNatClampNeg)))))), (5, .inr (.inl (J 40 0 ((((I 24 0 28) - 2) + 1).toNatClampNeg)))), (3, .inr (.inl (J 40 0 (((I 24 0 28) - 2).toNatClampNeg)))), (0, .inr (.inr (.inr (.inr (24, 0))))), (1, .inl o), (2, .inl t)], [], (r58.1, r58.2.1, r58.2.2, fm_P pa pb))) rfl ?_
                exact fm_gRe O rfl trivial (by first | (rw [he]; done) | (rw [he]; rfl) | rfl) (by first | (rw [he]; done) | (rw [he]; rfl) | rfl)
              · have he := he.trans (if_neg h7)
                have hp := hp.2 h7
                by_cases h8 : o = 14
                · have he := he.trans (if_pos h8)
                  have hp := hp.1 h8
                  refine fm_gs O 14 rfl (show o.toInt = 14 from by rw [h8]; decide) ?_
                  refine fm_gr O 4 (C' := (208, [(11, .inl (((J 40 0 ((((I 24 0 28) - 2) + 1).toNatClampNeg)).toInt32) &&& 63)), (9, .inr (.inr (.inr (.inl (G 41 0 ((((I 24 0 28) - 2) + 1).toNatClampNeg)))))), (7, .inr (.inr (.inr (.inl (G 41 0 (((I 24 0 28) - 2).toNatClampNeg)))))), (5, .inr (.inl (J 40 0 ((((I 24 0 28) - 2) + 1).toNatClampNeg)))), (3, .inr (.inl (J 40 0 (((I 24 0 28) - 2).toNatClampNeg)))), (0, .inr (.inr (.inr (.inr (24, 0))))), (1, .inl o), (2, .inl t)], [.inr (.inl (J 40 0 ((((I 24 0 28) - 2) + 1).toNatClampNeg))), .inr (.inl (J 40 0 (((I 24 0 28) - 2).toNatClampNeg))), .inl t, .inr (.inr (.inr (.inr (24, 0))))], (fm_u I 24 0 28 ((I 24 0 28) - 2), J, G, fm_P pa pb))) rfl ?_
                  refine fm_gg O rfl hp.1 ?_
                  have hp := hp.2
                  refine fm_gr O 1 (C' := (210, [(11, .inl (((J 40 0 ((((I 24 0 28) - 2) + 1).toNatClampNeg)).toInt32) &&& 63)), (9, .inr (.inr (.inr (.inl (G 41 0 ((((I 24 0 28) - 2) + 1).toNatClampNeg)))))), (7, .inr (.inr (.inr (.inl (G 41 0 (((I 24 0 28) - 2).toNatClampNeg)))))), (5, .inr (.inl (J 40 0 ((((I 24 0 28) - 2) + 1).toNatClampNeg)))), (3, .inr (.inl (J 40 0 (((I 24 0 28) - 2).toNatClampNeg)))), (0, .inr (.inr (.inr (.inr (24, 0))))), (1, .inl o), (2, .inl t)], [.inr (.inr (.inr (.inl FP.dconst0))), .inr (.inl ((J 40 0 (((I 24 0 28) - 2).toNatClampNeg)) / (J 40 0 ((((I 24 0 28) - 2) + 1).toNatClampNeg)))), .inl t, .inr (.inr (.inr (.inr (24, 0))))], (fm_u I 24 0 28 ((I 24 0 28) - 2), J, G, fm_P pa pb))) rfl ?_
                  have K := fmD_push_c (d := d) hl (by omega) (fm_u I 24 0 28 ((I 24 0 28) - 2)) J G pa pb t ((J 40 0 (((I 24 0 28) - 2).toNatClampNeg)) / (J 40 0 ((((I 24 0 28) - 2) + 1).toNatClampNeg))) FP.dconst0 hp
                  generalize er59 : fmD_push_f (fm_u I 24 0 28 ((I 24 0 28) - 2)) J G t ((J 40 0 (((I 24 0 28) - 2).toNatClampNeg)) / (J 40 0 ((((I 24 0 28) - 2) + 1).toNatClampNeg))) FP.dconst0 = r59 at he
                  have he := he.trans (fm_letE _ _)
                  rw [er59] at K
                  refine fm_cV0 O fmD_push_o (i := 0) (as := [.inl t, .inr (.inl ((J 40 0 (((I 24 0 28) - 2).toNatClampNeg)) / (J 40 0 ((((I 24 0 28) - 2) + 1).toNatClampNeg)))), .inr (.inr (.inr (.inl FP.dconst0)))]) (rest := []) (v := none) rfl fk_6_172 rfl (by decide) fn_D_push (Nat.le_of_ble_eq_true rfl) (K) ?_
                  refine fm_gr O 1 (C' := (294, [(11, .inl (((J 40 0 ((((I 24 0 28) - 2) + 1).toNatClampNeg)).toInt32) &&& 63)), (9, .inr (.inr (.inr (.inl (G 41 0 ((((I 24 0 28) - 2) + 1).toNatClampNeg)))))), (7, .inr (.inr (.inr (.inl (G 41 0 (((I 24 0 28) - 2).toNatClampNeg)))))), (5, .inr (.inl (J 40 0 ((((I 24 0 28) - 2) + 1).toNatClampNeg)))), (3, .inr (.inl (J 40 0 (((I 24 0 28) - 2).toNatClampNeg)))), (0, .inr (.inr (.inr (.inr (24, 0))))), (1, .inl o), (2, .inl t)], [], (r59.1, r59.2.1, r59.2.2, fm_P pa pb))) rfl ?_
                  exact fm_gRe O rfl trivial (by first | (rw [he]; done) | (rw [he]; rfl) | rfl) (by first | (rw [he]; done) | (rw [he]; rfl) | rfl)
                · have he := he.trans (if_neg h8)
                  have hp := hp.2 h8
                  by_cases h9 : o = 15
                  · have he := he.trans (if_pos h9)
                    have hp := hp.1 h9
                    refine fm_gs O 15 rfl (show o.toInt = 15 from by rw [h9]; decide) ?_
                    refine fm_gr O 4 (C' := (221, [(11, .inl (((J 40 0 ((((I 24 0 28) - 2) + 1).toNatClampNeg)).toInt32) &&& 63)), (9, .inr (.inr (.inr (.inl (G 41 0 ((((I 24 0 28) - 2) + 1).toNatClampNeg)))))), (7, .inr (.inr (.inr (.inl (G 41 0 (((I 24 0 28) - 2).toNatClampNeg)))))), (5, .inr (.inl (J 40 0 ((((I 24 0 28) - 2) + 1).toNatClampNeg)))), (3, .inr (.inl (J 40 0 (((I 24 0 28) - 2).toNatClampNeg)))), (0, .inr (.inr (.inr (.inr (24, 0))))), (1, .inl o), (2, .inl t)], [.inr (.inl (J 40 0 ((((I 24 0 28) - 2) + 1).toNatClampNeg))), .inr (.inl (J 40 0 (((I 24 0 28) - 2).toNatClampNeg))), .inl t, .inr (.inr (.inr (.inr (24, 0))))], (fm_u I 24 0 28 ((I 24 0 28) - 2), J, G, fm_P pa pb))) rfl ?_
                    refine fm_gg O rfl hp.1 ?_
                    have hp := hp.2
                    refine fm_gr O 1 (C' := (223, [(11, .inl (((J 40 0 ((((I 24 0 28) - 2) + 1).toNatClampNeg)).toInt32) &&& 63)), (9, .inr (.inr (.inr (.inl (G 41 0 ((((I 24 0 28) - 2) + 1).toNatClampNeg)))))), (7, .inr (.inr (.inr (.inl (G 41 0 (((I 24 0 28) - 2).toNatClampNeg)))))), (5, .inr (.inl (J 40 0 ((((I 24 0 28) - 2) + 1).toNatClampNeg)))), (3, .inr (.inl (J 40 0 (((I 24 0 28) - 2).toNatClampNeg)))), (0, .inr (.inr (.inr (.inr (24, 0))))), (1, .inl o), (2, .inl t)], [.inr (.inr (.inr (.inl FP.dconst0))), .inr (.inl ((J 40 0 (((I 24 0 28) - 2).toNatClampNeg)) - (J 40 0 (((I 24 0 28) - 2).toNatClampNeg)) / (J 40 0 ((((I 24 0 28) - 2) + 1).toNatClampNeg)) * (J 40 0 ((((I 24 0 28) - 2) + 1).toNatClampNeg)))), .inl t, .inr (.inr (.inr (.inr (24, 0))))], (fm_u I 24 0 28 ((I 24 0 28) - 2), J, G, fm_P pa pb))) rfl ?_
                    have K := fmD_push_c (d := d) hl (by omega) (fm_u I 24 0 28 ((I 24 0 28) - 2)) J G pa pb t ((J 40 0 (((I 24 0 28) - 2).toNatClampNeg)) - (J 40 0 (((I 24 0 28) - 2).toNatClampNeg)) / (J 40 0 ((((I 24 0 28) - 2) + 1).toNatClampNeg)) * (J 40 0 ((((I 24 0 28) - 2) + 1).toNatClampNeg))) FP.dconst0 hp
                    generalize er60 : fmD_push_f (fm_u I 24 0 28 ((I 24 0 28) - 2)) J G t ((J 40 0 (((I 24 0 28) - 2).toNatClampNeg)) - (J 40 0 (((I 24 0 28) - 2).toNatClampNeg)) / (J 40 0 ((((I 24 0 28) - 2) + 1).toNatClampNeg)) * (J 40 0 ((((I 24 0 28) - 2) + 1).toNatClampNeg))) FP.dconst0 = r60 at he
                    have he := he.trans (fm_letE _ _)
                    rw [er60] at K
                    refine fm_cV0 O fmD_push_o (i := 0) (as := [.inl t, .inr (.inl ((J 40 0 (((I 24 0 28) - 2).toNatClampNeg)) - (J 40 0 (((I 24 0 28) - 2).toNatClampNeg)) / (J 40 0 ((((I 24 0 28) - 2) + 1).toNatClampNeg)) * (J 40 0 ((((I 24 0 28) - 2) + 1).toNatClampNeg)))), .inr (.inr (.inr (.inl FP.dconst0)))]) (rest := []) (v := none) rfl fk_6_172 rfl (by decide) fn_D_push (Nat.le_of_ble_eq_true rfl) (K) ?_
                    refine fm_gr O 1 (C' := (294, [(11, .inl (((J 40 0 ((((I 24 0 28) - 2) + 1).toNatClampNeg)).toInt32) &&& 63)), (9, .inr (.inr (.inr (.inl (G 41 0 ((((I 24 0 28) - 2) + 1).toNatClampNeg)))))), (7, .inr (.inr (.inr (.inl (G 41 0 (((I 24 0 28) - 2).toNatClampNeg)))))), (5, .inr (.inl (J 40 0 ((((I 24 0 28) - 2) + 1).toNatClampNeg)))), (3, .inr (.inl (J 40 0 (((I 24 0 28) - 2).toNatClampNeg)))), (0, .inr (.inr (.inr (.inr (24, 0))))), (1, .inl o), (2, .inl t)], [], (r60.1, r60.2.1, r60.2.2, fm_P pa pb))) rfl ?_
                    exact fm_gRe O rfl trivial (by first | (rw [he]; done) | (rw [he]; rfl) | rfl) (by first | (rw [he]; done) | (rw [he]; rfl) | rfl)
                  · have he := he.trans (if_neg h9)
                    have hp := hp.2 h9
                    by_cases h10 : o = 16
                    · have he := he.trans (if_pos h10)
                      have hp := hp.1 h10
                      refine fm_gs O 16 rfl (show o.toInt = 16 from by rw [h10]; decide) ?_
                      refine fm_gr O 6 (C' := (236, [(11, .inl (((J 40 0 ((((I 24 0 28) - 2) + 1).toNatClampNeg)).toInt32) &&& 63)), (9, .inr (.inr (.inr (.inl (G 41 0 ((((I 24 0 28) - 2) + 1).toNatClampNeg)))))), (7, .inr (.inr (.inr (.inl (G 41 0 (((I 24 0 28) - 2).toNatClampNeg)))))), (5, .inr (.inl (J 40 0 ((((I 24 0 28) - 2) + 1).toNatClampNeg)))), (3, .inr (.inl (J 40 0 (((I 24 0 28) - 2).toNatClampNeg)))), (0, .inr (.inr (.inr (.inr (24, 0))))), (1, .inl o), (2, .inl t)], [.inr (.inr (.inr (.inl FP.dconst0))), .inr (.inl ((J 40 0 (((I 24 0 28) - 2).toNatClampNeg)) &&& (J 40 0 ((((I 24 0 28) - 2) + 1).toNatClampNeg)))), .inl t, .inr (.inr (.inr (.inr (24, 0))))], (fm_u I 24 0 28 ((I 24 0 28) - 2), J, G, fm_P pa pb))) rfl ?_
                      have K := fmD_push_c (d := d) hl (by omega) (fm_u I 24 0 28 ((I 24 0 28) - 2)) J G pa pb t ((J 40 0 (((I 24 0 28) - 2).toNatClampNeg)) &&& (J 40 0 ((((I 24 0 28) - 2) + 1).toNatClampNeg))) FP.dconst0 hp
                      generalize er61 : fmD_push_f (fm_u I 24 0 28 ((I 24 0 28) - 2)) J G t ((J 40 0 (((I 24 0 28) - 2).toNatClampNeg)) &&& (J 40 0 ((((I 24 0 28) - 2) + 1).toNatClampNeg))) FP.dconst0 = r61 at he
                      have he := he.trans (fm_letE _ _)
                      rw [er61] at K
                      refine fm_cV0 O fmD_push_o (i := 0) (as := [.inl t, .inr (.inl ((J 40 0 (((I 24 0 28) - 2).toNatClampNeg)) &&& (J 40 0 ((((I 24 0 28) - 2) + 1).toNatClampNeg)))), .inr (.inr (.inr (.inl FP.dconst0)))]) (rest := []) (v := none) rfl fk_6_172 rfl (by decide) fn_D_push (Nat.le_of_ble_eq_true rfl) (K) ?_
                      refine fm_gr O 1 (C' := (294, [(11, .inl (((J 40 0 ((((I 24 0 28) - 2) + 1).toNatClampNeg)).toInt32) &&& 63)), (9, .inr (.inr (.inr (.inl (G 41 0 ((((I 24 0 28) - 2) + 1).toNatClampNeg)))))), (7, .inr (.inr (.inr (.inl (G 41 0 (((I 24 0 28) - 2).toNatClampNeg)))))), (5, .inr (.inl (J 40 0 ((((I 24 0 28) - 2) + 1).toNatClampNeg)))), (3, .inr (.inl (J 40 0 (((I 24 0 28) - 2).toNatClampNeg)))), (0, .inr (.inr (.inr (.inr (24, 0))))), (1, .inl o), (2, .inl t)], [], (r61.1, r61.2.1, r61.2.2, fm_P pa pb))) rfl ?_
                      exact fm_gRe O rfl trivial (by first | (rw [he]; done) | (rw [he]; rfl) | rfl) (by first | (rw [he]; done) | (rw [he]; rfl) | rfl)
                    · have he := he.trans (if_neg h10)
                      have hp := hp.2 h10
                      by_cases h11 : o = 17
                      · have he := he.trans (if_pos h11)
                        have hp := hp.1 h11
                        refine fm_gs O 17 rfl (show o.toInt = 17 from by rw [h11]; decide) ?_
                        refine fm_gr O 6 (C' := (249, [(11, .inl (((J 40 0 ((((I 24 0 28) - 2) + 1).toNatClampNeg)).toInt32) &&& 63)), (9, .inr (.inr (.inr (.inl (G 41 0 ((((I 24 0 28) - 2) + 1).toNatClampNeg)))))), (7, .inr (.inr (.inr (.inl (G 41 0 (((I 24 0 28) - 2).toNatClampNeg)))))), (5, .inr (.inl (J 40 0 ((((I 24 0 28) - 2) + 1).toNatClampNeg)))), (3, .inr (.inl (J 40 0 (((I 24 0 28) - 2).toNatClampNeg)))), (0, .inr (.inr (.inr (.inr (24, 0))))), (1, .inl o), (2, .inl t)], [.inr (.inr (.inr (.inl FP.dconst0))), .inr (.inl ((J 40 0 (((I 24 0 28) - 2).toNatClampNeg)) <<< ((((J 40 0 ((((I 24 0 28) - 2) + 1).toNatClampNeg)).toInt32) &&& 63).toInt64 &&& 63))), .inl t, .inr (.inr (.inr (.inr (24, 0))))], (fm_u I 24 0 28 ((I 24 0 28) - 2), J, G, fm_P pa pb))) rfl ?_
                        have K := fmD_push_c (d := d) hl (by omega) (fm_u I 24 0 28 ((I 24 0 28) - 2)) J G pa pb t ((J 40 0 (((I 24 0 28) - 2).toNatClampNeg)) <<< ((((J 40 0 ((((I 24 0 28) - 2) + 1).toNatClampNeg)).toInt32) &&& 63).toInt64 &&& 63)) FP.dconst0 hp
                        generalize er62 : fmD_push_f (fm_u I 24 0 28 ((I 24 0 28) - 2)) J G t ((J 40 0 (((I 24 0 28) - 2).toNatClampNeg)) <<< ((((J 40 0 ((((I 24 0 28) - 2) + 1).toNatClampNeg)).toInt32) &&& 63).toInt64 &&& 63)) FP.dconst0 = r62 at he
                        have he := he.trans (fm_letE _ _)
                        rw [er62] at K
                        refine fm_cV0 O fmD_push_o (i := 0) (as := [.inl t, .inr (.inl ((J 40 0 (((I 24 0 28) - 2).toNatClampNeg)) <<< ((((J 40 0 ((((I 24 0 28) - 2) + 1).toNatClampNeg)).toInt32) &&& 63).toInt64 &&& 63))), .inr (.inr (.inr (.inl FP.dconst0)))]) (rest := []) (v := none) rfl fk_6_172 rfl (by decide) fn_D_push (Nat.le_of_ble_eq_true rfl) (K) ?_
                        refine fm_gr O 1 (C' := (294, [(11, .inl (((J 40 0 ((((I 24 0 28) - 2) + 1).toNatClampNeg)).toInt32) &&& 63)), (9, .inr (.inr (.inr (.inl (G 41 0 ((((I 24 0 28) - 2) + 1).toNatClampNeg)))))), (7, .inr (.inr (.inr (.inl (G 41 0 (((I 24 0 28) - 2).toNatClampNeg)))))), (5, .inr (.inl (J 40 0 ((((I 24 0 28) - 2) + 1).toNatClampNeg)))), (3, .inr (.inl (J 40 0 (((I 24 0 28) - 2).toNatClampNeg)))), (0, .inr (.inr (.inr (.inr (24, 0))))), (1, .inl o), (2, .inl t)], [], (r62.1, r62.2.1, r62.2.2, fm_P pa pb))) rfl ?_
                        exact fm_gRe O rfl trivial (by first | (rw [he]; done) | (rw [he]; rfl) | rfl) (by first | (rw [he]; done) | (rw [he]; rfl) | rfl)
                      · have he := he.trans (if_neg h11)
                        have hp := hp.2 h11
                        by_cases h12 : o = 18
                        · have he := he.trans (if_pos h12)
                          have hp := hp.1 h12
                          refine fm_gs O 18 rfl (show o.toInt = 18 from by rw [h12]; decide) ?_
                          refine fm_gr O 5 (C' := (261, [(11, .inl (((J 40 0 ((((I 24 0 28) - 2) + 1).toNatClampNeg)).toInt32) &&& 63)), (9, .inr (.inr (.inr (.inl (G 41 0 ((((I 24 0 28) - 2) + 1).toNatClampNeg)))))), (7, .inr (.inr (.inr (.inl (G 41 0 (((I 24 0 28) - 2).toNatClampNeg)))))), (5, .inr (.inl (J 40 0 ((((I 24 0 28) - 2) + 1).toNatClampNeg)))), (3, .inr (.inl (J 40 0 (((I 24 0 28) - 2).toNatClampNeg)))), (0, .inr (.inr (.inr (.inr (24, 0))))), (1, .inl o), (2, .inl t)], [.inl (lg_cmp (J 40 0 (((I 24 0 28) - 2).toNatClampNeg)) (J 40 0 ((((I 24 0 28) - 2) + 1).toNatClampNeg))), .inl 0, .inr (.inr (.inr (.inr (24, 0))))], (fm_u I 24 0 28 ((I 24 0 28) - 2), J, G, fm_P pa pb))) rfl ?_
                          refine fm_gb O rfl (fun h => ?_) (fun h => ?_)
                          · have h13 : 0 ≤ (lg_cmp (J 40 0 (((I 24 0 28) - 2).toNatClampNeg)) (J 40 0 ((((I 24 0 28) - 2) + 1).toNatClampNeg))) := h
                            have he := he.trans (if_pos h13)
                            have hp := hp.1 h13
                            refine fm_gr O 2 (C' := (270, [(11, .inl (((J 40 0 ((((I 24 0 28) - 2) + 1).toNatClampNeg)).toInt32) &&& 63)), (9, .inr (.inr (.inr (.inl (G 41 0 ((((I 24 0 28) - 2) + 1).toNatClampNeg)))))), (7, .inr (.inr (.inr (.inl (G 41 0 (((I 24 0 28) - 2).toNatClampNeg)))))), (5, .inr (.inl (J 40 0 ((((I 24 0 28) - 2) + 1).toNatClampNeg)))), (3, .inr (.inl (J 40 0 (((I 24 0 28) - 2).toNatClampNeg)))), (0, .inr (.inr (.inr (.inr (24, 0))))), (1, .inl o), (2, .inl t)], [.inr (.inr (.inr (.inl FP.dconst0))), .inr (.inl 0), .inl 0, .inr (.inr (.inr (.inr (24, 0))))], (fm_u I 24 0 28 ((I 24 0 28) - 2), J, G, fm_P pa pb))) rfl ?_
                            have K := fmD_push_c (d := d) hl (by omega) (fm_u I 24 0 28 ((I 24 0 28) - 2)) J G pa pb 0 0 FP.dconst0 hp
                            generalize er63 : fmD_push_f (fm_u I 24 0 28 ((I 24 0 28) - 2)) J G 0 0 FP.dconst0 = r63 at he
                            have he := he.trans (fm_letE _ _)
                            rw [er63] at K
                            refine fm_cV0 O fmD_push_o (i := 0) (as := [.inl 0, .inr (.inl 0), .inr (.inr (.inr (.inl FP.dconst0)))]) (rest := []) (v := none) rfl fk_6_172 rfl (by decide) fn_D_push (Nat.le_of_ble_eq_true rfl) (K) ?_
                            refine fm_gr O 1 (C' := (294, [(11, .inl (((J 40 0 ((((I 24 0 28) - 2) + 1).toNatClampNeg)).toInt32) &&& 63)), (9, .inr (.inr (.inr (.inl (G 41 0 ((((I 24 0 28) - 2) + 1).toNatClampNeg)))))), (7, .inr (.inr (.inr (.inl (G 41 0 (((I 24 0 28) - 2).toNatClampNeg)))))), (5, .inr (.inl (J 40 0 ((((I 24 0 28) - 2) + 1).toNatClampNeg)))), (3, .inr (.inl (J 40 0 (((I 24 0 28) - 2).toNatClampNeg)))), (0, .inr (.inr (.inr (.inr (24, 0))))), (1, .inl o), (2, .inl t)], [], (r63.1, r63.2.1, r63.2.2, fm_P pa pb))) rfl ?_
                            exact fm_gRe O rfl trivial (by first | (rw [he]; done) | (rw [he]; rfl) | rfl) (by first | (rw [he]; done) | (rw [he]; rfl) | rfl)
                          · have h13 : ¬ 0 ≤ (lg_cmp (J 40 0 (((I 24 0 28) - 2).toNatClampNeg)) (J 40 0 ((((I 24 0 28) - 2) + 1).toNatClampNeg))) := h
                            have he := he.trans (if_neg h13)
                            have hp := hp.2 h13
                            refine fm_gr O 3 (C' := (270, [(11, .inl (((J 40 0 ((((I 24 0 28) - 2) + 1).toNatClampNeg)).toInt32) &&& 63)), (9, .inr (.inr (.inr (.inl (G 41 0 ((((I 24 0 28) - 2) + 1).toNatClampNeg)))))), (7, .inr (.inr (.inr (.inl (G 41 0 (((I 24 0 28) - 2).toNatClampNeg)))))), (5, .inr (.inl (J 40 0 ((((I 24 0 28) - 2) + 1).toNatClampNeg)))), (3, .inr (.inl (J 40 0 (((I 24 0 28) - 2).toNatClampNeg)))), (0, .inr (.inr (.inr (.inr (24, 0))))), (1, .inl o), (2, .inl t)], [.inr (.inr (.inr (.inl FP.dconst0))), .inr (.inl 1), .inl 0, .inr (.inr (.inr (.inr (24, 0))))], (fm_u I 24 0 28 ((I 24 0 28) - 2), J, G, fm_P pa pb))) rfl ?_
                            have K := fmD_push_c (d := d) hl (by omega) (fm_u I 24 0 28 ((I 24 0 28) - 2)) J G pa pb 0 1 FP.dconst0 hp
                            generalize er64 : fmD_push_f (fm_u I 24 0 28 ((I 24 0 28) - 2)) J G 0 1 FP.dconst0 = r64 at he
                            have he := he.trans (fm_letE _ _)
                            rw [er64] at K
                            refine fm_cV0 O fmD_push_o (i := 0) (as := [.inl 0, .inr (.inl 1), .inr (.inr (.inr (.inl FP.dconst0)))]) (rest := []) (v := none) rfl fk_6_172 rfl (by decide) fn_D_push (Nat.le_of_ble_eq_true rfl) (K) ?_
                            refine fm_gr O 1 (C' := (294, [(11, .inl (((J 40 0 ((((I 24 0 28) - 2) + 1).toNatClampNeg)).toInt32) &&& 63)), (9, .inr (.inr (.inr (.inl (G 41 0 ((((I 24 0 28) - 2) + 1).toNatClampNeg)))))), (7, .inr (.inr (.inr (.inl (G 41 0 (((I 24 0 28) - 2).toNatClampNeg)))))), (5, .inr (.inl (J 40 0 ((((I 24 0 28) - 2) + 1).toNatClampNeg)))), (3, .inr (.inl (J 40 0 (((I 24 0 28) - 2).toNatClampNeg)))), (0, .inr (.inr (.inr (.inr (24, 0))))), (1, .inl o), (2, .inl t)], [], (r64.1, r64.2.1, r64.2.2, fm_P pa pb))) rfl ?_
                            exact fm_gRe O rfl trivial (by first | (rw [he]; done) | (rw [he]; rfl) | rfl) (by first | (rw [he]; done) | (rw [he]; rfl) | rfl)
                        · have he := he.trans (if_neg h12)
                          have hp := hp.2 h12
                          refine fm_gt O rfl (by
                              show o.toInt < 11 ∨ 18 < o.toInt
                              have := lv_neT h5 (show (11 : Int32).toInt = 11 from by decide)
                              have := lv_neT h6 (show (12 : Int32).toInt = 12 from by decide)
                              have := lv_neT h7 (show (13 : Int32).toInt = 13 from by decide)
                              have := lv_neT h8 (show (14 : Int32).toInt = 14 from by decide)
                              have := lv_neT h9 (show (15 : Int32).toInt = 15 from by decide)
                              have := lv_neT h10 (show (16 : Int32).toInt = 16 from by decide)
                              have := lv_neT h11 (show (17 : Int32).toInt = 17 from by decide)
                              have := lv_neT h12 (show (18 : Int32).toInt = 18 from by decide)
                              omega) ?_
                          refine fm_gr O 5 (C' := (282, [(11, .inl (((J 40 0 ((((I 24 0 28) - 2) + 1).toNatClampNeg)).toInt32) &&& 63)), (9, .inr (.inr (.inr (.inl (G 41 0 ((((I 24 0 28) - 2) + 1).toNatClampNeg)))))), (7, .inr (.inr (.inr (.inl (G 41 0 (((I 24 0 28) - 2).toNatClampNeg)))))), (5, .inr (.inl (J 40 0 ((((I 24 0 28) - 2) + 1).toNatClampNeg)))), (3, .inr (.inl (J 40 0 (((I 24 0 28) - 2).toNatClampNeg)))), (0, .inr (.inr (.inr (.inr (24, 0))))), (1, .inl o), (2, .inl t)], [.inl (lg_cmp (J 40 0 (((I 24 0 28) - 2).toNatClampNeg)) (J 40 0 ((((I 24 0 28) - 2) + 1).toNatClampNeg))), .inl 0, .inr (.inr (.inr (.inr (24, 0))))], (fm_u I 24 0 28 ((I 24 0 28) - 2), J, G, fm_P pa pb))) rfl ?_
                          refine fm_gb O rfl (fun h => ?_) (fun h => ?_)
                          · have h13 : (lg_cmp (J 40 0 (((I 24 0 28) - 2).toNatClampNeg)) (J 40 0 ((((I 24 0 28) - 2) + 1).toNatClampNeg))) = 0 := h
                            have he := he.trans (if_pos h13)
                            have hp := hp.1 h13
                            refine fm_gr O 3 (C' := (291, [(11, .inl (((J 40 0 ((((I 24 0 28) - 2) + 1).toNatClampNeg)).toInt32) &&& 63)), (9, .inr (.inr (.inr (.inl (G 41 0 ((((I 24 0 28) - 2) + 1).toNatClampNeg)))))), (7, .inr (.inr (.inr (.inl (G 41 0 (((I 24 0 28) - 2).toNatClampNeg)))))), (5, .inr (.inl (J 40 0 ((((I 24 0 28) - 2) + 1).toNatClampNeg)))), (3, .inr (.inl (J 40 0 (((I 24 0 28) - 2).toNatClampNeg)))), (0, .inr (.inr (.inr (.inr (24, 0))))), (1, .inl o), (2, .inl t)], [.inr (.inr (.inr (.inl FP.dconst0))), .inr (.inl 1), .inl 0, .inr (.inr (.inr (.inr (24, 0))))], (fm_u I 24 0 28 ((I 24 0 28) - 2), J, G, fm_P pa pb))) rfl ?_
                            have K := fmD_push_c (d := d) hl (by omega) (fm_u I 24 0 28 ((I 24 0 28) - 2)) J G pa pb 0 1 FP.dconst0 hp
                            generalize er65 : fmD_push_f (fm_u I 24 0 28 ((I 24 0 28) - 2)) J G 0 1 FP.dconst0 = r65 at he
                            have he := he.trans (fm_letE _ _)
                            rw [er65] at K
                            refine fm_cV0 O fmD_push_o (i := 0) (as := [.inl 0, .inr (.inl 1), .inr (.inr (.inr (.inl FP.dconst0)))]) (rest := []) (v := none) rfl fk_6_172 rfl (by decide) fn_D_push (Nat.le_of_ble_eq_true rfl) (K) ?_
                            exact fm_gRe O rfl trivial (by first | (rw [he]; done) | (rw [he]; rfl) | rfl) (by first | (rw [he]; done) | (rw [he]; rfl) | rfl)
                          · have h13 : ¬ (lg_cmp (J 40 0 (((I 24 0 28) - 2).toNatClampNeg)) (J 40 0 ((((I 24 0 28) - 2) + 1).toNatClampNeg))) = 0 := h
                            have he := he.trans (if_neg h13)
                            have hp := hp.2 h13
                            refine fm_gr O 2 (C' := (291, [(11, .inl (((J 40 0 ((((I 24 0 28) - 2) + 1).toNatClampNeg)).toInt32) &&& 63)), (9, .inr (.inr (.inr (.inl (G 41 0 ((((I 24 0 28) - 2) + 1).toNatClampNeg)))))), (7, .inr (.inr (.inr (.inl (G 41 0 (((I 24 0 28) - 2).toNatClampNeg)))))), (5, .inr (.inl (J 40 0 ((((I 24 0 28) - 2) + 1).toNatClampNeg)))), (3, .inr (.inl (J 40 0 (((I 24 0 28) - 2).toNatClampNeg)))), (0, .inr (.inr (.inr (.inr (24, 0))))), (1, .inl o), (2, .inl t)], [.inr (.inr (.inr (.inl FP.dconst0))), .inr (.inl 0), .inl 0, .inr (.inr (.inr (.inr (24, 0))))], (fm_u I 24 0 28 ((I 24 0 28) - 2), J, G, fm_P pa pb))) rfl ?_
                            have K := fmD_push_c (d := d) hl (by omega) (fm_u I 24 0 28 ((I 24 0 28) - 2)) J G pa pb 0 0 FP.dconst0 hp
                            generalize er66 : fmD_push_f (fm_u I 24 0 28 ((I 24 0 28) - 2)) J G 0 0 FP.dconst0 = r66 at he
                            have he := he.trans (fm_letE _ _)
                            rw [er66] at K
                            refine fm_cV0 O fmD_push_o (i := 0) (as := [.inl 0, .inr (.inl 0), .inr (.inr (.inr (.inl FP.dconst0)))]) (rest := []) (v := none) rfl fk_6_172 rfl (by decide) fn_D_push (Nat.le_of_ble_eq_true rfl) (K) ?_
                            exact fm_gRe O rfl trivial (by first | (rw [he]; done) | (rw [he]; rfl) | rfl) (by first | (rw [he]; done) | (rw [he]; rfl) | rfl)
  · have h1 : ¬ t ≤ 1 := h
    have he := he.trans (if_neg h1)
    have hp := hp.2 h1
    refine fm_gr O 5 (C' := (69, [(9, .inr (.inr (.inr (.inl (G 41 0 ((((I 24 0 28) - 2) + 1).toNatClampNeg)))))), (7, .inr (.inr (.inr (.inl (G 41 0 (((I 24 0 28) - 2).toNatClampNeg)))))), (5, .inr (.inl (J 40 0 ((((I 24 0 28) - 2) + 1).toNatClampNeg)))), (3, .inr (.inl (J 40 0 (((I 24 0 28) - 2).toNatClampNeg)))), (0, .inr (.inr (.inr (.inr (24, 0))))), (1, .inl o), (2, .inl t)], [.inr (.inr (.inr (.inl (G 41 0 ((((I 24 0 28) - 2) + 1).toNatClampNeg))))), .inr (.inr (.inr (.inl (G 41 0 (((I 24 0 28) - 2).toNatClampNeg))))), .inl t, .inl o, .inr (.inr (.inr (.inr (24, 0))))], (fm_u I 24 0 28 ((I 24 0 28) - 2), J, G, fm_P pa pb))) rfl ?_
    have K := fmD_fractions_c (d := d) hl (by omega) (fm_u I 24 0 28 ((I 24 0 28) - 2)) J G pa pb o t (G 41 0 (((I 24 0 28) - 2).toNatClampNeg)) (G 41 0 ((((I 24 0 28) - 2) + 1).toNatClampNeg)) hp
    generalize er67 : fmD_fractions_f (fm_u I 24 0 28 ((I 24 0 28) - 2)) J G o t (G 41 0 (((I 24 0 28) - 2).toNatClampNeg)) (G 41 0 ((((I 24 0 28) - 2) + 1).toNatClampNeg)) = r67 at he
    have he := he.trans (fm_letE _ _)
    rw [er67] at K
    refine fm_cV0 O fmD_fractions_o (i := 0) (as := [.inl o, .inl t, .inr (.inr (.inr (.inl (G 41 0 (((I 24 0 28) - 2).toNatClampNeg))))), .inr (.inr (.inr (.inl (G 41 0 ((((I 24 0 28) - 2) + 1).toNatClampNeg)))))]) (rest := []) (v := none) rfl fk_6_168 rfl (by decide) fn_D_fractions (Nat.le_of_ble_eq_true rfl) (K) ?_
    exact fm_gRe O rfl trivial (by first | (rw [he]; done) | (rw [he]; rfl) | rfl) (by first | (rw [he]; done) | (rw [he]; rfl) | rfl)
def fmD_convert_f (I : fm_MI) (J : fm_MJ) (G : fm_MG) (fro : Int32) (tou : Int32) : fm_MI × fm_MJ × fm_MG :=
  if 2 ≤ tou then (if fro ≤ 1 then (if tou = 2 then (fm_let (fmD_large_f (FP.f2d (FP.l2f (J 40 0 (((I 24 0 28) - 1).toNatClampNeg))))) (fun (r1 : Int32) => if r1 = 0 then (fm_let (fmD_push_f (fm_u I 24 0 28 ((I 24 0 28) - 1)) J G tou 0 (FP.f2d (FP.l2f (J 40 0 (((I 24 0 28) - 1).toNatClampNeg))))) (fun (r2 : fm_MI × fm_MJ × fm_MG) => (r2.1, r2.2.1, r2.2.2))) else ((fm_u (fm_u I 24 0 28 ((I 24 0 28) - 1)) 24 0 18 3, J, G)))) else (fm_let (fmD_large_f (FP.l2d (J 40 0 (((I 24 0 28) - 1).toNatClampNeg)))) (fun (r3 : Int32) => if r3 = 0 then (fm_let (fmD_push_f (fm_u I 24 0 28 ((I 24 0 28) - 1)) J G tou 0 (FP.l2d (J 40 0 (((I 24 0 28) - 1).toNatClampNeg)))) (fun (r4 : fm_MI × fm_MJ × fm_MG) => (r4.1, r4.2.1, r4.2.2))) else ((fm_u (fm_u I 24 0 28 ((I 24 0 28) - 1)) 24 0 18 3, J, G))))) else (if tou = 2 then (fm_let (fmD_large_f (FP.f2d (FP.d2f (G 41 0 (((I 24 0 28) - 1).toNatClampNeg))))) (fun (r5 : Int32) => if r5 = 0 then (fm_let (fmD_push_f (fm_u I 24 0 28 ((I 24 0 28) - 1)) J G tou 0 (FP.f2d (FP.d2f (G 41 0 (((I 24 0 28) - 1).toNatClampNeg))))) (fun (r6 : fm_MI × fm_MJ × fm_MG) => (r6.1, r6.2.1, r6.2.2))) else ((fm_u (fm_u I 24 0 28 ((I 24 0 28) - 1)) 24 0 18 3, J, G)))) else (fm_let (fmD_large_f (G 41 0 (((I 24 0 28) - 1).toNatClampNeg))) (fun (r7 : Int32) => if r7 = 0 then (fm_let (fmD_push_f (fm_u I 24 0 28 ((I 24 0 28) - 1)) J G tou 0 (G 41 0 (((I 24 0 28) - 1).toNatClampNeg))) (fun (r8 : fm_MI × fm_MJ × fm_MG) => (r8.1, r8.2.1, r8.2.2))) else ((fm_u (fm_u I 24 0 28 ((I 24 0 28) - 1)) 24 0 18 3, J, G)))))) else (if 2 ≤ fro then (if tou = 0 then (fm_let (fmD_push_f (fm_u I 24 0 28 ((I 24 0 28) - 1)) J G tou ((FP.d2i (G 41 0 (((I 24 0 28) - 1).toNatClampNeg))).toInt64) FP.dconst0) (fun (r9 : fm_MI × fm_MJ × fm_MG) => (r9.1, r9.2.1, r9.2.2))) else (fm_let (fmD_push_f (fm_u I 24 0 28 ((I 24 0 28) - 1)) J G tou (FP.d2l (G 41 0 (((I 24 0 28) - 1).toNatClampNeg))) FP.dconst0) (fun (r10 : fm_MI × fm_MJ × fm_MG) => (r10.1, r10.2.1, r10.2.2)))) else (fm_let (fmD_push_f (fm_u I 24 0 28 ((I 24 0 28) - 1)) J G tou (J 40 0 (((I 24 0 28) - 1).toNatClampNeg)) FP.dconst0) (fun (r11 : fm_MI × fm_MJ × fm_MG) => (r11.1, r11.2.1, r11.2.2))))
theorem fmD_convert_e (I : fm_MI) (J : fm_MJ) (G : fm_MG) (fro : Int32) (tou : Int32) : fmD_convert_f I J G fro tou = if 2 ≤ tou then (if fro ≤ 1 then (if tou = 2 then (fm_let (fmD_large_f (FP.f2d (FP.l2f (J 40 0 (((I 24 0 28) - 1).toNatClampNeg))))) (fun (r1 : Int32) => if r1 = 0 then (fm_let (fmD_push_f (fm_u I 24 0 28 ((I 24 0 28) - 1)) J G tou 0 (FP.f2d (FP.l2f (J 40 0 (((I 24 0 28) - 1).toNatClampNeg))))) (fun (r2 : fm_MI × fm_MJ × fm_MG) => (r2.1, r2.2.1, r2.2.2))) else ((fm_u (fm_u I 24 0 28 ((I 24 0 28) - 1)) 24 0 18 3, J, G)))) else (fm_let (fmD_large_f (FP.l2d (J 40 0 (((I 24 0 28) - 1).toNatClampNeg)))) (fun (r3 : Int32) => if r3 = 0 then (fm_let (fmD_push_f (fm_u I 24 0 28 ((I 24 0 28) - 1)) J G tou 0 (FP.l2d (J 40 0 (((I 24 0 28) - 1).toNatClampNeg)))) (fun (r4 : fm_MI × fm_MJ × fm_MG) => (r4.1, r4.2.1, r4.2.2))) else ((fm_u (fm_u I 24 0 28 ((I 24 0 28) - 1)) 24 0 18 3, J, G))))) else (if tou = 2 then (fm_let (fmD_large_f (FP.f2d (FP.d2f (G 41 0 (((I 24 0 28) - 1).toNatClampNeg))))) (fun (r5 : Int32) => if r5 = 0 then (fm_let (fmD_push_f (fm_u I 24 0 28 ((I 24 0 28) - 1)) J G tou 0 (FP.f2d (FP.d2f (G 41 0 (((I 24 0 28) - 1).toNatClampNeg))))) (fun (r6 : fm_MI × fm_MJ × fm_MG) => (r6.1, r6.2.1, r6.2.2))) else ((fm_u (fm_u I 24 0 28 ((I 24 0 28) - 1)) 24 0 18 3, J, G)))) else (fm_let (fmD_large_f (G 41 0 (((I 24 0 28) - 1).toNatClampNeg))) (fun (r7 : Int32) => if r7 = 0 then (fm_let (fmD_push_f (fm_u I 24 0 28 ((I 24 0 28) - 1)) J G tou 0 (G 41 0 (((I 24 0 28) - 1).toNatClampNeg))) (fun (r8 : fm_MI × fm_MJ × fm_MG) => (r8.1, r8.2.1, r8.2.2))) else ((fm_u (fm_u I 24 0 28 ((I 24 0 28) - 1)) 24 0 18 3, J, G)))))) else (if 2 ≤ fro then (if tou = 0 then (fm_let (fmD_push_f (fm_u I 24 0 28 ((I 24 0 28) - 1)) J G tou ((FP.d2i (G 41 0 (((I 24 0 28) - 1).toNatClampNeg))).toInt64) FP.dconst0) (fun (r9 : fm_MI × fm_MJ × fm_MG) => (r9.1, r9.2.1, r9.2.2))) else (fm_let (fmD_push_f (fm_u I 24 0 28 ((I 24 0 28) - 1)) J G tou (FP.d2l (G 41 0 (((I 24 0 28) - 1).toNatClampNeg))) FP.dconst0) (fun (r10 : fm_MI × fm_MJ × fm_MG) => (r10.1, r10.2.1, r10.2.2)))) else (fm_let (fmD_push_f (fm_u I 24 0 28 ((I 24 0 28) - 1)) J G tou (J 40 0 (((I 24 0 28) - 1).toNatClampNeg)) FP.dconst0) (fun (r11 : fm_MI × fm_MJ × fm_MG) => (r11.1, r11.2.1, r11.2.2)))) := rfl
def fmD_convert_p (I : fm_MI) (J : fm_MJ) (G : fm_MG) (fro : Int32) (tou : Int32) : Prop :=
  (vp_in ((I 24 0 28) - 1) 260) ∧ ((vp_in ((I 24 0 28) - 1) 260) ∧ ((2 ≤ tou → (fro ≤ 1 → (tou = 2 → (vf_n64 (FP.f2d (FP.l2f (J 40 0 (((I 24 0 28) - 1).toNatClampNeg))))) ∧ (fm_let (fmD_large_f (FP.f2d (FP.l2f (J 40 0 (((I 24 0 28) - 1).toNatClampNeg))))) (fun (r1 : Int32) => (r1 = 0 → fmD_push_p (fm_u I 24 0 28 ((I 24 0 28) - 1)) tou (FP.f2d (FP.l2f (J 40 0 (((I 24 0 28) - 1).toNatClampNeg))))) ∧ (¬ r1 = 0 → True)))) ∧ (¬ tou = 2 → fm_let (fmD_large_f (FP.l2d (J 40 0 (((I 24 0 28) - 1).toNatClampNeg)))) (fun (r3 : Int32) => (r3 = 0 → fmD_push_p (fm_u I 24 0 28 ((I 24 0 28) - 1)) tou (FP.l2d (J 40 0 (((I 24 0 28) - 1).toNatClampNeg)))) ∧ (¬ r3 = 0 → True)))) ∧ (¬ fro ≤ 1 → (tou = 2 → (vf_n32 (FP.d2f (G 41 0 (((I 24 0 28) - 1).toNatClampNeg)))) ∧ ((vf_n64 (FP.f2d (FP.d2f (G 41 0 (((I 24 0 28) - 1).toNatClampNeg))))) ∧ (fm_let (fmD_large_f (FP.f2d (FP.d2f (G 41 0 (((I 24 0 28) - 1).toNatClampNeg))))) (fun (r5 : Int32) => (r5 = 0 → fmD_push_p (fm_u I 24 0 28 ((I 24 0 28) - 1)) tou (FP.f2d (FP.d2f (G 41 0 (((I 24 0 28) - 1).toNatClampNeg))))) ∧ (¬ r5 = 0 → True))))) ∧ (¬ tou = 2 → fm_let (fmD_large_f (G 41 0 (((I 24 0 28) - 1).toNatClampNeg))) (fun (r7 : Int32) => (r7 = 0 → fmD_push_p (fm_u I 24 0 28 ((I 24 0 28) - 1)) tou (G 41 0 (((I 24 0 28) - 1).toNatClampNeg))) ∧ (¬ r7 = 0 → True))))) ∧ (¬ 2 ≤ tou → (2 ≤ fro → (tou = 0 → fmD_push_p (fm_u I 24 0 28 ((I 24 0 28) - 1)) tou FP.dconst0) ∧ (¬ tou = 0 → fmD_push_p (fm_u I 24 0 28 ((I 24 0 28) - 1)) tou FP.dconst0)) ∧ (¬ 2 ≤ fro → fmD_push_p (fm_u I 24 0 28 ((I 24 0 28) - 1)) tou FP.dconst0))))
set_option maxRecDepth 100000 in
set_option maxHeartbeats 4000000 in
theorem fmD_convert_c {E : fm_Ev} (hl : E.1.stackTraces = false) {d : Nat} (hd : 1 ≤ d) (I : fm_MI) (J : fm_MJ) (G : fm_MG) (pa : Nat × Nat) (pb : Nat × Nat) (fro : Int32) (tou : Int32) (hp : fmD_convert_p I J G fro tou) : fm_Ct E d fmD_convert 0 [.inr (.inr (.inr (.inr (24, 0)))), .inl fro, .inl tou] (I, J, G, fm_P pa pb) none ((fmD_convert_f I J G fro tou).1, (fmD_convert_f I J G fro tou).2.1, (fmD_convert_f I J G fro tou).2.2, fm_P pa pb) := by
  obtain ⟨d, rfl⟩ : ∃ d', d = d' + 1 := ⟨d - 1, by omega⟩
  refine fm_ct fmD_convert_o hl (Nat.le_of_ble_eq_true rfl) ?_
  have O := fmD_convert_o.1
  unfold fmD_convert_p at hp
  have he := fmD_convert_e I J G fro tou
  refine fm_gr O 10 (C' := (18, [(0, .inr (.inr (.inr (.inr (24, 0))))), (1, .inl fro), (2, .inl tou)], [.inl ((I 24 0 28) - 1), .inr (.inr (.inr (.inr (40, 0))))], (fm_u I 24 0 28 ((I 24 0 28) - 1), J, G, fm_P pa pb))) rfl ?_
  refine fm_gg O rfl hp.1 ?_
  have hp := hp.2
  refine fm_gr O 5 (C' := (28, [(3, .inr (.inl (J 40 0 (((I 24 0 28) - 1).toNatClampNeg)))), (0, .inr (.inr (.inr (.inr (24, 0))))), (1, .inl fro), (2, .inl tou)], [.inl ((I 24 0 28) - 1), .inr (.inr (.inr (.inr (41, 0))))], (fm_u I 24 0 28 ((I 24 0 28) - 1), J, G, fm_P pa pb))) rfl ?_
  refine fm_gg O rfl hp.1 ?_
  have hp := hp.2
  refine fm_gr O 3 (C' := (33, [(5, .inr (.inr (.inr (.inl (G 41 0 (((I 24 0 28) - 1).toNatClampNeg)))))), (3, .inr (.inl (J 40 0 (((I 24 0 28) - 1).toNatClampNeg)))), (0, .inr (.inr (.inr (.inr (24, 0))))), (1, .inl fro), (2, .inl tou)], [.inl 2, .inl tou], (fm_u I 24 0 28 ((I 24 0 28) - 1), J, G, fm_P pa pb))) rfl ?_
  refine fm_gb O rfl (fun h => ?_) (fun h => ?_)
  · have h1 : 2 ≤ tou := h
    have he := he.trans (if_pos h1)
    have hp := hp.1 h1
    refine fm_gr O 2 (C' := (74, [(5, .inr (.inr (.inr (.inl (G 41 0 (((I 24 0 28) - 1).toNatClampNeg)))))), (3, .inr (.inl (J 40 0 (((I 24 0 28) - 1).toNatClampNeg)))), (0, .inr (.inr (.inr (.inr (24, 0))))), (1, .inl fro), (2, .inl tou)], [.inl 1, .inl fro], (fm_u I 24 0 28 ((I 24 0 28) - 1), J, G, fm_P pa pb))) rfl ?_
    refine fm_gb O rfl (fun h => ?_) (fun h => ?_)
    · have h2 : fro ≤ 1 := h
      have he := he.trans (if_pos h2)
      have hp := hp.1 h2
      refine fm_gr O 2 (C' := (96, [(5, .inr (.inr (.inr (.inl (G 41 0 (((I 24 0 28) - 1).toNatClampNeg)))))), (3, .inr (.inl (J 40 0 (((I 24 0 28) - 1).toNatClampNeg)))), (0, .inr (.inr (.inr (.inr (24, 0))))), (1, .inl fro), (2, .inl tou)], [.inl 2, .inl tou], (fm_u I 24 0 28 ((I 24 0 28) - 1), J, G, fm_P pa pb))) rfl ?_
      refine fm_gb O rfl (fun h => ?_) (fun h => ?_)
      · have h3 : tou = 2 := h
        have he := he.trans (if_pos h3)
        have hp := hp.1 h3
        refine fm_gr O 2 (C' := (101, [(5, .inr (.inr (.inr (.inl (G 41 0 (((I 24 0 28) - 1).toNatClampNeg)))))), (3, .inr (.inl (J 40 0 (((I 24 0 28) - 1).toNatClampNeg)))), (0, .inr (.inr (.inr (.inr (24, 0))))), (1, .inl fro), (2, .inl tou)], [.inr (.inr (.inl (FP.l2f (J 40 0 (((I 24 0 28) - 1).toNatClampNeg)))))], (fm_u I 24 0 28 ((I 24 0 28) - 1), J, G, fm_P pa pb))) rfl ?_
        refine fm_gg O rfl hp.1 ?_
        have hp := hp.2
        refine fm_gr O 3 (C' := (111, [(7, .inr (.inr (.inr (.inl (FP.f2d (FP.l2f (J 40 0 (((I 24 0 28) - 1).toNatClampNeg)))))))), (5, .inr (.inr (.inr (.inl (G 41 0 (((I 24 0 28) - 1).toNatClampNeg)))))), (3, .inr (.inl (J 40 0 (((I 24 0 28) - 1).toNatClampNeg)))), (0, .inr (.inr (.inr (.inr (24, 0))))), (1, .inl fro), (2, .inl tou)], [.inr (.inr (.inr (.inl (FP.f2d (FP.l2f (J 40 0 (((I 24 0 28) - 1).toNatClampNeg)))))))], (fm_u I 24 0 28 ((I 24 0 28) - 1), J, G, fm_P pa pb))) rfl ?_
        have K := fmD_large_c (d := d) hl (by omega) (fm_u I 24 0 28 ((I 24 0 28) - 1)) J G pa pb (FP.f2d (FP.l2f (J 40 0 (((I 24 0 28) - 1).toNatClampNeg))))
        generalize er1 : fmD_large_f (FP.f2d (FP.l2f (J 40 0 (((I 24 0 28) - 1).toNatClampNeg)))) = r1 at he hp
        have he := he.trans (fm_letE _ _)
        have hp := fm_letP hp
        rw [er1] at K
        refine fm_cS0 O fmD_large_o (as := [.inr (.inr (.inr (.inl (FP.f2d (FP.l2f (J 40 0 (((I 24 0 28) - 1).toNatClampNeg)))))))]) (rest := []) (v := some (.inl r1)) rfl fk_6_180 fn_D_large (Nat.le_of_ble_eq_true rfl) (K) ?_
        refine fm_gb O rfl (fun h => ?_) (fun h => ?_)
        · have h4 : r1 = 0 := h
          have he := he.trans (if_pos h4)
          have hp := hp.1 h4
          refine fm_gr O 4 (C' := (130, [(7, .inr (.inr (.inr (.inl (FP.f2d (FP.l2f (J 40 0 (((I 24 0 28) - 1).toNatClampNeg)))))))), (5, .inr (.inr (.inr (.inl (G 41 0 (((I 24 0 28) - 1).toNatClampNeg)))))), (3, .inr (.inl (J 40 0 (((I 24 0 28) - 1).toNatClampNeg)))), (0, .inr (.inr (.inr (.inr (24, 0))))), (1, .inl fro), (2, .inl tou)], [.inr (.inr (.inr (.inl (FP.f2d (FP.l2f (J 40 0 (((I 24 0 28) - 1).toNatClampNeg))))))), .inr (.inl 0), .inl tou, .inr (.inr (.inr (.inr (24, 0))))], (fm_u I 24 0 28 ((I 24 0 28) - 1), J, G, fm_P pa pb))) rfl ?_
          have K := fmD_push_c (d := d) hl (by omega) (fm_u I 24 0 28 ((I 24 0 28) - 1)) J G pa pb tou 0 (FP.f2d (FP.l2f (J 40 0 (((I 24 0 28) - 1).toNatClampNeg)))) hp
          generalize er2 : fmD_push_f (fm_u I 24 0 28 ((I 24 0 28) - 1)) J G tou 0 (FP.f2d (FP.l2f (J 40 0 (((I 24 0 28) - 1).toNatClampNeg)))) = r2 at he
          have he := he.trans (fm_letE _ _)
          rw [er2] at K
          refine fm_cV0 O fmD_push_o (i := 0) (as := [.inl tou, .inr (.inl 0), .inr (.inr (.inr (.inl (FP.f2d (FP.l2f (J 40 0 (((I 24 0 28) - 1).toNatClampNeg)))))))]) (rest := []) (v := none) rfl fk_6_172 rfl (by decide) fn_D_push (Nat.le_of_ble_eq_true rfl) (K) ?_
          exact fm_gRe O rfl trivial (by first | (rw [he]; done) | (rw [he]; rfl) | rfl) (by first | (rw [he]; done) | (rw [he]; rfl) | rfl)
        · have h4 : ¬ r1 = 0 := h
          have he := he.trans (if_neg h4)
          refine fm_gr O 4 (C' := (133, [(7, .inr (.inr (.inr (.inl (FP.f2d (FP.l2f (J 40 0 (((I 24 0 28) - 1).toNatClampNeg)))))))), (5, .inr (.inr (.inr (.inl (G 41 0 (((I 24 0 28) - 1).toNatClampNeg)))))), (3, .inr (.inl (J 40 0 (((I 24 0 28) - 1).toNatClampNeg)))), (0, .inr (.inr (.inr (.inr (24, 0))))), (1, .inl fro), (2, .inl tou)], [], (fm_u (fm_u I 24 0 28 ((I 24 0 28) - 1)) 24 0 18 3, J, G, fm_P pa pb))) rfl ?_
          exact fm_gRe O rfl trivial (by first | (rw [he]; done) | (rw [he]; rfl) | rfl) (by first | (rw [he]; done) | (rw [he]; rfl) | rfl)
      · have h3 : ¬ tou = 2 := h
        have he := he.trans (if_neg h3)
        have hp := hp.2 h3
        refine fm_gr O 4 (C' := (111, [(7, .inr (.inr (.inr (.inl (FP.l2d (J 40 0 (((I 24 0 28) - 1).toNatClampNeg))))))), (5, .inr (.inr (.inr (.inl (G 41 0 (((I 24 0 28) - 1).toNatClampNeg)))))), (3, .inr (.inl (J 40 0 (((I 24 0 28) - 1).toNatClampNeg)))), (0, .inr (.inr (.inr (.inr (24, 0))))), (1, .inl fro), (2, .inl tou)], [.inr (.inr (.inr (.inl (FP.l2d (J 40 0 (((I 24 0 28) - 1).toNatClampNeg))))))], (fm_u I 24 0 28 ((I 24 0 28) - 1), J, G, fm_P pa pb))) rfl ?_
        have K := fmD_large_c (d := d) hl (by omega) (fm_u I 24 0 28 ((I 24 0 28) - 1)) J G pa pb (FP.l2d (J 40 0 (((I 24 0 28) - 1).toNatClampNeg)))
        generalize er3 : fmD_large_f (FP.l2d (J 40 0 (((I 24 0 28) - 1).toNatClampNeg))) = r3 at he hp
        have he := he.trans (fm_letE _ _)
        have hp := fm_letP hp
        rw [er3] at K
        refine fm_cS0 O fmD_large_o (as := [.inr (.inr (.inr (.inl (FP.l2d (J 40 0 (((I 24 0 28) - 1).toNatClampNeg))))))]) (rest := []) (v := some (.inl r3)) rfl fk_6_180 fn_D_large (Nat.le_of_ble_eq_true rfl) (K) ?_
        refine fm_gb O rfl (fun h => ?_) (fun h => ?_)
        · have h4 : r3 = 0 := h
          have he := he.trans (if_pos h4)
          have hp := hp.1 h4
          refine fm_gr O 4 (C' := (130, [(7, .inr (.inr (.inr (.inl (FP.l2d (J 40 0 (((I 24 0 28) - 1).toNatClampNeg))))))), (5, .inr (.inr (.inr (.inl (G 41 0 (((I 24 0 28) - 1).toNatClampNeg)))))), (3, .inr (.inl (J 40 0 (((I 24 0 28) - 1).toNatClampNeg)))), (0, .inr (.inr (.inr (.inr (24, 0))))), (1, .inl fro), (2, .inl tou)], [.inr (.inr (.inr (.inl (FP.l2d (J 40 0 (((I 24 0 28) - 1).toNatClampNeg)))))), .inr (.inl 0), .inl tou, .inr (.inr (.inr (.inr (24, 0))))], (fm_u I 24 0 28 ((I 24 0 28) - 1), J, G, fm_P pa pb))) rfl ?_
          have K := fmD_push_c (d := d) hl (by omega) (fm_u I 24 0 28 ((I 24 0 28) - 1)) J G pa pb tou 0 (FP.l2d (J 40 0 (((I 24 0 28) - 1).toNatClampNeg))) hp
          generalize er4 : fmD_push_f (fm_u I 24 0 28 ((I 24 0 28) - 1)) J G tou 0 (FP.l2d (J 40 0 (((I 24 0 28) - 1).toNatClampNeg))) = r4 at he
          have he := he.trans (fm_letE _ _)
          rw [er4] at K
          refine fm_cV0 O fmD_push_o (i := 0) (as := [.inl tou, .inr (.inl 0), .inr (.inr (.inr (.inl (FP.l2d (J 40 0 (((I 24 0 28) - 1).toNatClampNeg))))))]) (rest := []) (v := none) rfl fk_6_172 rfl (by decide) fn_D_push (Nat.le_of_ble_eq_true rfl) (K) ?_
          exact fm_gRe O rfl trivial (by first | (rw [he]; done) | (rw [he]; rfl) | rfl) (by first | (rw [he]; done) | (rw [he]; rfl) | rfl)
        · have h4 : ¬ r3 = 0 := h
          have he := he.trans (if_neg h4)
          refine fm_gr O 4 (C' := (133, [(7, .inr (.inr (.inr (.inl (FP.l2d (J 40 0 (((I 24 0 28) - 1).toNatClampNeg))))))), (5, .inr (.inr (.inr (.inl (G 41 0 (((I 24 0 28) - 1).toNatClampNeg)))))), (3, .inr (.inl (J 40 0 (((I 24 0 28) - 1).toNatClampNeg)))), (0, .inr (.inr (.inr (.inr (24, 0))))), (1, .inl fro), (2, .inl tou)], [], (fm_u (fm_u I 24 0 28 ((I 24 0 28) - 1)) 24 0 18 3, J, G, fm_P pa pb))) rfl ?_
          exact fm_gRe O rfl trivial (by first | (rw [he]; done) | (rw [he]; rfl) | rfl) (by first | (rw [he]; done) | (rw [he]; rfl) | rfl)
    · have h2 : ¬ fro ≤ 1 := h
      have he := he.trans (if_neg h2)
      have hp := hp.2 h2
      refine fm_gr O 2 (C' := (79, [(5, .inr (.inr (.inr (.inl (G 41 0 (((I 24 0 28) - 1).toNatClampNeg)))))), (3, .inr (.inl (J 40 0 (((I 24 0 28) - 1).toNatClampNeg)))), (0, .inr (.inr (.inr (.inr (24, 0))))), (1, .inl fro), (2, .inl tou)], [.inl 2, .inl tou], (fm_u I 24 0 28 ((I 24 0 28) - 1), J, G, fm_P pa pb))) rfl ?_
      refine fm_gb O rfl (fun h => ?_) (fun h => ?_)
      · have h3 : tou = 2 := h
        have he := he.trans (if_pos h3)
        have hp := hp.1 h3
        refine fm_gr O 1 (C' := (84, [(5, .inr (.inr (.inr (.inl (G 41 0 (((I 24 0 28) - 1).toNatClampNeg)))))), (3, .inr (.inl (J 40 0 (((I 24 0 28) - 1).toNatClampNeg)))), (0, .inr (.inr (.inr (.inr (24, 0))))), (1, .inl fro), (2, .inl tou)], [.inr (.inr (.inr (.inl (G 41 0 (((I 24 0 28) - 1).toNatClampNeg)))))], (fm_u I 24 0 28 ((I 24 0 28) - 1), J, G, fm_P pa pb))) rfl ?_
        refine fm_gg O rfl hp.1 ?_
        have hp := hp.2
        refine fm_gg O rfl hp.1 ?_
        have hp := hp.2
        refine fm_gr O 3 (C' := (111, [(7, .inr (.inr (.inr (.inl (FP.f2d (FP.d2f (G 41 0 (((I 24 0 28) - 1).toNatClampNeg)))))))), (5, .inr (.inr (.inr (.inl (G 41 0 (((I 24 0 28) - 1).toNatClampNeg)))))), (3, .inr (.inl (J 40 0 (((I 24 0 28) - 1).toNatClampNeg)))), (0, .inr (.inr (.inr (.inr (24, 0))))), (1, .inl fro), (2, .inl tou)], [.inr (.inr (.inr (.inl (FP.f2d (FP.d2f (G 41 0 (((I 24 0 28) - 1).toNatClampNeg)))))))], (fm_u I 24 0 28 ((I 24 0 28) - 1), J, G, fm_P pa pb))) rfl ?_
        have K := fmD_large_c (d := d) hl (by omega) (fm_u I 24 0 28 ((I 24 0 28) - 1)) J G pa pb (FP.f2d (FP.d2f (G 41 0 (((I 24 0 28) - 1).toNatClampNeg))))
        generalize er5 : fmD_large_f (FP.f2d (FP.d2f (G 41 0 (((I 24 0 28) - 1).toNatClampNeg)))) = r5 at he hp
        have he := he.trans (fm_letE _ _)
        have hp := fm_letP hp
        rw [er5] at K
        refine fm_cS0 O fmD_large_o (as := [.inr (.inr (.inr (.inl (FP.f2d (FP.d2f (G 41 0 (((I 24 0 28) - 1).toNatClampNeg)))))))]) (rest := []) (v := some (.inl r5)) rfl fk_6_180 fn_D_large (Nat.le_of_ble_eq_true rfl) (K) ?_
        refine fm_gb O rfl (fun h => ?_) (fun h => ?_)
        · have h4 : r5 = 0 := h
          have he := he.trans (if_pos h4)
          have hp := hp.1 h4
          refine fm_gr O 4 (C' := (130, [(7, .inr (.inr (.inr (.inl (FP.f2d (FP.d2f (G 41 0 (((I 24 0 28) - 1).toNatClampNeg)))))))), (5, .inr (.inr (.inr (.inl (G 41 0 (((I 24 0 28) - 1).toNatClampNeg)))))), (3, .inr (.inl (J 40 0 (((I 24 0 28) - 1).toNatClampNeg)))), (0, .inr (.inr (.inr (.inr (24, 0))))), (1, .inl fro), (2, .inl tou)], [.inr (.inr (.inr (.inl (FP.f2d (FP.d2f (G 41 0 (((I 24 0 28) - 1).toNatClampNeg))))))), .inr (.inl 0), .inl tou, .inr (.inr (.inr (.inr (24, 0))))], (fm_u I 24 0 28 ((I 24 0 28) - 1), J, G, fm_P pa pb))) rfl ?_
          have K := fmD_push_c (d := d) hl (by omega) (fm_u I 24 0 28 ((I 24 0 28) - 1)) J G pa pb tou 0 (FP.f2d (FP.d2f (G 41 0 (((I 24 0 28) - 1).toNatClampNeg)))) hp
          generalize er6 : fmD_push_f (fm_u I 24 0 28 ((I 24 0 28) - 1)) J G tou 0 (FP.f2d (FP.d2f (G 41 0 (((I 24 0 28) - 1).toNatClampNeg)))) = r6 at he
          have he := he.trans (fm_letE _ _)
          rw [er6] at K
          refine fm_cV0 O fmD_push_o (i := 0) (as := [.inl tou, .inr (.inl 0), .inr (.inr (.inr (.inl (FP.f2d (FP.d2f (G 41 0 (((I 24 0 28) - 1).toNatClampNeg)))))))]) (rest := []) (v := none) rfl fk_6_172 rfl (by decide) fn_D_push (Nat.le_of_ble_eq_true rfl) (K) ?_
          exact fm_gRe O rfl trivial (by first | (rw [he]; done) | (rw [he]; rfl) | rfl) (by first | (rw [he]; done) | (rw [he]; rfl) | rfl)
        · have h4 : ¬ r5 = 0 := h
          have he := he.trans (if_neg h4)
          refine fm_gr O 4 (C' := (133, [(7, .inr (.inr (.inr (.inl (FP.f2d (FP.d2f (G 41 0 (((I 24 0 28) - 1).toNatClampNeg)))))))), (5, .inr (.inr (.inr (.inl (G 41 0 (((I 24 0 28) - 1).toNatClampNeg)))))), (3, .inr (.inl (J 40 0 (((I 24 0 28) - 1).toNatClampNeg)))), (0, .inr (.inr (.inr (.inr (24, 0))))), (1, .inl fro), (2, .inl tou)], [], (fm_u (fm_u I 24 0 28 ((I 24 0 28) - 1)) 24 0 18 3, J, G, fm_P pa pb))) rfl ?_
          exact fm_gRe O rfl trivial (by first | (rw [he]; done) | (rw [he]; rfl) | rfl) (by first | (rw [he]; done) | (rw [he]; rfl) | rfl)
      · have h3 : ¬ tou = 2 := h
        have he := he.trans (if_neg h3)
        have hp := hp.2 h3
        refine fm_gr O 4 (C' := (111, [(7, .inr (.inr (.inr (.inl (G 41 0 (((I 24 0 28) - 1).toNatClampNeg)))))), (5, .inr (.inr (.inr (.inl (G 41 0 (((I 24 0 28) - 1).toNatClampNeg)))))), (3, .inr (.inl (J 40 0 (((I 24 0 28) - 1).toNatClampNeg)))), (0, .inr (.inr (.inr (.inr (24, 0))))), (1, .inl fro), (2, .inl tou)], [.inr (.inr (.inr (.inl (G 41 0 (((I 24 0 28) - 1).toNatClampNeg)))))], (fm_u I 24 0 28 ((I 24 0 28) - 1), J, G, fm_P pa pb))) rfl ?_
        have K := fmD_large_c (d := d) hl (by omega) (fm_u I 24 0 28 ((I 24 0 28) - 1)) J G pa pb (G 41 0 (((I 24 0 28) - 1).toNatClampNeg))
        generalize er7 : fmD_large_f (G 41 0 (((I 24 0 28) - 1).toNatClampNeg)) = r7 at he hp
        have he := he.trans (fm_letE _ _)
        have hp := fm_letP hp
        rw [er7] at K
        refine fm_cS0 O fmD_large_o (as := [.inr (.inr (.inr (.inl (G 41 0 (((I 24 0 28) - 1).toNatClampNeg)))))]) (rest := []) (v := some (.inl r7)) rfl fk_6_180 fn_D_large (Nat.le_of_ble_eq_true rfl) (K) ?_
        refine fm_gb O rfl (fun h => ?_) (fun h => ?_)
        · have h4 : r7 = 0 := h
          have he := he.trans (if_pos h4)
          have hp := hp.1 h4
          refine fm_gr O 4 (C' := (130, [(7, .inr (.inr (.inr (.inl (G 41 0 (((I 24 0 28) - 1).toNatClampNeg)))))), (5, .inr (.inr (.inr (.inl (G 41 0 (((I 24 0 28) - 1).toNatClampNeg)))))), (3, .inr (.inl (J 40 0 (((I 24 0 28) - 1).toNatClampNeg)))), (0, .inr (.inr (.inr (.inr (24, 0))))), (1, .inl fro), (2, .inl tou)], [.inr (.inr (.inr (.inl (G 41 0 (((I 24 0 28) - 1).toNatClampNeg))))), .inr (.inl 0), .inl tou, .inr (.inr (.inr (.inr (24, 0))))], (fm_u I 24 0 28 ((I 24 0 28) - 1), J, G, fm_P pa pb))) rfl ?_
          have K := fmD_push_c (d := d) hl (by omega) (fm_u I 24 0 28 ((I 24 0 28) - 1)) J G pa pb tou 0 (G 41 0 (((I 24 0 28) - 1).toNatClampNeg)) hp
          generalize er8 : fmD_push_f (fm_u I 24 0 28 ((I 24 0 28) - 1)) J G tou 0 (G 41 0 (((I 24 0 28) - 1).toNatClampNeg)) = r8 at he
          have he := he.trans (fm_letE _ _)
          rw [er8] at K
          refine fm_cV0 O fmD_push_o (i := 0) (as := [.inl tou, .inr (.inl 0), .inr (.inr (.inr (.inl (G 41 0 (((I 24 0 28) - 1).toNatClampNeg)))))]) (rest := []) (v := none) rfl fk_6_172 rfl (by decide) fn_D_push (Nat.le_of_ble_eq_true rfl) (K) ?_
          exact fm_gRe O rfl trivial (by first | (rw [he]; done) | (rw [he]; rfl) | rfl) (by first | (rw [he]; done) | (rw [he]; rfl) | rfl)
        · have h4 : ¬ r7 = 0 := h
          have he := he.trans (if_neg h4)
          refine fm_gr O 4 (C' := (133, [(7, .inr (.inr (.inr (.inl (G 41 0 (((I 24 0 28) - 1).toNatClampNeg)))))), (5, .inr (.inr (.inr (.inl (G 41 0 (((I 24 0 28) - 1).toNatClampNeg)))))), (3, .inr (.inl (J 40 0 (((I 24 0 28) - 1).toNatClampNeg)))), (0, .inr (.inr (.inr (.inr (24, 0))))), (1, .inl fro), (2, .inl tou)], [], (fm_u (fm_u I 24 0 28 ((I 24 0 28) - 1)) 24 0 18 3, J, G, fm_P pa pb))) rfl ?_
          exact fm_gRe O rfl trivial (by first | (rw [he]; done) | (rw [he]; rfl) | rfl) (by first | (rw [he]; done) | (rw [he]; rfl) | rfl)
  · have h1 : ¬ 2 ≤ tou := h
    have he := he.trans (if_neg h1)
    have hp := hp.2 h1
    refine fm_gr O 2 (C' := (38, [(5, .inr (.inr (.inr (.inl (G 41 0 (((I 24 0 28) - 1).toNatClampNeg)))))), (3, .inr (.inl (J 40 0 (((I 24 0 28) - 1).toNatClampNeg)))), (0, .inr (.inr (.inr (.inr (24, 0))))), (1, .inl fro), (2, .inl tou)], [.inl 2, .inl fro], (fm_u I 24 0 28 ((I 24 0 28) - 1), J, G, fm_P pa pb))) rfl ?_
    refine fm_gb O rfl (fun h => ?_) (fun h => ?_)
    · have h2 : 2 ≤ fro := h
      have he := he.trans (if_pos h2)
      have hp := hp.1 h2
      refine fm_gr O 3 (C' := (54, [(5, .inr (.inr (.inr (.inl (G 41 0 (((I 24 0 28) - 1).toNatClampNeg)))))), (3, .inr (.inl (J 40 0 (((I 24 0 28) - 1).toNatClampNeg)))), (0, .inr (.inr (.inr (.inr (24, 0))))), (1, .inl fro), (2, .inl tou)], [.inl tou, .inl tou, .inr (.inr (.inr (.inr (24, 0))))], (fm_u I 24 0 28 ((I 24 0 28) - 1), J, G, fm_P pa pb))) rfl ?_
      refine fm_gb O rfl (fun h => ?_) (fun h => ?_)
      · have h3 : tou = 0 := h
        have he := he.trans (if_pos h3)
        have hp := hp.1 h3
        refine fm_gr O 5 (C' := (68, [(5, .inr (.inr (.inr (.inl (G 41 0 (((I 24 0 28) - 1).toNatClampNeg)))))), (3, .inr (.inl (J 40 0 (((I 24 0 28) - 1).toNatClampNeg)))), (0, .inr (.inr (.inr (.inr (24, 0))))), (1, .inl fro), (2, .inl tou)], [.inr (.inr (.inr (.inl FP.dconst0))), .inr (.inl ((FP.d2i (G 41 0 (((I 24 0 28) - 1).toNatClampNeg))).toInt64)), .inl tou, .inr (.inr (.inr (.inr (24, 0))))], (fm_u I 24 0 28 ((I 24 0 28) - 1), J, G, fm_P pa pb))) rfl ?_
        have K := fmD_push_c (d := d) hl (by omega) (fm_u I 24 0 28 ((I 24 0 28) - 1)) J G pa pb tou ((FP.d2i (G 41 0 (((I 24 0 28) - 1).toNatClampNeg))).toInt64) FP.dconst0 hp
        generalize er9 : fmD_push_f (fm_u I 24 0 28 ((I 24 0 28) - 1)) J G tou ((FP.d2i (G 41 0 (((I 24 0 28) - 1).toNatClampNeg))).toInt64) FP.dconst0 = r9 at he
        have he := he.trans (fm_letE _ _)
        rw [er9] at K
        refine fm_cV0 O fmD_push_o (i := 0) (as := [.inl tou, .inr (.inl ((FP.d2i (G 41 0 (((I 24 0 28) - 1).toNatClampNeg))).toInt64)), .inr (.inr (.inr (.inl FP.dconst0)))]) (rest := []) (v := none) rfl fk_6_172 rfl (by decide) fn_D_push (Nat.le_of_ble_eq_true rfl) (K) ?_
        exact fm_gRe O rfl trivial (by first | (rw [he]; done) | (rw [he]; rfl) | rfl) (by first | (rw [he]; done) | (rw [he]; rfl) | rfl)
      · have h3 : ¬ tou = 0 := h
        have he := he.trans (if_neg h3)
        have hp := hp.2 h3
        refine fm_gr O 3 (C' := (68, [(5, .inr (.inr (.inr (.inl (G 41 0 (((I 24 0 28) - 1).toNatClampNeg)))))), (3, .inr (.inl (J 40 0 (((I 24 0 28) - 1).toNatClampNeg)))), (0, .inr (.inr (.inr (.inr (24, 0))))), (1, .inl fro), (2, .inl tou)], [.inr (.inr (.inr (.inl FP.dconst0))), .inr (.inl (FP.d2l (G 41 0 (((I 24 0 28) - 1).toNatClampNeg)))), .inl tou, .inr (.inr (.inr (.inr (24, 0))))], (fm_u I 24 0 28 ((I 24 0 28) - 1), J, G, fm_P pa pb))) rfl ?_
        have K := fmD_push_c (d := d) hl (by omega) (fm_u I 24 0 28 ((I 24 0 28) - 1)) J G pa pb tou (FP.d2l (G 41 0 (((I 24 0 28) - 1).toNatClampNeg))) FP.dconst0 hp
        generalize er10 : fmD_push_f (fm_u I 24 0 28 ((I 24 0 28) - 1)) J G tou (FP.d2l (G 41 0 (((I 24 0 28) - 1).toNatClampNeg))) FP.dconst0 = r10 at he
        have he := he.trans (fm_letE _ _)
        rw [er10] at K
        refine fm_cV0 O fmD_push_o (i := 0) (as := [.inl tou, .inr (.inl (FP.d2l (G 41 0 (((I 24 0 28) - 1).toNatClampNeg)))), .inr (.inr (.inr (.inl FP.dconst0)))]) (rest := []) (v := none) rfl fk_6_172 rfl (by decide) fn_D_push (Nat.le_of_ble_eq_true rfl) (K) ?_
        exact fm_gRe O rfl trivial (by first | (rw [he]; done) | (rw [he]; rfl) | rfl) (by first | (rw [he]; done) | (rw [he]; rfl) | rfl)
    · have h2 : ¬ 2 ≤ fro := h
      have he := he.trans (if_neg h2)
      have hp := hp.2 h2
      refine fm_gr O 4 (C' := (45, [(5, .inr (.inr (.inr (.inl (G 41 0 (((I 24 0 28) - 1).toNatClampNeg)))))), (3, .inr (.inl (J 40 0 (((I 24 0 28) - 1).toNatClampNeg)))), (0, .inr (.inr (.inr (.inr (24, 0))))), (1, .inl fro), (2, .inl tou)], [.inr (.inr (.inr (.inl FP.dconst0))), .inr (.inl (J 40 0 (((I 24 0 28) - 1).toNatClampNeg))), .inl tou, .inr (.inr (.inr (.inr (24, 0))))], (fm_u I 24 0 28 ((I 24 0 28) - 1), J, G, fm_P pa pb))) rfl ?_
      have K := fmD_push_c (d := d) hl (by omega) (fm_u I 24 0 28 ((I 24 0 28) - 1)) J G pa pb tou (J 40 0 (((I 24 0 28) - 1).toNatClampNeg)) FP.dconst0 hp
      generalize er11 : fmD_push_f (fm_u I 24 0 28 ((I 24 0 28) - 1)) J G tou (J 40 0 (((I 24 0 28) - 1).toNatClampNeg)) FP.dconst0 = r11 at he
      have he := he.trans (fm_letE _ _)
      rw [er11] at K
      refine fm_cV0 O fmD_push_o (i := 0) (as := [.inl tou, .inr (.inl (J 40 0 (((I 24 0 28) - 1).toNatClampNeg))), .inr (.inr (.inr (.inl FP.dconst0)))]) (rest := []) (v := none) rfl fk_6_172 rfl (by decide) fn_D_push (Nat.le_of_ble_eq_true rfl) (K) ?_
      refine fm_gr O 1 (C' := (71, [(5, .inr (.inr (.inr (.inl (G 41 0 (((I 24 0 28) - 1).toNatClampNeg)))))), (3, .inr (.inl (J 40 0 (((I 24 0 28) - 1).toNatClampNeg)))), (0, .inr (.inr (.inr (.inr (24, 0))))), (1, .inl fro), (2, .inl tou)], [], (r11.1, r11.2.1, r11.2.2, fm_P pa pb))) rfl ?_
      exact fm_gRe O rfl trivial (by first | (rw [he]; done) | (rw [he]; rfl) | rfl) (by first | (rw [he]; done) | (rw [he]; rfl) | rfl)
def fmD_endOf_L8_f : Nat → fm_MI → fm_MJ → fm_MG → (Nat × Nat) → (Nat × Nat) → Int32 → Int32 → Int32 → Int32 → Int32 → Int32
  | 0, I, J, G, pa, pb, y1, y2, y3, y4, y5 => 0
  | n + 1, I, J, G, pa, pb, y1, y2, y3, y4, y5 => if (I 27 0 y1.toNatClampNeg) ≤ y5 then y5 else (if y4 = 0 then (if (I 25 0 (((y1 * 40) + y5).toNatClampNeg)) = 25 then y5 else (if (I 25 0 (((y1 * 40) + y5).toNatClampNeg)) = 24 then (if y3 = 0 then (fm_let (fmD_in_f (I 25 0 (((y1 * 40) + y5).toNatClampNeg)) 21 23) (fun (r1 : Int32) => if r1 = 0 then (fmD_endOf_L8_f n I J G pa pb y1 y2 y3 y4 (y5 + 1)) else (fmD_endOf_L8_f n I J G pa pb y1 y2 y3 (y4 + 1) (y5 + 1)))) else y5) else (fm_let (fmD_in_f (I 25 0 (((y1 * 40) + y5).toNatClampNeg)) 21 23) (fun (r2 : Int32) => if r2 = 0 then (fmD_endOf_L8_f n I J G pa pb y1 y2 y3 y4 (y5 + 1)) else (fmD_endOf_L8_f n I J G pa pb y1 y2 y3 (y4 + 1) (y5 + 1)))))) else (fm_let (fmD_in_f (I 25 0 (((y1 * 40) + y5).toNatClampNeg)) 21 23) (fun (r3 : Int32) => if r3 = 0 then (if (I 25 0 (((y1 * 40) + y5).toNatClampNeg)) = 25 then (fmD_endOf_L8_f n I J G pa pb y1 y2 y3 (y4 + (-1)) (y5 + 1)) else (fmD_endOf_L8_f n I J G pa pb y1 y2 y3 y4 (y5 + 1))) else (if (I 25 0 (((y1 * 40) + y5).toNatClampNeg)) = 25 then (fmD_endOf_L8_f n I J G pa pb y1 y2 y3 ((y4 + 1) + (-1)) (y5 + 1)) else (fmD_endOf_L8_f n I J G pa pb y1 y2 y3 (y4 + 1) (y5 + 1))))))
theorem fmD_endOf_L8_e (n : Nat) (I : fm_MI) (J : fm_MJ) (G : fm_MG) (pa : Nat × Nat) (pb : Nat × Nat) (y1 : Int32) (y2 : Int32) (y3 : Int32) (y4 : Int32) (y5 : Int32) : fmD_endOf_L8_f (n + 1) I J G pa pb y1 y2 y3 y4 y5 = if (I 27 0 y1.toNatClampNeg) ≤ y5 then y5 else (if y4 = 0 then (if (I 25 0 (((y1 * 40) + y5).toNatClampNeg)) = 25 then y5 else (if (I 25 0 (((y1 * 40) + y5).toNatClampNeg)) = 24 then (if y3 = 0 then (fm_let (fmD_in_f (I 25 0 (((y1 * 40) + y5).toNatClampNeg)) 21 23) (fun (r1 : Int32) => if r1 = 0 then (fmD_endOf_L8_f n I J G pa pb y1 y2 y3 y4 (y5 + 1)) else (fmD_endOf_L8_f n I J G pa pb y1 y2 y3 (y4 + 1) (y5 + 1)))) else y5) else (fm_let (fmD_in_f (I 25 0 (((y1 * 40) + y5).toNatClampNeg)) 21 23) (fun (r2 : Int32) => if r2 = 0 then (fmD_endOf_L8_f n I J G pa pb y1 y2 y3 y4 (y5 + 1)) else (fmD_endOf_L8_f n I J G pa pb y1 y2 y3 (y4 + 1) (y5 + 1)))))) else (fm_let (fmD_in_f (I 25 0 (((y1 * 40) + y5).toNatClampNeg)) 21 23) (fun (r3 : Int32) => if r3 = 0 then (if (I 25 0 (((y1 * 40) + y5).toNatClampNeg)) = 25 then (fmD_endOf_L8_f n I J G pa pb y1 y2 y3 (y4 + (-1)) (y5 + 1)) else (fmD_endOf_L8_f n I J G pa pb y1 y2 y3 y4 (y5 + 1))) else (if (I 25 0 (((y1 * 40) + y5).toNatClampNeg)) = 25 then (fmD_endOf_L8_f n I J G pa pb y1 y2 y3 ((y4 + 1) + (-1)) (y5 + 1)) else (fmD_endOf_L8_f n I J G pa pb y1 y2 y3 (y4 + 1) (y5 + 1)))))) := rfl
def fmD_endOf_L8_p : Nat → fm_MI → fm_MJ → fm_MG → (Nat × Nat) → (Nat × Nat) → Int32 → Int32 → Int32 → Int32 → Int32 → Prop
  | 0, I, J, G, pa, pb, y1, y2, y3, y4, y5 => False
  | n + 1, I, J, G, pa, pb, y1, y2, y3, y4, y5 => (vp_in y1 4) ∧ (((I 27 0 y1.toNatClampNeg) ≤ y5 → True) ∧ (¬ (I 27 0 y1.toNatClampNeg) ≤ y5 → (vp_in ((y1 * 40) + y5) 160) ∧ ((y4 = 0 → ((I 25 0 (((y1 * 40) + y5).toNatClampNeg)) = 25 → True) ∧ (¬ (I 25 0 (((y1 * 40) + y5).toNatClampNeg)) = 25 → ((I 25 0 (((y1 * 40) + y5).toNatClampNeg)) = 24 → (y3 = 0 → fm_let (fmD_in_f (I 25 0 (((y1 * 40) + y5).toNatClampNeg)) 21 23) (fun (r1 : Int32) => (r1 = 0 → fmD_endOf_L8_p n I J G pa pb y1 y2 y3 y4 (y5 + 1)) ∧ (¬ r1 = 0 → fmD_endOf_L8_p n I J G pa pb y1 y2 y3 (y4 + 1) (y5 + 1)))) ∧ (¬ y3 = 0 → True)) ∧ (¬ (I 25 0 (((y1 * 40) + y5).toNatClampNeg)) = 24 → fm_let (fmD_in_f (I 25 0 (((y1 * 40) + y5).toNatClampNeg)) 21 23) (fun (r2 : Int32) => (r2 = 0 → fmD_endOf_L8_p n I J G pa pb y1 y2 y3 y4 (y5 + 1)) ∧ (¬ r2 = 0 → fmD_endOf_L8_p n I J G pa pb y1 y2 y3 (y4 + 1) (y5 + 1)))))) ∧ (¬ y4 = 0 → fm_let (fmD_in_f (I 25 0 (((y1 * 40) + y5).toNatClampNeg)) 21 23) (fun (r3 : Int32) => (r3 = 0 → ((I 25 0 (((y1 * 40) + y5).toNatClampNeg)) = 25 → fmD_endOf_L8_p n I J G pa pb y1 y2 y3 (y4 + (-1)) (y5 + 1)) ∧ (¬ (I 25 0 (((y1 * 40) + y5).toNatClampNeg)) = 25 → fmD_endOf_L8_p n I J G pa pb y1 y2 y3 y4 (y5 + 1))) ∧ (¬ r3 = 0 → ((I 25 0 (((y1 * 40) + y5).toNatClampNeg)) = 25 → fmD_endOf_L8_p n I J G pa pb y1 y2 y3 ((y4 + 1) + (-1)) (y5 + 1)) ∧ (¬ (I 25 0 (((y1 * 40) + y5).toNatClampNeg)) = 25 → fmD_endOf_L8_p n I J G pa pb y1 y2 y3 (y4 + 1) (y5 + 1))))))))
theorem fmD_endOf_L8_q (n : Nat) (I : fm_MI) (J : fm_MJ) (G : fm_MG) (pa : Nat × Nat) (pb : Nat × Nat) (y1 : Int32) (y2 : Int32) (y3 : Int32) (y4 : Int32) (y5 : Int32) : fmD_endOf_L8_p (n + 1) I J G pa pb y1 y2 y3 y4 y5 = ((vp_in y1 4) ∧ (((I 27 0 y1.toNatClampNeg) ≤ y5 → True) ∧ (¬ (I 27 0 y1.toNatClampNeg) ≤ y5 → (vp_in ((y1 * 40) + y5) 160) ∧ ((y4 = 0 → ((I 25 0 (((y1 * 40) + y5).toNatClampNeg)) = 25 → True) ∧ (¬ (I 25 0 (((y1 * 40) + y5).toNatClampNeg)) = 25 → ((I 25 0 (((y1 * 40) + y5).toNatClampNeg)) = 24 → (y3 = 0 → fm_let (fmD_in_f (I 25 0 (((y1 * 40) + y5).toNatClampNeg)) 21 23) (fun (r1 : Int32) => (r1 = 0 → fmD_endOf_L8_p n I J G pa pb y1 y2 y3 y4 (y5 + 1)) ∧ (¬ r1 = 0 → fmD_endOf_L8_p n I J G pa pb y1 y2 y3 (y4 + 1) (y5 + 1)))) ∧ (¬ y3 = 0 → True)) ∧ (¬ (I 25 0 (((y1 * 40) + y5).toNatClampNeg)) = 24 → fm_let (fmD_in_f (I 25 0 (((y1 * 40) + y5).toNatClampNeg)) 21 23) (fun (r2 : Int32) => (r2 = 0 → fmD_endOf_L8_p n I J G pa pb y1 y2 y3 y4 (y5 + 1)) ∧ (¬ r2 = 0 → fmD_endOf_L8_p n I J G pa pb y1 y2 y3 (y4 + 1) (y5 + 1)))))) ∧ (¬ y4 = 0 → fm_let (fmD_in_f (I 25 0 (((y1 * 40) + y5).toNatClampNeg)) 21 23) (fun (r3 : Int32) => (r3 = 0 → ((I 25 0 (((y1 * 40) + y5).toNatClampNeg)) = 25 → fmD_endOf_L8_p n I J G pa pb y1 y2 y3 (y4 + (-1)) (y5 + 1)) ∧ (¬ (I 25 0 (((y1 * 40) + y5).toNatClampNeg)) = 25 → fmD_endOf_L8_p n I J G pa pb y1 y2 y3 y4 (y5 + 1))) ∧ (¬ r3 = 0 → ((I 25 0 (((y1 * 40) + y5).toNatClampNeg)) = 25 → fmD_endOf_L8_p n I J G pa pb y1 y2 y3 ((y4 + 1) + (-1)) (y5 + 1)) ∧ (¬ (I 25 0 (((y1 * 40) + y5).toNatClampNeg)) = 25 → fmD_endOf_L8_p n I J G pa pb y1 y2 y3 (y4 + 1) (y5 + 1))))))))) := rfl
set_option maxRecDepth 100000 in
set_option maxHeartbeats 4000000 in
theorem fmD_endOf_L8_c {E : fm_Ev} (hl : E.1.stackTraces = false) {d : Nat} (hd : 1 ≤ d + 1) (n : Nat) : ∀ (I : fm_MI) (J : fm_MJ) (G : fm_MG) (pa : Nat × Nat) (pb : Nat × Nat) (y1 : Int32) (y2 : Int32) (y3 : Int32) (y4 : Int32) (y5 : Int32), fmD_endOf_L8_p n I J G pa pb y1 y2 y3 y4 y5 → fm_Go E (d + 1) fmD_endOf 0 (8, [(0, .inr (.inr (.inr (.inr (24, 0))))), (1, .inl y1), (2, .inl y2), (3, .inl y3), (4, .inl y4), (5, .inl y5)], [], (I, J, G, fm_P pa pb)) (fm_Zr E (some (.inl (fmD_endOf_L8_f n I J G pa pb y1 y2 y3 y4 y5))) (I, J, G, fm_P pa pb)) := by
  have O := fmD_endOf_o.1
  induction n with
  | zero => intro I J G pa pb y1 y2 y3 y4 y5 hp; exact hp.elim
  | succ n ih =>
    intro I J G pa pb y1 y2 y3 y4 y5 hp
    rw [fmD_endOf_L8_q] at hp
    have he := fmD_endOf_L8_e n I J G pa pb y1 y2 y3 y4 y5
    refine fm_gr O 4 (C' := (15, [(0, .inr (.inr (.inr (.inr (24, 0))))), (1, .inl y1), (2, .inl y2), (3, .inl y3), (4, .inl y4), (5, .inl y5)], [.inl y1, .inr (.inr (.inr (.inr (27, 0)))), .inl y5], (I, J, G, fm_P pa pb))) rfl ?_
    refine fm_gg O rfl hp.1 ?_
    have hp := hp.2
    refine fm_gb O rfl (fun h => ?_) (fun h => ?_)
    · have h1 : (I 27 0 y1.toNatClampNeg) ≤ y5 := h
      have he := he.trans (if_pos h1)
      refine fm_gr O 1 (C' := (92, [(0, .inr (.inr (.inr (.inr (24, 0))))), (1, .inl y1), (2, .inl y2), (3, .inl y3), (4, .inl y4), (5, .inl y5)], [.inl y5], (I, J, G, fm_P pa pb))) rfl ?_
      exact fm_gRe O rfl trivial (by first | (rw [he]; done) | (rw [he]; rfl) | rfl) (by first | (rw [he]; done) | (rw [he]; rfl) | rfl)
    · have h1 : ¬ (I 27 0 y1.toNatClampNeg) ≤ y5 := h
      have he := he.trans (if_neg h1)
      have hp := hp.2 h1
      refine fm_gr O 7 (C' := (30, [(0, .inr (.inr (.inr (.inr (24, 0))))), (1, .inl y1), (2, .inl y2), (3, .inl y3), (4, .inl y4), (5, .inl y5)], [.inl ((y1 * 40) + y5), .inr (.inr (.inr (.inr (25, 0))))], (I, J, G, fm_P pa pb))) rfl ?_
      refine fm_gg O rfl hp.1 ?_
      have hp := hp.2
      refine fm_gr O 2 (C' := (35, [(6, .inl (I 25 0 (((y1 * 40) + y5).toNatClampNeg))), (0, .inr (.inr (.inr (.inr (24, 0))))), (1, .inl y1), (2, .inl y2), (3, .inl y3), (4, .inl y4), (5, .inl y5)], [.inl y4], (I, J, G, fm_P pa pb))) rfl ?_
      refine fm_gb O rfl (fun h => ?_) (fun h => ?_)
      · have h2 : y4 = 0 := h
        have he := he.trans (if_pos h2)
        have hp := hp.1 h2
        refine fm_gr O 2 (C' := (42, [(6, .inl (I 25 0 (((y1 * 40) + y5).toNatClampNeg))), (0, .inr (.inr (.inr (.inr (24, 0))))), (1, .inl y1), (2, .inl y2), (3, .inl y3), (4, .inl y4), (5, .inl y5)], [.inl 25, .inl (I 25 0 (((y1 * 40) + y5).toNatClampNeg))], (I, J, G, fm_P pa pb))) rfl ?_
        refine fm_gb O rfl (fun h => ?_) (fun h => ?_)
        · have h3 : (I 25 0 (((y1 * 40) + y5).toNatClampNeg)) = 25 := h
          have he := he.trans (if_pos h3)
          refine fm_gr O 1 (C' := (58, [(6, .inl (I 25 0 (((y1 * 40) + y5).toNatClampNeg))), (0, .inr (.inr (.inr (.inr (24, 0))))), (1, .inl y1), (2, .inl y2), (3, .inl y3), (4, .inl y4), (5, .inl y5)], [.inl y5], (I, J, G, fm_P pa pb))) rfl ?_
          exact fm_gRe O rfl trivial (by first | (rw [he]; done) | (rw [he]; rfl) | rfl) (by first | (rw [he]; done) | (rw [he]; rfl) | rfl)
        · have h3 : ¬ (I 25 0 (((y1 * 40) + y5).toNatClampNeg)) = 25 := h
          have he := he.trans (if_neg h3)
          have hp := hp.2 h3
          refine fm_gr O 2 (C' := (49, [(6, .inl (I 25 0 (((y1 * 40) + y5).toNatClampNeg))), (0, .inr (.inr (.inr (.inr (24, 0))))), (1, .inl y1), (2, .inl y2), (3, .inl y3), (4, .inl y4), (5, .inl y5)], [.inl 24, .inl (I 25 0 (((y1 * 40) + y5).toNatClampNeg))], (I, J, G, fm_P pa pb))) rfl ?_
          refine fm_gb O rfl (fun h => ?_) (fun h => ?_)
          · have h4 : (I 25 0 (((y1 * 40) + y5).toNatClampNeg)) = 24 := h
            have he := he.trans (if_pos h4)
            have hp := hp.1 h4
            refine fm_gr O 1 (C' := (53, [(6, .inl (I 25 0 (((y1 * 40) + y5).toNatClampNeg))), (0, .inr (.inr (.inr (.inr (24, 0))))), (1, .inl y1), (2, .inl y2), (3, .inl y3), (4, .inl y4), (5, .inl y5)], [.inl y3], (I, J, G, fm_P pa pb))) rfl ?_
            refine fm_gb O rfl (fun h => ?_) (fun h => ?_)
            · have h5 : y3 = 0 := h
              have he := he.trans (if_pos h5)
              have hp := hp.1 h5
              refine fm_gr O 3 (C' := (65, [(6, .inl (I 25 0 (((y1 * 40) + y5).toNatClampNeg))), (0, .inr (.inr (.inr (.inr (24, 0))))), (1, .inl y1), (2, .inl y2), (3, .inl y3), (4, .inl y4), (5, .inl y5)], [.inl 23, .inl 21, .inl (I 25 0 (((y1 * 40) + y5).toNatClampNeg))], (I, J, G, fm_P pa pb))) rfl ?_
              have K := fmD_in_c (d := d) hl (by omega) I J G pa pb (I 25 0 (((y1 * 40) + y5).toNatClampNeg)) 21 23
              generalize er1 : fmD_in_f (I 25 0 (((y1 * 40) + y5).toNatClampNeg)) 21 23 = r1 at he hp
              have he := he.trans (fm_letE _ _)
              have hp := fm_letP hp
              rw [er1] at K
              refine fm_cS0 O fmD_in_o (as := [.inl (I 25 0 (((y1 * 40) + y5).toNatClampNeg)), .inl 21, .inl 23]) (rest := []) (v := some (.inl r1)) rfl fk_6_86 fn_D_in (Nat.le_of_ble_eq_true rfl) (K) ?_
              refine fm_gb O rfl (fun h => ?_) (fun h => ?_)
              · have h6 : r1 = 0 := h
                have he := he.trans (if_pos h6)
                have hp := hp.1 h6
                refine fm_gr O 2 (C' := (78, [(6, .inl (I 25 0 (((y1 * 40) + y5).toNatClampNeg))), (0, .inr (.inr (.inr (.inr (24, 0))))), (1, .inl y1), (2, .inl y2), (3, .inl y3), (4, .inl y4), (5, .inl y5)], [.inl 25, .inl (I 25 0 (((y1 * 40) + y5).toNatClampNeg))], (I, J, G, fm_P pa pb))) rfl ?_
                refine fm_gb O rfl (fun h => ?_) (fun h => ?_)
                · exact absurd h h3
                · refine fm_gr O 2 (C' := (8, [(5, .inl (y5 + 1)), (6, .inl (I 25 0 (((y1 * 40) + y5).toNatClampNeg))), (0, .inr (.inr (.inr (.inr (24, 0))))), (1, .inl y1), (2, .inl y2), (3, .inl y3), (4, .inl y4)], [], (I, J, G, fm_P pa pb))) rfl ?_
                  refine fm_gL O [2, 3, 4, 5, 6, 0] rfl ?_
                  rw [he]
                  exact ih I J G pa pb y1 y2 y3 y4 (y5 + 1) hp
              · have h6 : ¬ r1 = 0 := h
                have he := he.trans (if_neg h6)
                have hp := hp.2 h6
                refine fm_gr O 3 (C' := (78, [(4, .inl (y4 + 1)), (6, .inl (I 25 0 (((y1 * 40) + y5).toNatClampNeg))), (0, .inr (.inr (.inr (.inr (24, 0))))), (1, .inl y1), (2, .inl y2), (3, .inl y3), (5, .inl y5)], [.inl 25, .inl (I 25 0 (((y1 * 40) + y5).toNatClampNeg))], (I, J, G, fm_P pa pb))) rfl ?_
                refine fm_gb O rfl (fun h => ?_) (fun h => ?_)
                · exact absurd h h3
                · refine fm_gr O 2 (C' := (8, [(5, .inl (y5 + 1)), (4, .inl (y4 + 1)), (6, .inl (I 25 0 (((y1 * 40) + y5).toNatClampNeg))), (0, .inr (.inr (.inr (.inr (24, 0))))), (1, .inl y1), (2, .inl y2), (3, .inl y3)], [], (I, J, G, fm_P pa pb))) rfl ?_
                  refine fm_gL O [3, 4, 5, 6, 1, 0] rfl ?_
                  rw [he]
                  exact ih I J G pa pb y1 y2 y3 (y4 + 1) (y5 + 1) hp
            · have h5 : ¬ y3 = 0 := h
              have he := he.trans (if_neg h5)
              refine fm_gr O 1 (C' := (58, [(6, .inl (I 25 0 (((y1 * 40) + y5).toNatClampNeg))), (0, .inr (.inr (.inr (.inr (24, 0))))), (1, .inl y1), (2, .inl y2), (3, .inl y3), (4, .inl y4), (5, .inl y5)], [.inl y5], (I, J, G, fm_P pa pb))) rfl ?_
              exact fm_gRe O rfl trivial (by first | (rw [he]; done) | (rw [he]; rfl) | rfl) (by first | (rw [he]; done) | (rw [he]; rfl) | rfl)
          · have h4 : ¬ (I 25 0 (((y1 * 40) + y5).toNatClampNeg)) = 24 := h
            have he := he.trans (if_neg h4)
            have hp := hp.2 h4
            refine fm_gr O 3 (C' := (65, [(6, .inl (I 25 0 (((y1 * 40) + y5).toNatClampNeg))), (0, .inr (.inr (.inr (.inr (24, 0))))), (1, .inl y1), (2, .inl y2), (3, .inl y3), (4, .inl y4), (5, .inl y5)], [.inl 23, .inl 21, .inl (I 25 0 (((y1 * 40) + y5).toNatClampNeg))], (I, J, G, fm_P pa pb))) rfl ?_
            have K := fmD_in_c (d := d) hl (by omega) I J G pa pb (I 25 0 (((y1 * 40) + y5).toNatClampNeg)) 21 23
            generalize er2 : fmD_in_f (I 25 0 (((y1 * 40) + y5).toNatClampNeg)) 21 23 = r2 at he hp
            have he := he.trans (fm_letE _ _)
            have hp := fm_letP hp
            rw [er2] at K
            refine fm_cS0 O fmD_in_o (as := [.inl (I 25 0 (((y1 * 40) + y5).toNatClampNeg)), .inl 21, .inl 23]) (rest := []) (v := some (.inl r2)) rfl fk_6_86 fn_D_in (Nat.le_of_ble_eq_true rfl) (K) ?_
            refine fm_gb O rfl (fun h => ?_) (fun h => ?_)
            · have h5 : r2 = 0 := h
              have he := he.trans (if_pos h5)
              have hp := hp.1 h5
              refine fm_gr O 2 (C' := (78, [(6, .inl (I 25 0 (((y1 * 40) + y5).toNatClampNeg))), (0, .inr (.inr (.inr (.inr (24, 0))))), (1, .inl y1), (2, .inl y2), (3, .inl y3), (4, .inl y4), (5, .inl y5)], [.inl 25, .inl (I 25 0 (((y1 * 40) + y5).toNatClampNeg))], (I, J, G, fm_P pa pb))) rfl ?_
              refine fm_gb O rfl (fun h => ?_) (fun h => ?_)
              · exact absurd h h3
              · refine fm_gr O 2 (C' := (8, [(5, .inl (y5 + 1)), (6, .inl (I 25 0 (((y1 * 40) + y5).toNatClampNeg))), (0, .inr (.inr (.inr (.inr (24, 0))))), (1, .inl y1), (2, .inl y2), (3, .inl y3), (4, .inl y4)], [], (I, J, G, fm_P pa pb))) rfl ?_
                refine fm_gL O [2, 3, 4, 5, 6, 0] rfl ?_
                rw [he]
                exact ih I J G pa pb y1 y2 y3 y4 (y5 + 1) hp
            · have h5 : ¬ r2 = 0 := h
              have he := he.trans (if_neg h5)
              have hp := hp.2 h5
              refine fm_gr O 3 (C' := (78, [(4, .inl (y4 + 1)), (6, .inl (I 25 0 (((y1 * 40) + y5).toNatClampNeg))), (0, .inr (.inr (.inr (.inr (24, 0))))), (1, .inl y1), (2, .inl y2), (3, .inl y3), (5, .inl y5)], [.inl 25, .inl (I 25 0 (((y1 * 40) + y5).toNatClampNeg))], (I, J, G, fm_P pa pb))) rfl ?_
              refine fm_gb O rfl (fun h => ?_) (fun h => ?_)
              · exact absurd h h3
              · refine fm_gr O 2 (C' := (8, [(5, .inl (y5 + 1)), (4, .inl (y4 + 1)), (6, .inl (I 25 0 (((y1 * 40) + y5).toNatClampNeg))), (0, .inr (.inr (.inr (.inr (24, 0))))), (1, .inl y1), (2, .inl y2), (3, .inl y3)], [], (I, J, G, fm_P pa pb))) rfl ?_
                refine fm_gL O [3, 4, 5, 6, 1, 0] rfl ?_
                rw [he]
                exact ih I J G pa pb y1 y2 y3 (y4 + 1) (y5 + 1) hp
      · have h2 : ¬ y4 = 0 := h
        have he := he.trans (if_neg h2)
        have hp := hp.2 h2
        refine fm_gr O 3 (C' := (65, [(6, .inl (I 25 0 (((y1 * 40) + y5).toNatClampNeg))), (0, .inr (.inr (.inr (.inr (24, 0))))), (1, .inl y1), (2, .inl y2), (3, .inl y3), (4, .inl y4), (5, .inl y5)], [.inl 23, .inl 21, .inl (I 25 0 (((y1 * 40) + y5).toNatClampNeg))], (I, J, G, fm_P pa pb))) rfl ?_
        have K := fmD_in_c (d := d) hl (by omega) I J G pa pb (I 25 0 (((y1 * 40) + y5).toNatClampNeg)) 21 23
        generalize er3 : fmD_in_f (I 25 0 (((y1 * 40) + y5).toNatClampNeg)) 21 23 = r3 at he hp
        have he := he.trans (fm_letE _ _)
        have hp := fm_letP hp
        rw [er3] at K
        refine fm_cS0 O fmD_in_o (as := [.inl (I 25 0 (((y1 * 40) + y5).toNatClampNeg)), .inl 21, .inl 23]) (rest := []) (v := some (.inl r3)) rfl fk_6_86 fn_D_in (Nat.le_of_ble_eq_true rfl) (K) ?_
        refine fm_gb O rfl (fun h => ?_) (fun h => ?_)
        · have h3 : r3 = 0 := h
          have he := he.trans (if_pos h3)
          have hp := hp.1 h3
          refine fm_gr O 2 (C' := (78, [(6, .inl (I 25 0 (((y1 * 40) + y5).toNatClampNeg))), (0, .inr (.inr (.inr (.inr (24, 0))))), (1, .inl y1), (2, .inl y2), (3, .inl y3), (4, .inl y4), (5, .inl y5)], [.inl 25, .inl (I 25 0 (((y1 * 40) + y5).toNatClampNeg))], (I, J, G, fm_P pa pb))) rfl ?_
          refine fm_gb O rfl (fun h => ?_) (fun h => ?_)
          · have h4 : (I 25 0 (((y1 * 40) + y5).toNatClampNeg)) = 25 := h
            have he := he.trans (if_pos h4)
            have hp := hp.1 h4
            refine fm_gr O 3 (C' := (8, [(5, .inl (y5 + 1)), (4, .inl (y4 + (-1))), (6, .inl (I 25 0 (((y1 * 40) + y5).toNatClampNeg))), (0, .inr (.inr (.inr (.inr (24, 0))))), (1, .inl y1), (2, .inl y2), (3, .inl y3)], [], (I, J, G, fm_P pa pb))) rfl ?_
            refine fm_gL O [3, 4, 5, 6, 1, 0] rfl ?_
            rw [he]
            exact ih I J G pa pb y1 y2 y3 (y4 + (-1)) (y5 + 1) hp
          · have h4 : ¬ (I 25 0 (((y1 * 40) + y5).toNatClampNeg)) = 25 := h
            have he := he.trans (if_neg h4)
            have hp := hp.2 h4
            refine fm_gr O 2 (C' := (8, [(5, .inl (y5 + 1)), (6, .inl (I 25 0 (((y1 * 40) + y5).toNatClampNeg))), (0, .inr (.inr (.inr (.inr (24, 0))))), (1, .inl y1), (2, .inl y2), (3, .inl y3), (4, .inl y4)], [], (I, J, G, fm_P pa pb))) rfl ?_
            refine fm_gL O [2, 3, 4, 5, 6, 0] rfl ?_
            rw [he]
            exact ih I J G pa pb y1 y2 y3 y4 (y5 + 1) hp
        · have h3 : ¬ r3 = 0 := h
          have he := he.trans (if_neg h3)
          have hp := hp.2 h3
          refine fm_gr O 3 (C' := (78, [(4, .inl (y4 + 1)), (6, .inl (I 25 0 (((y1 * 40) + y5).toNatClampNeg))), (0, .inr (.inr (.inr (.inr (24, 0))))), (1, .inl y1), (2, .inl y2), (3, .inl y3), (5, .inl y5)], [.inl 25, .inl (I 25 0 (((y1 * 40) + y5).toNatClampNeg))], (I, J, G, fm_P pa pb))) rfl ?_
          refine fm_gb O rfl (fun h => ?_) (fun h => ?_)
          · have h4 : (I 25 0 (((y1 * 40) + y5).toNatClampNeg)) = 25 := h
            have he := he.trans (if_pos h4)
            have hp := hp.1 h4
            refine fm_gr O 3 (C' := (8, [(5, .inl (y5 + 1)), (4, .inl ((y4 + 1) + (-1))), (6, .inl (I 25 0 (((y1 * 40) + y5).toNatClampNeg))), (0, .inr (.inr (.inr (.inr (24, 0))))), (1, .inl y1), (2, .inl y2), (3, .inl y3)], [], (I, J, G, fm_P pa pb))) rfl ?_
            refine fm_gL O [3, 4, 5, 6, 1, 0] rfl ?_
            rw [he]
            exact ih I J G pa pb y1 y2 y3 ((y4 + 1) + (-1)) (y5 + 1) hp
          · have h4 : ¬ (I 25 0 (((y1 * 40) + y5).toNatClampNeg)) = 25 := h
            have he := he.trans (if_neg h4)
            have hp := hp.2 h4
            refine fm_gr O 2 (C' := (8, [(5, .inl (y5 + 1)), (4, .inl (y4 + 1)), (6, .inl (I 25 0 (((y1 * 40) + y5).toNatClampNeg))), (0, .inr (.inr (.inr (.inr (24, 0))))), (1, .inl y1), (2, .inl y2), (3, .inl y3)], [], (I, J, G, fm_P pa pb))) rfl ?_
            refine fm_gL O [3, 4, 5, 6, 1, 0] rfl ?_
            rw [he]
            exact ih I J G pa pb y1 y2 y3 (y4 + 1) (y5 + 1) hp
def fmD_endOf_f (I : fm_MI) (J : fm_MJ) (G : fm_MG) (pa : Nat × Nat) (pb : Nat × Nat) (f : Int32) (ati : Int32) (oe : Int32) : Int32 :=
  fmD_endOf_L8_f 41 I J G pa pb f ati oe 0 (ati + 1)
theorem fmD_endOf_e (I : fm_MI) (J : fm_MJ) (G : fm_MG) (pa : Nat × Nat) (pb : Nat × Nat) (f : Int32) (ati : Int32) (oe : Int32) : fmD_endOf_f I J G pa pb f ati oe = fmD_endOf_L8_f 41 I J G pa pb f ati oe 0 (ati + 1) := rfl
def fmD_endOf_p (I : fm_MI) (J : fm_MJ) (G : fm_MG) (pa : Nat × Nat) (pb : Nat × Nat) (f : Int32) (ati : Int32) (oe : Int32) : Prop :=
  fmD_endOf_L8_p 41 I J G pa pb f ati oe 0 (ati + 1)
set_option maxRecDepth 100000 in
set_option maxHeartbeats 4000000 in
theorem fmD_endOf_c {E : fm_Ev} (hl : E.1.stackTraces = false) {d : Nat} (hd : 1 ≤ d) (I : fm_MI) (J : fm_MJ) (G : fm_MG) (pa : Nat × Nat) (pb : Nat × Nat) (f : Int32) (ati : Int32) (oe : Int32) (hp : fmD_endOf_p I J G pa pb f ati oe) : fm_Ct E d fmD_endOf 0 [.inr (.inr (.inr (.inr (24, 0)))), .inl f, .inl ati, .inl oe] (I, J, G, fm_P pa pb) (some (.inl (fmD_endOf_f I J G pa pb f ati oe))) (I, J, G, fm_P pa pb) := by
  obtain ⟨d, rfl⟩ : ∃ d', d = d' + 1 := ⟨d - 1, by omega⟩
  refine fm_ct fmD_endOf_o hl (Nat.le_of_ble_eq_true rfl) ?_
  have O := fmD_endOf_o.1
  unfold fmD_endOf_p at hp
  have he := fmD_endOf_e I J G pa pb f ati oe
  refine fm_gr O 6 (C' := (8, [(5, .inl (ati + 1)), (4, .inl 0), (0, .inr (.inr (.inr (.inr (24, 0))))), (1, .inl f), (2, .inl ati), (3, .inl oe)], [], (I, J, G, fm_P pa pb))) rfl ?_
  refine fm_gL O [2, 3, 4, 5, 1, 0] rfl ?_
  rw [he]
  exact fmD_endOf_L8_c hl hd 41 I J G pa pb f ati oe 0 (ati + 1) hp
