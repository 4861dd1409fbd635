/-! THE MODULE AND THE MACHINE, by program (wip/tools/walk.py, gen_c4.py) -/
def fmA_isEndless_f (x : UInt64) : Int32 :=
  if 0 < (Op.cmpValue (FP.dcmp x 9218868437227405311) .l) then 1 else (if 0 ≤ (Op.cmpValue (FP.dcmp x 18442240474082181119) .g) then 0 else 1)
theorem fmA_isEndless_e (x : UInt64) : fmA_isEndless_f x = if 0 < (Op.cmpValue (FP.dcmp x 9218868437227405311) .l) then 1 else (if 0 ≤ (Op.cmpValue (FP.dcmp x 18442240474082181119) .g) then 0 else 1) := rfl
set_option maxRecDepth 100000 in
set_option maxHeartbeats 4000000 in
theorem fmA_isEndless_c {E : fm_Ev} (hl : E.1.stackTraces = false) {d : Nat} (hd : 0 ≤ d) (I : fm_MI) (J : fm_MJ) (G : fm_MG) (pa : Nat × Nat) (pb : Nat × Nat) (x : UInt64) : fm_Ct E d fmA_isEndless 0 [.inr (.inr (.inr (.inl x)))] (I, J, G, fm_P pa pb) (some (.inl (fmA_isEndless_f x))) (I, J, G, fm_P pa pb) := by
  refine fm_ct fmA_isEndless_o hl (Nat.le_of_ble_eq_true rfl) ?_
  have O := fmA_isEndless_o.1
  have he := fmA_isEndless_e x
  refine fm_gr O 3 (C' := (5, [(0, .inr (.inr (.inr (.inl x))))], [.inl (Op.cmpValue (FP.dcmp x 9218868437227405311) .l)], (I, J, G, fm_P pa pb))) rfl ?_
  refine fm_gb O rfl (fun h => ?_) (fun h => ?_)
  · have h1 : 0 < (Op.cmpValue (FP.dcmp x 9218868437227405311) .l) := h
    have he := he.trans (if_pos h1)
    refine fm_gr O 2 (C' := (21, [(0, .inr (.inr (.inr (.inl x))))], [.inl 1], (I, J, G, fm_P pa pb))) rfl ?_
    exact fm_gRe O rfl (Or.inr rfl) (by first | (rw [he]; done) | (rw [he]; rfl) | rfl) (by first | (rw [he]; done) | (rw [he]; rfl) | rfl)
  · have h1 : ¬ 0 < (Op.cmpValue (FP.dcmp x 9218868437227405311) .l) := h
    have he := he.trans (if_neg h1)
    refine fm_gr O 3 (C' := (13, [(0, .inr (.inr (.inr (.inl x))))], [.inl (Op.cmpValue (FP.dcmp x 18442240474082181119) .g)], (I, J, G, fm_P pa pb))) rfl ?_
    refine fm_gb O rfl (fun h => ?_) (fun h => ?_)
    · have h2 : 0 ≤ (Op.cmpValue (FP.dcmp x 18442240474082181119) .g) := h
      have he := he.trans (if_pos h2)
      refine fm_gr O 1 (C' := (21, [(0, .inr (.inr (.inr (.inl x))))], [.inl 0], (I, J, G, fm_P pa pb))) rfl ?_
      exact fm_gRe O rfl (Or.inl rfl) (by first | (rw [he]; done) | (rw [he]; rfl) | rfl) (by first | (rw [he]; done) | (rw [he]; rfl) | rfl)
    · have h2 : ¬ 0 ≤ (Op.cmpValue (FP.dcmp x 18442240474082181119) .g) := h
      have he := he.trans (if_neg h2)
      refine fm_gr O 2 (C' := (21, [(0, .inr (.inr (.inr (.inl x))))], [.inl 1], (I, J, G, fm_P pa pb))) rfl ?_
      exact fm_gRe O rfl (Or.inr rfl) (by first | (rw [he]; done) | (rw [he]; rfl) | rfl) (by first | (rw [he]; done) | (rw [he]; rfl) | rfl)
def fmA_fractionOutcome_f (o : Int32) (x : UInt64) (y : UInt64) : UInt64 :=
  if o = 11 then (FP.dadd x y) else (if o = 12 then (FP.dsub x y) else (if o = 13 then (FP.dmul x y) else (FP.ddiv x y)))
theorem fmA_fractionOutcome_e (o : Int32) (x : UInt64) (y : UInt64) : fmA_fractionOutcome_f o x y = if o = 11 then (FP.dadd x y) else (if o = 12 then (FP.dsub x y) else (if o = 13 then (FP.dmul x y) else (FP.ddiv x y))) := rfl
def fmA_fractionOutcome_p (o : Int32) (x : UInt64) (y : UInt64) : Prop :=
  (o = 11 → vf_n64 (FP.dadd x y)) ∧ (¬ o = 11 → (o = 12 → vf_n64 (FP.dsub x y)) ∧ (¬ o = 12 → (o = 13 → vf_n64 (FP.dmul x y)) ∧ (¬ o = 13 → vf_n64 (FP.ddiv x y))))
set_option maxRecDepth 100000 in
set_option maxHeartbeats 4000000 in
theorem fmA_fractionOutcome_c {E : fm_Ev} (hl : E.1.stackTraces = false) {d : Nat} (hd : 0 ≤ d) (I : fm_MI) (J : fm_MJ) (G : fm_MG) (pa : Nat × Nat) (pb : Nat × Nat) (o : Int32) (x : UInt64) (y : UInt64) (hp : fmA_fractionOutcome_p o x y) : fm_Ct E d fmA_fractionOutcome 0 [.inl o, .inr (.inr (.inr (.inl x))), .inr (.inr (.inr (.inl y)))] (I, J, G, fm_P pa pb) (some (.inr (.inr (.inr (.inl (fmA_fractionOutcome_f o x y)))))) (I, J, G, fm_P pa pb) := by
  refine fm_ct fmA_fractionOutcome_o hl (Nat.le_of_ble_eq_true rfl) ?_
  have O := fmA_fractionOutcome_o.1
  unfold fmA_fractionOutcome_p at hp
  have he := fmA_fractionOutcome_e o x y
  refine fm_gr O 1 (C' := (1, [(0, .inl o), (1, .inr (.inr (.inr (.inl x)))), (3, .inr (.inr (.inr (.inl y))))], [.inl o], (I, J, G, fm_P pa pb))) rfl ?_
  by_cases h1 : o = 11
  · have he := he.trans (if_pos h1)
    have hp := hp.1 h1
    refine fm_gs O 11 rfl (show o.toInt = 11 from by rw [h1]; decide) ?_
    refine fm_gr O 2 (C' := (30, [(0, .inl o), (1, .inr (.inr (.inr (.inl x)))), (3, .inr (.inr (.inr (.inl y))))], [.inr (.inr (.inr (.inl y))), .inr (.inr (.inr (.inl x)))], (I, J, G, fm_P pa pb))) rfl ?_
    refine fm_gg O rfl hp ?_
    exact fm_gRe O rfl trivial (by first | (rw [he]; done) | (rw [he]; rfl) | rfl) (by first | (rw [he]; done) | (rw [he]; rfl) | rfl)
  · have he := he.trans (if_neg h1)
    have hp := hp.2 h1
    by_cases h2 : o = 12
    · have he := he.trans (if_pos h2)
      have hp := hp.1 h2
      refine fm_gs O 12 rfl (show o.toInt = 12 from by rw [h2]; decide) ?_
      refine fm_gr O 2 (C' := (34, [(0, .inl o), (1, .inr (.inr (.inr (.inl x)))), (3, .inr (.inr (.inr (.inl y))))], [.inr (.inr (.inr (.inl y))), .inr (.inr (.inr (.inl x)))], (I, J, G, fm_P pa pb))) rfl ?_
      refine fm_gg O rfl hp ?_
      exact fm_gRe O rfl trivial (by first | (rw [he]; done) | (rw [he]; rfl) | rfl) (by first | (rw [he]; done) | (rw [he]; rfl) | rfl)
    · have he := he.trans (if_neg h2)
      have hp := hp.2 h2
      by_cases h3 : o = 13
      · have he := he.trans (if_pos h3)
        have hp := hp.1 h3
        refine fm_gs O 13 rfl (show o.toInt = 13 from by rw [h3]; decide) ?_
        refine fm_gr O 2 (C' := (38, [(0, .inl o), (1, .inr (.inr (.inr (.inl x)))), (3, .inr (.inr (.inr (.inl y))))], [.inr (.inr (.inr (.inl y))), .inr (.inr (.inr (.inl x)))], (I, J, G, fm_P pa pb))) rfl ?_
        refine fm_gg O rfl hp ?_
        exact fm_gRe O rfl trivial (by first | (rw [he]; done) | (rw [he]; rfl) | rfl) (by first | (rw [he]; done) | (rw [he]; rfl) | rfl)
      · have he := he.trans (if_neg h3)
        have hp := hp.2 h3
        have hz : o.toInt < 11 ∨ 13 < o.toInt := by
          have := lv_neT h1 (show (11 : Int32).toInt = 11 from by decide)
          have := lv_neT h2 (show (12 : Int32).toInt = 12 from by decide)
          have := lv_neT h3 (show (13 : Int32).toInt = 13 from by decide)
          omega
        refine fm_gt O rfl hz ?_
        refine fm_gr O 2 (C' := (42, [(0, .inl o), (1, .inr (.inr (.inr (.inl x)))), (3, .inr (.inr (.inr (.inl y))))], [.inr (.inr (.inr (.inl y))), .inr (.inr (.inr (.inl x)))], (I, J, G, fm_P pa pb))) rfl ?_
        refine fm_gg O rfl hp ?_
        exact fm_gRe O rfl trivial (by first | (rw [he]; done) | (rw [he]; rfl) | rfl) (by first | (rw [he]; done) | (rw [he]; rfl) | rfl)
def fmA_divisor_f (y : Int64) : Nat × Int64 :=
  if (lg_cmp y 0) = 0 then ((3, 0)) else ((0, y))
theorem fmA_divisor_e (y : Int64) : fmA_divisor_f y = if (lg_cmp y 0) = 0 then ((3, 0)) else ((0, y)) := rfl
set_option maxRecDepth 100000 in
set_option maxHeartbeats 4000000 in
theorem fmA_divisor_c {E : fm_Ev} (hl : E.1.stackTraces = false) {d : Nat} (hd : 6 ≤ d) (I : fm_MI) (J : fm_MJ) (G : fm_MG) (pa : Nat × Nat) (pb : Nat × Nat) (y : Int64) : fm_Cz E d fmA_divisor [.inr (.inl y)] (I, J, G, fm_P pa pb) ((fmA_divisor_f y).1) (some (.inr (.inl ((fmA_divisor_f y).2)))) (I, J, G, fm_P pa pb) := by
  obtain ⟨d, rfl⟩ : ∃ d', d = d' + 6 := ⟨d - 6, by omega⟩
  refine fm_zc fmA_divisor_o hl (Nat.le_of_ble_eq_true rfl) ?_
  have O := fmA_divisor_o.1
  have he := fmA_divisor_e y
  refine fm_zl (fun nn ZZ => fm_gr O 3 (C' := (3, [(0, .inr (.inl y))], [.inl (lg_cmp y 0)], (I, J, G, fm_P pa pb))) rfl) ?_
  refine fm_zb O rfl (fun h => ?_) (fun h => ?_)
  · have h1 : (lg_cmp y 0) = 0 := h
    have he := he.trans (if_pos h1)
    exact fm_zT (k := 2) O (by decide) fm_atAA rfl rfl rfl rfl (Nat.le_of_ble_eq_true rfl) (by rw [he]) (by first | (rw [he]; done) | (rw [he]; rfl) | rfl)
  · have h1 : ¬ (lg_cmp y 0) = 0 := h
    have he := he.trans (if_neg h1)
    refine fm_zl (fun nn ZZ => fm_gr O 1 (C' := (15, [(0, .inr (.inl y))], [.inr (.inl y)], (I, J, G, fm_P pa pb))) rfl) ?_
    exact fm_zR O rfl trivial (by first | (rw [he]; done) | (rw [he]; rfl) | rfl) (by first | (rw [he]; done) | (rw [he]; rfl) | rfl) (by first | (rw [he]; done) | (rw [he]; rfl) | rfl)
def fmA_wholeOutcome_f (o : Int32) (x : Int64) (y : Int64) (ms : Int32) : Nat × Int64 :=
  if o = 11 then ((0, x + y)) else (if o = 12 then ((0, x - y)) else (if o = 13 then ((0, x * y)) else (if o = 14 then (fm_let (fmA_divisor_f y) (fun (r1 : Nat × Int64) => if r1.1 = 0 then ((0, x / r1.2)) else ((r1.1, 0)))) else (if o = 15 then (fm_let (fmA_divisor_f y) (fun (r2 : Nat × Int64) => if r2.1 = 0 then ((0, x - x / r2.2 * r2.2)) else ((r2.1, 0)))) else (if o = 16 then ((0, x &&& y)) else ((0, x <<< (((y &&& ms.toInt64).toInt32).toInt64 &&& 63))))))))
theorem fmA_wholeOutcome_e (o : Int32) (x : Int64) (y : Int64) (ms : Int32) : fmA_wholeOutcome_f o x y ms = if o = 11 then ((0, x + y)) else (if o = 12 then ((0, x - y)) else (if o = 13 then ((0, x * y)) else (if o = 14 then (fm_let (fmA_divisor_f y) (fun (r1 : Nat × Int64) => if r1.1 = 0 then ((0, x / r1.2)) else ((r1.1, 0)))) else (if o = 15 then (fm_let (fmA_divisor_f y) (fun (r2 : Nat × Int64) => if r2.1 = 0 then ((0, x - x / r2.2 * r2.2)) else ((r2.1, 0)))) else (if o = 16 then ((0, x &&& y)) else ((0, x <<< (((y &&& ms.toInt64).toInt32).toInt64 &&& 63)))))))) := rfl
def fmA_wholeOutcome_p (o : Int32) (y : Int64) : Prop :=
  (o = 11 → True) ∧ (¬ o = 11 → (o = 12 → True) ∧ (¬ o = 12 → (o = 13 → True) ∧ (¬ o = 13 → (o = 14 → fm_let (fmA_divisor_f y) (fun (r1 : Nat × Int64) => (r1.1 = 0 → ¬ r1.2 = 0))) ∧ (¬ o = 14 → (o = 15 → fm_let (fmA_divisor_f y) (fun (r2 : Nat × Int64) => (r2.1 = 0 → ¬ r2.2 = 0))) ∧ (¬ o = 15 → True)))))
set_option maxRecDepth 100000 in
set_option maxHeartbeats 4000000 in
theorem fmA_wholeOutcome_c {E : fm_Ev} (hl : E.1.stackTraces = false) {d : Nat} (hd : 7 ≤ d) (I : fm_MI) (J : fm_MJ) (G : fm_MG) (pa : Nat × Nat) (pb : Nat × Nat) (o : Int32) (x : Int64) (y : Int64) (ms : Int32) (hp : fmA_wholeOutcome_p o y) : fm_Cz E d fmA_wholeOutcome [.inl o, .inr (.inl x), .inr (.inl y), .inl ms] (I, J, G, fm_P pa pb) ((fmA_wholeOutcome_f o x y ms).1) (some (.inr (.inl ((fmA_wholeOutcome_f o x y ms).2)))) (I, J, G, fm_P pa pb) := by
  obtain ⟨d, rfl⟩ : ∃ d', d = d' + 6 := ⟨d - 6, by omega⟩
  refine fm_zc fmA_wholeOutcome_o hl (Nat.le_of_ble_eq_true rfl) ?_
  have O := fmA_wholeOutcome_o.1
  unfold fmA_wholeOutcome_p at hp
  have he := fmA_wholeOutcome_e o x y ms
  refine fm_zl (fun nn ZZ => fm_gr O 1 (C' := (1, [(0, .inl o), (1, .inr (.inl x)), (3, .inr (.inl y)), (5, .inl ms)], [.inl o], (I, J, G, fm_P pa pb))) rfl) ?_
  by_cases h1 : o = 11
  · have he := he.trans (if_pos h1)
    refine fm_zl (fun nn ZZ => fm_gs O 11 rfl (show o.toInt = 11 from by rw [h1]; decide)) ?_
    refine fm_zl (fun nn ZZ => fm_gr O 3 (C' := (43, [(0, .inl o), (1, .inr (.inl x)), (3, .inr (.inl y)), (5, .inl ms)], [.inr (.inl (x + y))], (I, J, G, fm_P pa pb))) rfl) ?_
    exact fm_zR O rfl trivial (by first | (rw [he]; done) | (rw [he]; rfl) | rfl) (by first | (rw [he]; done) | (rw [he]; rfl) | rfl) (by first | (rw [he]; done) | (rw [he]; rfl) | rfl)
  · have he := he.trans (if_neg h1)
    have hp := hp.2 h1
    by_cases h2 : o = 12
    · have he := he.trans (if_pos h2)
      refine fm_zl (fun nn ZZ => fm_gs O 12 rfl (show o.toInt = 12 from by rw [h2]; decide)) ?_
      refine fm_zl (fun nn ZZ => fm_gr O 3 (C' := (47, [(0, .inl o), (1, .inr (.inl x)), (3, .inr (.inl y)), (5, .inl ms)], [.inr (.inl (x - y))], (I, J, G, fm_P pa pb))) rfl) ?_
      exact fm_zR O rfl trivial (by first | (rw [he]; done) | (rw [he]; rfl) | rfl) (by first | (rw [he]; done) | (rw [he]; rfl) | rfl) (by first | (rw [he]; done) | (rw [he]; rfl) | rfl)
    · have he := he.trans (if_neg h2)
      have hp := hp.2 h2
      by_cases h3 : o = 13
      · have he := he.trans (if_pos h3)
        refine fm_zl (fun nn ZZ => fm_gs O 13 rfl (show o.toInt = 13 from by rw [h3]; decide)) ?_
        refine fm_zl (fun nn ZZ => fm_gr O 3 (C' := (51, [(0, .inl o), (1, .inr (.inl x)), (3, .inr (.inl y)), (5, .inl ms)], [.inr (.inl (x * y))], (I, J, G, fm_P pa pb))) rfl) ?_
        exact fm_zR O rfl trivial (by first | (rw [he]; done) | (rw [he]; rfl) | rfl) (by first | (rw [he]; done) | (rw [he]; rfl) | rfl) (by first | (rw [he]; done) | (rw [he]; rfl) | rfl)
      · have he := he.trans (if_neg h3)
        have hp := hp.2 h3
        by_cases h4 : o = 14
        · have he := he.trans (if_pos h4)
          have hp := hp.1 h4
          refine fm_zl (fun nn ZZ => fm_gs O 14 rfl (show o.toInt = 14 from by rw [h4]; decide)) ?_
          refine fm_zl (fun nn ZZ => fm_gr O 2 (C' := (54, [(0, .inl o), (1, .inr (.inl x)), (3, .inr (.inl y)), (5, .inl ms)], [.inr (.inl y), .inr (.inl x)], (I, J, G, fm_P pa pb))) rfl) ?_
          have K := fmA_divisor_c (d := d + 5) hl (by omega) I J G pa pb y
          generalize er1 : fmA_divisor_f y = r1 at he hp
          have he := he.trans (fm_letE _ _)
          have hp := fm_letP hp
          rw [er1] at K
          refine fm_zS O fmA_divisor_o (by decide) (as := [.inr (.inl y)]) (rest := [.inr (.inl x)]) (v := some (.inr (.inl r1.2))) rfl fk_7_15 fn_A_divisor (Nat.le_of_ble_eq_true rfl) K ?_ ?_
          · intro h5
            have he := he.trans (if_pos h5)
            have hp := hp h5
            refine fm_zl (fun nn ZZ => fm_gg O rfl hp) ?_
            exact fm_zR O rfl trivial (by first | (rw [he]; done) | (rw [he]; rfl) | rfl) (by first | (rw [he]; done) | (rw [he]; rfl) | rfl) (by first | (rw [he]; done) | (rw [he]; rfl) | rfl)
          · intro h5
            have he := he.trans (if_neg h5)
            exact ⟨by rw [he], by first | (rw [he]; done) | (rw [he]; rfl) | rfl⟩
        · have he := he.trans (if_neg h4)
          have hp := hp.2 h4
          by_cases h5 : o = 15
          · have he := he.trans (if_pos h5)
            have hp := hp.1 h5
            refine fm_zl (fun nn ZZ => fm_gs O 15 rfl (show o.toInt = 15 from by rw [h5]; decide)) ?_
            refine fm_zl (fun nn ZZ => fm_gr O 2 (C' := (61, [(0, .inl o), (1, .inr (.inl x)), (3, .inr (.inl y)), (5, .inl ms)], [.inr (.inl y), .inr (.inl x)], (I, J, G, fm_P pa pb))) rfl) ?_
            have K := fmA_divisor_c (d := d + 5) hl (by omega) I J G pa pb y
            generalize er2 : fmA_divisor_f y = r2 at he hp
            have he := he.trans (fm_letE _ _)
            have hp := fm_letP hp
            rw [er2] at K
            refine fm_zS O fmA_divisor_o (by decide) (as := [.inr (.inl y)]) (rest := [.inr (.inl x)]) (v := some (.inr (.inl r2.2))) rfl fk_7_15 fn_A_divisor (Nat.le_of_ble_eq_true rfl) K ?_ ?_
            · intro h6
              have he := he.trans (if_pos h6)
              have hp := hp h6
              refine fm_zl (fun nn ZZ => fm_gg O rfl hp) ?_
              exact fm_zR O rfl trivial (by first | (rw [he]; done) | (rw [he]; rfl) | rfl) (by first | (rw [he]; done) | (rw [he]; rfl) | rfl) (by first | (rw [he]; done) | (rw [he]; rfl) | rfl)
            · intro h6
              have he := he.trans (if_neg h6)
              exact ⟨by rw [he], by first | (rw [he]; done) | (rw [he]; rfl) | rfl⟩
          · have he := he.trans (if_neg h5)
            by_cases h6 : o = 16
            · have he := he.trans (if_pos h6)
              refine fm_zl (fun nn ZZ => fm_gs O 16 rfl (show o.toInt = 16 from by rw [h6]; decide)) ?_
              refine fm_zl (fun nn ZZ => fm_gr O 3 (C' := (69, [(0, .inl o), (1, .inr (.inl x)), (3, .inr (.inl y)), (5, .inl ms)], [.inr (.inl (x &&& y))], (I, J, G, fm_P pa pb))) rfl) ?_
              exact fm_zR O rfl trivial (by first | (rw [he]; done) | (rw [he]; rfl) | rfl) (by first | (rw [he]; done) | (rw [he]; rfl) | rfl) (by first | (rw [he]; done) | (rw [he]; rfl) | rfl)
            · have he := he.trans (if_neg h6)
              have hz : o.toInt < 11 ∨ 16 < o.toInt := by
                have := lv_neT h1 (show (11 : Int32).toInt = 11 from by decide)
                have := lv_neT h2 (show (12 : Int32).toInt = 12 from by decide)
                have := lv_neT h3 (show (13 : Int32).toInt = 13 from by decide)
                have := lv_neT h4 (show (14 : Int32).toInt = 14 from by decide)
                have := lv_neT h5 (show (15 : Int32).toInt = 15 from by decide)
                have := lv_neT h6 (show (16 : Int32).toInt = 16 from by decide)
                omega
              refine fm_zl (fun nn ZZ => fm_gt O rfl hz) ?_
              refine fm_zl (fun nn ZZ => fm_gr O 7 (C' := (78, [(0, .inl o), (1, .inr (.inl x)), (3, .inr (.inl y)), (5, .inl ms)], [.inr (.inl (x <<< (((y &&& ms.toInt64).toInt32).toInt64 &&& 63)))], (I, J, G, fm_P pa pb))) rfl) ?_
              exact fm_zR O rfl trivial (by first | (rw [he]; done) | (rw [he]; rfl) | rfl) (by first | (rw [he]; done) | (rw [he]; rfl) | rfl) (by first | (rw [he]; done) | (rw [he]; rfl) | rfl)
def fmA_ofWholes_f (o : Int32) (ty : Int32) (x : Int64) (y : Int64) : Nat × Int64 :=
  if ty = 0 then (fm_let (fmA_wholeOutcome_f o x y 31) (fun (r1 : Nat × Int64) => if r1.1 = 0 then ((0, r1.2.toInt32.toInt64)) else ((r1.1, 0)))) else (fm_let (fmA_wholeOutcome_f o x y 63) (fun (r2 : Nat × Int64) => if r2.1 = 0 then ((0, r2.2)) else ((r2.1, 0))))
theorem fmA_ofWholes_e (o : Int32) (ty : Int32) (x : Int64) (y : Int64) : fmA_ofWholes_f o ty x y = if ty = 0 then (fm_let (fmA_wholeOutcome_f o x y 31) (fun (r1 : Nat × Int64) => if r1.1 = 0 then ((0, r1.2.toInt32.toInt64)) else ((r1.1, 0)))) else (fm_let (fmA_wholeOutcome_f o x y 63) (fun (r2 : Nat × Int64) => if r2.1 = 0 then ((0, r2.2)) else ((r2.1, 0)))) := rfl
def fmA_ofWholes_p (o : Int32) (ty : Int32) (y : Int64) : Prop :=
  (ty = 0 → fmA_wholeOutcome_p o y) ∧ (¬ ty = 0 → fmA_wholeOutcome_p o y)
set_option maxRecDepth 100000 in
set_option maxHeartbeats 4000000 in
theorem fmA_ofWholes_c {E : fm_Ev} (hl : E.1.stackTraces = false) {d : Nat} (hd : 8 ≤ d) (I : fm_MI) (J : fm_MJ) (G : fm_MG) (pa : Nat × Nat) (pb : Nat × Nat) (o : Int32) (ty : Int32) (x : Int64) (y : Int64) (hp : fmA_ofWholes_p o ty y) : fm_Cz E d fmA_ofWholes [.inl o, .inl ty, .inr (.inl x), .inr (.inl y)] (I, J, G, fm_P pa pb) ((fmA_ofWholes_f o ty x y).1) (some (.inr (.inl ((fmA_ofWholes_f o ty x y).2)))) (I, J, G, fm_P pa pb) := by
  obtain ⟨d, rfl⟩ : ∃ d', d = d' + 6 := ⟨d - 6, by omega⟩
  refine fm_zc fmA_ofWholes_o hl (Nat.le_of_ble_eq_true rfl) ?_
  have O := fmA_ofWholes_o.1
  unfold fmA_ofWholes_p at hp
  have he := fmA_ofWholes_e o ty x y
  refine fm_zl (fun nn ZZ => fm_gr O 4 (C' := (5, [(0, .inl o), (1, .inl ty), (2, .inr (.inl x)), (4, .inr (.inl y))], [.inl ty, .inr (.inl y), .inr (.inl x), .inl o], (I, J, G, fm_P pa pb))) rfl) ?_
  refine fm_zb O rfl (fun h => ?_) (fun h => ?_)
  · have h1 : ty = 0 := h
    have he := he.trans (if_pos h1)
    have hp := hp.1 h1
    refine fm_zl (fun nn ZZ => fm_gr O 2 (C' := (15, [(0, .inl o), (1, .inl ty), (2, .inr (.inl x)), (4, .inr (.inl y))], [.inl 31, .inr (.inl y), .inr (.inl x), .inl o], (I, J, G, fm_P pa pb))) rfl) ?_
    have K := fmA_wholeOutcome_c (d := d + 5) hl (by omega) I J G pa pb o x y 31 hp
    generalize er1 : fmA_wholeOutcome_f o x y 31 = r1 at he
    have he := he.trans (fm_letE _ _)
    rw [er1] at K
    refine fm_zS O fmA_wholeOutcome_o (by decide) (as := [.inl o, .inr (.inl x), .inr (.inl y), .inl 31]) (rest := []) (v := some (.inr (.inl r1.2))) rfl fk_7_9 fn_A_wholeOutcome (Nat.le_of_ble_eq_true rfl) K ?_ ?_
    · intro h2
      have he := he.trans (if_pos h2)
      refine fm_zl (fun nn ZZ => fm_gr O 2 (C' := (21, [(6, .inr (.inl r1.2)), (0, .inl o), (1, .inl ty), (2, .inr (.inl x)), (4, .inr (.inl y))], [.inl ty], (I, J, G, fm_P pa pb))) rfl) ?_
      refine fm_zb O rfl (fun h => ?_) (fun h => ?_)
      rotate_left
      · exact absurd h1 h
      · refine fm_zl (fun nn ZZ => fm_gr O 4 (C' := (33, [(6, .inr (.inl r1.2)), (0, .inl o), (1, .inl ty), (2, .inr (.inl x)), (4, .inr (.inl y))], [.inr (.inl r1.2.toInt32.toInt64)], (I, J, G, fm_P pa pb))) rfl) ?_
        exact fm_zR O rfl trivial (by first | (rw [he]; done) | (rw [he]; rfl) | rfl) (by first | (rw [he]; done) | (rw [he]; rfl) | rfl) (by first | (rw [he]; done) | (rw [he]; rfl) | rfl)
    · intro h2
      have he := he.trans (if_neg h2)
      exact ⟨by rw [he], by first | (rw [he]; done) | (rw [he]; rfl) | rfl⟩
  · have h1 : ¬ ty = 0 := h
    have he := he.trans (if_neg h1)
    have hp := hp.2 h1
    refine fm_zl (fun nn ZZ => fm_gr O 1 (C' := (15, [(0, .inl o), (1, .inl ty), (2, .inr (.inl x)), (4, .inr (.inl y))], [.inl 63, .inr (.inl y), .inr (.inl x), .inl o], (I, J, G, fm_P pa pb))) rfl) ?_
    have K := fmA_wholeOutcome_c (d := d + 5) hl (by omega) I J G pa pb o x y 63 hp
    generalize er2 : fmA_wholeOutcome_f o x y 63 = r2 at he
    have he := he.trans (fm_letE _ _)
    rw [er2] at K
    refine fm_zS O fmA_wholeOutcome_o (by decide) (as := [.inl o, .inr (.inl x), .inr (.inl y), .inl 63]) (rest := []) (v := some (.inr (.inl r2.2))) rfl fk_7_9 fn_A_wholeOutcome (Nat.le_of_ble_eq_true rfl) K ?_ ?_
    · intro h2
      have he := he.trans (if_pos h2)
      refine fm_zl (fun nn ZZ => fm_gr O 2 (C' := (21, [(6, .inr (.inl r2.2)), (0, .inl o), (1, .inl ty), (2, .inr (.inl x)), (4, .inr (.inl y))], [.inl ty], (I, J, G, fm_P pa pb))) rfl) ?_
      refine fm_zb O rfl (fun h => ?_) (fun h => ?_)
      · exact absurd h h1
      · refine fm_zl (fun nn ZZ => fm_gr O 1 (C' := (33, [(6, .inr (.inl r2.2)), (0, .inl o), (1, .inl ty), (2, .inr (.inl x)), (4, .inr (.inl y))], [.inr (.inl r2.2)], (I, J, G, fm_P pa pb))) rfl) ?_
        exact fm_zR O rfl trivial (by first | (rw [he]; done) | (rw [he]; rfl) | rfl) (by first | (rw [he]; done) | (rw [he]; rfl) | rfl) (by first | (rw [he]; done) | (rw [he]; rfl) | rfl)
    · intro h2
      have he := he.trans (if_neg h2)
      exact ⟨by rw [he], by first | (rw [he]; done) | (rw [he]; rfl) | rfl⟩
def fmA_trapIfTooLarge_f (x : UInt64) : Nat :=
  if 0 < (Op.cmpValue (FP.dcmp x 4741671816366391296) .l) then 3 else (if 0 ≤ (Op.cmpValue (FP.dcmp x 13965043853221167104) .g) then 0 else 3)
theorem fmA_trapIfTooLarge_e (x : UInt64) : fmA_trapIfTooLarge_f x = if 0 < (Op.cmpValue (FP.dcmp x 4741671816366391296) .l) then 3 else (if 0 ≤ (Op.cmpValue (FP.dcmp x 13965043853221167104) .g) then 0 else 3) := rfl
set_option maxRecDepth 100000 in
set_option maxHeartbeats 4000000 in
theorem fmA_trapIfTooLarge_c {E : fm_Ev} (hl : E.1.stackTraces = false) {d : Nat} (hd : 6 ≤ d) (I : fm_MI) (J : fm_MJ) (G : fm_MG) (pa : Nat × Nat) (pb : Nat × Nat) (x : UInt64) : fm_Cz E d fmA_trapIfTooLarge [.inr (.inr (.inr (.inl x)))] (I, J, G, fm_P pa pb) (fmA_trapIfTooLarge_f x) none (I, J, G, fm_P pa pb) := by
  obtain ⟨d, rfl⟩ : ∃ d', d = d' + 6 := ⟨d - 6, by omega⟩
  refine fm_zc fmA_trapIfTooLarge_o hl (Nat.le_of_ble_eq_true rfl) ?_
  have O := fmA_trapIfTooLarge_o.1
  have he := fmA_trapIfTooLarge_e x
  refine fm_zl (fun nn ZZ => fm_gr O 3 (C' := (5, [(0, .inr (.inr (.inr (.inl x))))], [.inl (Op.cmpValue (FP.dcmp x 4741671816366391296) .l)], (I, J, G, fm_P pa pb))) rfl) ?_
  refine fm_zb O rfl (fun h => ?_) (fun h => ?_)
  · have h1 : 0 < (Op.cmpValue (FP.dcmp x 4741671816366391296) .l) := h
    have he := he.trans (if_pos h1)
    exact fm_zT (k := 2) O (by decide) fm_atAA rfl rfl rfl rfl (Nat.le_of_ble_eq_true rfl) (by rw [he]) (by first | (rw [he]; done) | (rw [he]; rfl) | rfl)
  · have h1 : ¬ 0 < (Op.cmpValue (FP.dcmp x 4741671816366391296) .l) := h
    have he := he.trans (if_neg h1)
    refine fm_zl (fun nn ZZ => fm_gr O 3 (C' := (13, [(0, .inr (.inr (.inr (.inl x))))], [.inl (Op.cmpValue (FP.dcmp x 13965043853221167104) .g)], (I, J, G, fm_P pa pb))) rfl) ?_
    refine fm_zb O rfl (fun h => ?_) (fun h => ?_)
    · have h2 : 0 ≤ (Op.cmpValue (FP.dcmp x 13965043853221167104) .g) := h
      have he := he.trans (if_pos h2)
      exact fm_zR O rfl trivial (by first | (rw [he]; done) | (rw [he]; rfl) | rfl) (by first | (rw [he]; done) | (rw [he]; rfl) | rfl) (by first | (rw [he]; done) | (rw [he]; rfl) | rfl)
    · have h2 : ¬ 0 ≤ (Op.cmpValue (FP.dcmp x 13965043853221167104) .g) := h
      have he := he.trans (if_neg h2)
      exact fm_zT (k := 2) O (by decide) fm_atAA rfl rfl rfl rfl (Nat.le_of_ble_eq_true rfl) (by rw [he]) (by first | (rw [he]; done) | (rw [he]; rfl) | rfl)
def fmA_ofFractions_f (o : Int32) (ty : Int32) (x : UInt64) (y : UInt64) : Nat × UInt64 :=
  if o = 14 then (if (Op.cmpValue (FP.dcmp y FP.dconst0) .l) = 0 then ((3, FP.dconst0)) else (if (Op.cmpValue (FP.dcmp x x) .l) = 0 then (if (Op.cmpValue (FP.dcmp y y) .l) = 0 then (fm_let (fmA_isEndless_f x) (fun (r1 : Int32) => if r1 = 0 then (fm_let (fmA_isEndless_f y) (fun (r2 : Int32) => if r2 = 0 then (fm_let (fmA_fractionOutcome_f o x y) (fun (r3 : UInt64) => if ty = 2 then (fm_let (fmA_trapIfTooLarge_f (FP.f2d (FP.d2f r3))) (fun (r4 : Nat) => if r4 = 0 then ((0, FP.f2d (FP.d2f r3))) else ((r4, FP.dconst0)))) else (fm_let (fmA_trapIfTooLarge_f r3) (fun (r5 : Nat) => if r5 = 0 then ((0, r3)) else ((r5, FP.dconst0)))))) else (fm_let (fmA_fractionOutcome_f o x y) (fun (r6 : UInt64) => if ty = 2 then (fm_let (fmA_trapIfTooLarge_f (FP.f2d (FP.d2f r6))) (fun (r7 : Nat) => if r7 = 0 then ((0, FP.f2d (FP.d2f r6))) else ((r7, FP.dconst0)))) else (fm_let (fmA_trapIfTooLarge_f r6) (fun (r8 : Nat) => if r8 = 0 then ((0, r6)) else ((r8, FP.dconst0)))))))) else ((3, FP.dconst0)))) else ((0, y))) else ((0, x)))) else (if (Op.cmpValue (FP.dcmp x x) .l) = 0 then (if (Op.cmpValue (FP.dcmp y y) .l) = 0 then (fm_let (fmA_isEndless_f x) (fun (r9 : Int32) => if r9 = 0 then (fm_let (fmA_isEndless_f y) (fun (r10 : Int32) => if r10 = 0 then (fm_let (fmA_fractionOutcome_f o x y) (fun (r11 : UInt64) => if ty = 2 then (fm_let (fmA_trapIfTooLarge_f (FP.f2d (FP.d2f r11))) (fun (r12 : Nat) => if r12 = 0 then ((0, FP.f2d (FP.d2f r11))) else ((r12, FP.dconst0)))) else (fm_let (fmA_trapIfTooLarge_f r11) (fun (r13 : Nat) => if r13 = 0 then ((0, r11)) else ((r13, FP.dconst0)))))) else ((3, FP.dconst0)))) else ((3, FP.dconst0)))) else ((0, y))) else ((0, x)))
theorem fmA_ofFractions_e (o : Int32) (ty : Int32) (x : UInt64) (y : UInt64) : fmA_ofFractions_f o ty x y = if o = 14 then (if (Op.cmpValue (FP.dcmp y FP.dconst0) .l) = 0 then ((3, FP.dconst0)) else (if (Op.cmpValue (FP.dcmp x x) .l) = 0 then (if (Op.cmpValue (FP.dcmp y y) .l) = 0 then (fm_let (fmA_isEndless_f x) (fun (r1 : Int32) => if r1 = 0 then (fm_let (fmA_isEndless_f y) (fun (r2 : Int32) => if r2 = 0 then (fm_let (fmA_fractionOutcome_f o x y) (fun (r3 : UInt64) => if ty = 2 then (fm_let (fmA_trapIfTooLarge_f (FP.f2d (FP.d2f r3))) (fun (r4 : Nat) => if r4 = 0 then ((0, FP.f2d (FP.d2f r3))) else ((r4, FP.dconst0)))) else (fm_let (fmA_trapIfTooLarge_f r3) (fun (r5 : Nat) => if r5 = 0 then ((0, r3)) else ((r5, FP.dconst0)))))) else (fm_let (fmA_fractionOutcome_f o x y) (fun (r6 : UInt64) => if ty = 2 then (fm_let (fmA_trapIfTooLarge_f (FP.f2d (FP.d2f r6))) (fun (r7 : Nat) => if r7 = 0 then ((0, FP.f2d (FP.d2f r6))) else ((r7, FP.dconst0)))) else (fm_let (fmA_trapIfTooLarge_f r6) (fun (r8 : Nat) => if r8 = 0 then ((0, r6)) else ((r8, FP.dconst0)))))))) else ((3, FP.dconst0)))) else ((0, y))) else ((0, x)))) else (if (Op.cmpValue (FP.dcmp x x) .l) = 0 then (if (Op.cmpValue (FP.dcmp y y) .l) = 0 then (fm_let (fmA_isEndless_f x) (fun (r9 : Int32) => if r9 = 0 then (fm_let (fmA_isEndless_f y) (fun (r10 : Int32) => if r10 = 0 then (fm_let (fmA_fractionOutcome_f o x y) (fun (r11 : UInt64) => if ty = 2 then (fm_let (fmA_trapIfTooLarge_f (FP.f2d (FP.d2f r11))) (fun (r12 : Nat) => if r12 = 0 then ((0, FP.f2d (FP.d2f r11))) else ((r12, FP.dconst0)))) else (fm_let (fmA_trapIfTooLarge_f r11) (fun (r13 : Nat) => if r13 = 0 then ((0, r11)) else ((r13, FP.dconst0)))))) else ((3, FP.dconst0)))) else ((3, FP.dconst0)))) else ((0, y))) else ((0, x))) := rfl
def fmA_ofFractions_p (o : Int32) (ty : Int32) (x : UInt64) (y : UInt64) : Prop :=
  (o = 14 → ((Op.cmpValue (FP.dcmp y FP.dconst0) .l) = 0 → True) ∧ (¬ (Op.cmpValue (FP.dcmp y FP.dconst0) .l) = 0 → ((Op.cmpValue (FP.dcmp x x) .l) = 0 → ((Op.cmpValue (FP.dcmp y y) .l) = 0 → fm_let (fmA_isEndless_f x) (fun (r1 : Int32) => (r1 = 0 → fm_let (fmA_isEndless_f y) (fun (r2 : Int32) => (r2 = 0 → fmA_fractionOutcome_p o x y ∧ (fm_let (fmA_fractionOutcome_f o x y) (fun (r3 : UInt64) => (ty = 2 → (vf_n32 (FP.d2f r3)) ∧ (vf_n64 (FP.f2d (FP.d2f r3)))) ∧ (¬ ty = 2 → True)))) ∧ (¬ r2 = 0 → fmA_fractionOutcome_p o x y ∧ (fm_let (fmA_fractionOutcome_f o x y) (fun (r6 : UInt64) => (ty = 2 → (vf_n32 (FP.d2f r6)) ∧ (vf_n64 (FP.f2d (FP.d2f r6)))) ∧ (¬ ty = 2 → True)))))) ∧ (¬ r1 = 0 → True))) ∧ (¬ (Op.cmpValue (FP.dcmp y y) .l) = 0 → True)) ∧ (¬ (Op.cmpValue (FP.dcmp x x) .l) = 0 → True))) ∧ (¬ o = 14 → ((Op.cmpValue (FP.dcmp x x) .l) = 0 → ((Op.cmpValue (FP.dcmp y y) .l) = 0 → fm_let (fmA_isEndless_f x) (fun (r9 : Int32) => (r9 = 0 → fm_let (fmA_isEndless_f y) (fun (r10 : Int32) => (r10 = 0 → fmA_fractionOutcome_p o x y ∧ (fm_let (fmA_fractionOutcome_f o x y) (fun (r11 : UInt64) => (ty = 2 → (vf_n32 (FP.d2f r11)) ∧ (vf_n64 (FP.f2d (FP.d2f r11)))) ∧ (¬ ty = 2 → True)))) ∧ (¬ r10 = 0 → True))) ∧ (¬ r9 = 0 → True))) ∧ (¬ (Op.cmpValue (FP.dcmp y y) .l) = 0 → True)) ∧ (¬ (Op.cmpValue (FP.dcmp x x) .l) = 0 → True))
set_option maxRecDepth 100000 in
set_option maxHeartbeats 4000000 in
theorem fmA_ofFractions_c {E : fm_Ev} (hl : E.1.stackTraces = false) {d : Nat} (hd : 7 ≤ d) (I : fm_MI) (J : fm_MJ) (G : fm_MG) (pa : Nat × Nat) (pb : Nat × Nat) (o : Int32) (ty : Int32) (x : UInt64) (y : UInt64) (hp : fmA_ofFractions_p o ty x y) : fm_Cz E d fmA_ofFractions [.inl o, .inl ty, .inr (.inr (.inr (.inl x))), .inr (.inr (.inr (.inl y)))] (I, J, G, fm_P pa pb) ((fmA_ofFractions_f o ty x y).1) (some (.inr (.inr (.inr (.inl ((fmA_ofFractions_f o ty x y).2)))))) (I, J, G, fm_P pa pb) := by
  obtain ⟨d, rfl⟩ : ∃ d', d = d' + 6 := ⟨d - 6, by omega⟩
  refine fm_zc fmA_ofFractions_o hl (Nat.le_of_ble_eq_true rfl) ?_
  have O := fmA_ofFractions_o.1
  unfold fmA_ofFractions_p at hp
  have he := fmA_ofFractions_e o ty x y
  refine fm_zl (fun nn ZZ => fm_gr O 2 (C' := (3, [(0, .inl o), (1, .inl ty), (2, .inr (.inr (.inr (.inl x)))), (4, .inr (.inr (.inr (.inl y))))], [.inl 14, .inl o], (I, J, G, fm_P pa pb))) rfl) ?_
  refine fm_zb O rfl (fun h => ?_) (fun h => ?_)
  · have h1 : o = 14 := h
    have he := he.trans (if_pos h1)
    have hp := hp.1 h1
    refine fm_zl (fun nn ZZ => fm_gr O 3 (C' := (10, [(0, .inl o), (1, .inl ty), (2, .inr (.inr (.inr (.inl x)))), (4, .inr (.inr (.inr (.inl y))))], [.inl (Op.cmpValue (FP.dcmp y FP.dconst0) .l)], (I, J, G, fm_P pa pb))) rfl) ?_
    refine fm_zb O rfl (fun h => ?_) (fun h => ?_)
    · have h2 : (Op.cmpValue (FP.dcmp y FP.dconst0) .l) = 0 := h
      have he := he.trans (if_pos h2)
      exact fm_zT (k := 2) O (by decide) fm_atAA rfl rfl rfl rfl (Nat.le_of_ble_eq_true rfl) (by rw [he]) (by first | (rw [he]; done) | (rw [he]; rfl) | rfl)
    · have h2 : ¬ (Op.cmpValue (FP.dcmp y FP.dconst0) .l) = 0 := h
      have he := he.trans (if_neg h2)
      have hp := hp.2 h2
      refine fm_zl (fun nn ZZ => fm_gr O 3 (C' := (24, [(0, .inl o), (1, .inl ty), (2, .inr (.inr (.inr (.inl x)))), (4, .inr (.inr (.inr (.inl y))))], [.inl (Op.cmpValue (FP.dcmp x x) .l)], (I, J, G, fm_P pa pb))) rfl) ?_
      refine fm_zb O rfl (fun h => ?_) (fun h => ?_)
      · have h3 : (Op.cmpValue (FP.dcmp x x) .l) = 0 := h
        have he := he.trans (if_pos h3)
        have hp := hp.1 h3
        refine fm_zl (fun nn ZZ => fm_gr O 3 (C' := (32, [(0, .inl o), (1, .inl ty), (2, .inr (.inr (.inr (.inl x)))), (4, .inr (.inr (.inr (.inl y))))], [.inl (Op.cmpValue (FP.dcmp y y) .l)], (I, J, G, fm_P pa pb))) rfl) ?_
        refine fm_zb O rfl (fun h => ?_) (fun h => ?_)
        · have h4 : (Op.cmpValue (FP.dcmp y y) .l) = 0 := h
          have he := he.trans (if_pos h4)
          have hp := hp.1 h4
          refine fm_zl (fun nn ZZ => fm_gr O 1 (C' := (49, [(0, .inl o), (1, .inl ty), (2, .inr (.inr (.inr (.inl x)))), (4, .inr (.inr (.inr (.inl y))))], [.inr (.inr (.inr (.inl x)))], (I, J, G, fm_P pa pb))) rfl) ?_
          have K := fmA_isEndless_c (d := d + 5) hl (by omega) I J G pa pb x
          generalize er1 : fmA_isEndless_f x = r1 at he hp
          have he := he.trans (fm_letE _ _)
          have hp := fm_letP hp
          rw [er1] at K
          refine fm_zl (fun nn ZZ => fm_cS0 O fmA_isEndless_o (as := [.inr (.inr (.inr (.inl x)))]) (rest := []) (v := some (.inl r1)) rfl fk_7_22 fn_A_isEndless (Nat.le_of_ble_eq_true rfl) (K)) ?_
          refine fm_zb O rfl (fun h => ?_) (fun h => ?_)
          · have h5 : r1 = 0 := h
            have he := he.trans (if_pos h5)
            have hp := hp.1 h5
            refine fm_zl (fun nn ZZ => fm_gr O 1 (C' := (57, [(0, .inl o), (1, .inl ty), (2, .inr (.inr (.inr (.inl x)))), (4, .inr (.inr (.inr (.inl y))))], [.inr (.inr (.inr (.inl y)))], (I, J, G, fm_P pa pb))) rfl) ?_
            have K := fmA_isEndless_c (d := d + 5) hl (by omega) I J G pa pb y
            generalize er2 : fmA_isEndless_f y = r2 at he hp
            have he := he.trans (fm_letE _ _)
            have hp := fm_letP hp
            rw [er2] at K
            refine fm_zl (fun nn ZZ => fm_cS0 O fmA_isEndless_o (as := [.inr (.inr (.inr (.inl y)))]) (rest := []) (v := some (.inl r2)) rfl fk_7_22 fn_A_isEndless (Nat.le_of_ble_eq_true rfl) (K)) ?_
            refine fm_zb O rfl (fun h => ?_) (fun h => ?_)
            · have h6 : r2 = 0 := h
              have he := he.trans (if_pos h6)
              have hp := hp.1 h6
              refine fm_zl (fun nn ZZ => fm_gr O 3 (C' := (81, [(0, .inl o), (1, .inl ty), (2, .inr (.inr (.inr (.inl x)))), (4, .inr (.inr (.inr (.inl y))))], [.inr (.inr (.inr (.inl y))), .inr (.inr (.inr (.inl x))), .inl o], (I, J, G, fm_P pa pb))) rfl) ?_
              have hc := hp.1
              have hp := hp.2
              have K := fmA_fractionOutcome_c (d := d + 5) hl (by omega) I J G pa pb o x y hc
              generalize er3 : fmA_fractionOutcome_f o x y = r3 at he hp
              have he := he.trans (fm_letE _ _)
              have hp := fm_letP hp
              rw [er3] at K
              refine fm_zl (fun nn ZZ => fm_cS0 O fmA_fractionOutcome_o (as := [.inl o, .inr (.inr (.inr (.inl x))), .inr (.inr (.inr (.inl y)))]) (rest := []) (v := some (.inr (.inr (.inr (.inl r3))))) rfl fk_7_26 fn_A_fractionOutcome (Nat.le_of_ble_eq_true rfl) (K)) ?_
              refine fm_zl (fun nn ZZ => fm_gr O 3 (C' := (88, [(6, .inr (.inr (.inr (.inl r3)))), (0, .inl o), (1, .inl ty), (2, .inr (.inr (.inr (.inl x)))), (4, .inr (.inr (.inr (.inl y))))], [.inl 2, .inl ty], (I, J, G, fm_P pa pb))) rfl) ?_
              refine fm_zb O rfl (fun h => ?_) (fun h => ?_)
              · have h7 : ty = 2 := h
                have he := he.trans (if_pos h7)
                have hp := hp.1 h7
                refine fm_zl (fun nn ZZ => fm_gr O 1 (C' := (93, [(6, .inr (.inr (.inr (.inl r3)))), (0, .inl o), (1, .inl ty), (2, .inr (.inr (.inr (.inl x)))), (4, .inr (.inr (.inr (.inl y))))], [.inr (.inr (.inr (.inl r3)))], (I, J, G, fm_P pa pb))) rfl) ?_
                refine fm_zl (fun nn ZZ => fm_gg O rfl hp.1) ?_
                have hp := hp.2
                refine fm_zl (fun nn ZZ => fm_gg O rfl hp) ?_
                refine fm_zl (fun nn ZZ => fm_gr O 2 (C' := (99, [(6, .inr (.inr (.inr (.inl (FP.f2d (FP.d2f r3)))))), (0, .inl o), (1, .inl ty), (2, .inr (.inr (.inr (.inl x)))), (4, .inr (.inr (.inr (.inl y))))], [.inr (.inr (.inr (.inl (FP.f2d (FP.d2f r3)))))], (I, J, G, fm_P pa pb))) rfl) ?_
                have K := fmA_trapIfTooLarge_c (d := d + 5) hl (by omega) I J G pa pb (FP.f2d (FP.d2f r3))
                generalize er4 : fmA_trapIfTooLarge_f (FP.f2d (FP.d2f r3)) = r4 at he
                have he := he.trans (fm_letE _ _)
                rw [er4] at K
                refine fm_zS O fmA_trapIfTooLarge_o (by decide) (as := [.inr (.inr (.inr (.inl (FP.f2d (FP.d2f r3)))))]) (rest := []) (v := none) rfl fk_7_30 fn_A_trapIfTooLarge (Nat.le_of_ble_eq_true rfl) K ?_ ?_
                · intro h8
                  have he := he.trans (if_pos h8)
                  refine fm_zl (fun nn ZZ => fm_gr O 1 (C' := (104, [(6, .inr (.inr (.inr (.inl (FP.f2d (FP.d2f r3)))))), (0, .inl o), (1, .inl ty), (2, .inr (.inr (.inr (.inl x)))), (4, .inr (.inr (.inr (.inl y))))], [.inr (.inr (.inr (.inl (FP.f2d (FP.d2f r3)))))], (I, J, G, fm_P pa pb))) rfl) ?_
                  exact fm_zR O rfl trivial (by first | (rw [he]; done) | (rw [he]; rfl) | rfl) (by first | (rw [he]; done) | (rw [he]; rfl) | rfl) (by first | (rw [he]; done) | (rw [he]; rfl) | rfl)
                · intro h8
                  have he := he.trans (if_neg h8)
                  exact ⟨by rw [he], by first | (rw [he]; done) | (rw [he]; rfl) | rfl⟩
              · have h7 : ¬ ty = 2 := h
                have he := he.trans (if_neg h7)
                refine fm_zl (fun nn ZZ => fm_gr O 1 (C' := (99, [(6, .inr (.inr (.inr (.inl r3)))), (0, .inl o), (1, .inl ty), (2, .inr (.inr (.inr (.inl x)))), (4, .inr (.inr (.inr (.inl y))))], [.inr (.inr (.inr (.inl r3)))], (I, J, G, fm_P pa pb))) rfl) ?_
                have K := fmA_trapIfTooLarge_c (d := d + 5) hl (by omega) I J G pa pb r3
                generalize er5 : fmA_trapIfTooLarge_f r3 = r5 at he
                have he := he.trans (fm_letE _ _)
                rw [er5] at K
                refine fm_zS O fmA_trapIfTooLarge_o (by decide) (as := [.inr (.inr (.inr (.inl r3)))]) (rest := []) (v := none) rfl fk_7_30 fn_A_trapIfTooLarge (Nat.le_of_ble_eq_true rfl) K ?_ ?_
                · intro h8
                  have he := he.trans (if_pos h8)
                  refine fm_zl (fun nn ZZ => fm_gr O 1 (C' := (104, [(6, .inr (.inr (.inr (.inl r3)))), (0, .inl o), (1, .inl ty), (2, .inr (.inr (.inr (.inl x)))), (4, .inr (.inr (.inr (.inl y))))], [.inr (.inr (.inr (.inl r3)))], (I, J, G, fm_P pa pb))) rfl) ?_
                  exact fm_zR O rfl trivial (by first | (rw [he]; done) | (rw [he]; rfl) | rfl) (by first | (rw [he]; done) | (rw [he]; rfl) | rfl) (by first | (rw [he]; done) | (rw [he]; rfl) | rfl)
                · intro h8
                  have he := he.trans (if_neg h8)
                  exact ⟨by rw [he], by first | (rw [he]; done) | (rw [he]; rfl) | rfl⟩
            · have h6 : ¬ r2 = 0 := h
              have he := he.trans (if_neg h6)
              have hp := hp.2 h6
              refine fm_zl (fun nn ZZ => fm_gr O 2 (C' := (66, [(0, .inl o), (1, .inl ty), (2, .inr (.inr (.inr (.inl x)))), (4, .inr (.inr (.inr (.inl y))))], [.inl 14, .inl o], (I, J, G, fm_P pa pb))) rfl) ?_
              refine fm_zb O rfl (fun h => ?_) (fun h => ?_)
              rotate_left
              · exact absurd h1 h
              · refine fm_zl (fun nn ZZ => fm_gr O 3 (C' := (81, [(0, .inl o), (1, .inl ty), (2, .inr (.inr (.inr (.inl x)))), (4, .inr (.inr (.inr (.inl y))))], [.inr (.inr (.inr (.inl y))), .inr (.inr (.inr (.inl x))), .inl o], (I, J, G, fm_P pa pb))) rfl) ?_
                have hc := hp.1
                have hp := hp.2
                have K := fmA_fractionOutcome_c (d := d + 5) hl (by omega) I J G pa pb o x y hc
                generalize er6 : fmA_fractionOutcome_f o x y = r6 at he hp
                have he := he.trans (fm_letE _ _)
                have hp := fm_letP hp
                rw [er6] at K
                refine fm_zl (fun nn ZZ => fm_cS0 O fmA_fractionOutcome_o (as := [.inl o, .inr (.inr (.inr (.inl x))), .inr (.inr (.inr (.inl y)))]) (rest := []) (v := some (.inr (.inr (.inr (.inl r6))))) rfl fk_7_26 fn_A_fractionOutcome (Nat.le_of_ble_eq_true rfl) (K)) ?_
                refine fm_zl (fun nn ZZ => fm_gr O 3 (C' := (88, [(6, .inr (.inr (.inr (.inl r6)))), (0, .inl o), (1, .inl ty), (2, .inr (.inr (.inr (.inl x)))), (4, .inr (.inr (.inr (.inl y))))], [.inl 2, .inl ty], (I, J, G, fm_P pa pb))) rfl) ?_
                refine fm_zb O rfl (fun h => ?_) (fun h => ?_)
                · have h7 : ty = 2 := h
                  have he := he.trans (if_pos h7)
                  have hp := hp.1 h7
                  refine fm_zl (fun nn ZZ => fm_gr O 1 (C' := (93, [(6, .inr (.inr (.inr (.inl r6)))), (0, .inl o), (1, .inl ty), (2, .inr (.inr (.inr (.inl x)))), (4, .inr (.inr (.inr (.inl y))))], [.inr (.inr (.inr (.inl r6)))], (I, J, G, fm_P pa pb))) rfl) ?_
                  refine fm_zl (fun nn ZZ => fm_gg O rfl hp.1) ?_
                  have hp := hp.2
                  refine fm_zl (fun nn ZZ => fm_gg O rfl hp) ?_
                  refine fm_zl (fun nn ZZ => fm_gr O 2 (C' := (99, [(6, .inr (.inr (.inr (.inl (FP.f2d (FP.d2f r6)))))), (0, .inl o), (1, .inl ty), (2, .inr (.inr (.inr (.inl x)))), (4, .inr (.inr (.inr (.inl y))))], [.inr (.inr (.inr (.inl (FP.f2d (FP.d2f r6)))))], (I, J, G, fm_P pa pb))) rfl) ?_
                  have K := fmA_trapIfTooLarge_c (d := d + 5) hl (by omega) I J G pa pb (FP.f2d (FP.d2f r6))
                  generalize er7 : fmA_trapIfTooLarge_f (FP.f2d (FP.d2f r6)) = r7 at he
                  have he := he.trans (fm_letE _ _)
                  rw [er7] at K
                  refine fm_zS O fmA_trapIfTooLarge_o (by decide) (as := [.inr (.inr (.inr (.inl (FP.f2d (FP.d2f r6)))))]) (rest := []) (v := none) rfl fk_7_30 fn_A_trapIfTooLarge (Nat.le_of_ble_eq_true rfl) K ?_ ?_
                  · intro h8
                    have he := he.trans (if_pos h8)
                    refine fm_zl (fun nn ZZ => fm_gr O 1 (C' := (104, [(6, .inr (.inr (.inr (.inl (FP.f2d (FP.d2f r6)))))), (0, .inl o), (1, .inl ty), (2, .inr (.inr (.inr (.inl x)))), (4, .inr (.inr (.inr (.inl y))))], [.inr (.inr (.inr (.inl (FP.f2d (FP.d2f r6)))))], (I, J, G, fm_P pa pb))) rfl) ?_
                    exact fm_zR O rfl trivial (by first | (rw [he]; done) | (rw [he]; rfl) | rfl) (by first | (rw [he]; done) | (rw [he]; rfl) | rfl) (by first | (rw [he]; done) | (rw [he]; rfl) | rfl)
                  · intro h8
                    have he := he.trans (if_neg h8)
                    exact ⟨by rw [he], by first | (rw [he]; done) | (rw [he]; rfl) | rfl⟩
                · have h7 : ¬ ty = 2 := h
                  have he := he.trans (if_neg h7)
                  refine fm_zl (fun nn ZZ => fm_gr O 1 (C' := (99, [(6, .inr (.inr (.inr (.inl r6)))), (0, .inl o), (1, .inl ty), (2, .inr (.inr (.inr (.inl x)))), (4, .inr (.inr (.inr (.inl y))))], [.inr (.inr (.inr (.inl r6)))], (I, J, G, fm_P pa pb))) rfl) ?_
                  have K := fmA_trapIfTooLarge_c (d := d + 5) hl (by omega) I J G pa pb r6
                  generalize er8 : fmA_trapIfTooLarge_f r6 = r8 at he
                  have he := he.trans (fm_letE _ _)
                  rw [er8] at K
                  refine fm_zS O fmA_trapIfTooLarge_o (by decide) (as := [.inr (.inr (.inr (.inl r6)))]) (rest := []) (v := none) rfl fk_7_30 fn_A_trapIfTooLarge (Nat.le_of_ble_eq_true rfl) K ?_ ?_
                  · intro h8
                    have he := he.trans (if_pos h8)
                    refine fm_zl (fun nn ZZ => fm_gr O 1 (C' := (104, [(6, .inr (.inr (.inr (.inl r6)))), (0, .inl o), (1, .inl ty), (2, .inr (.inr (.inr (.inl x)))), (4, .inr (.inr (.inr (.inl y))))], [.inr (.inr (.inr (.inl r6)))], (I, J, G, fm_P pa pb))) rfl) ?_
                    exact fm_zR O rfl trivial (by first | (rw [he]; done) | (rw [he]; rfl) | rfl) (by first | (rw [he]; done) | (rw [he]; rfl) | rfl) (by first | (rw [he]; done) | (rw [he]; rfl) | rfl)
                  · intro h8
                    have he := he.trans (if_neg h8)
                    exact ⟨by rw [he], by first | (rw [he]; done) | (rw [he]; rfl) | rfl⟩
          · have h5 : ¬ r1 = 0 := h
            have he := he.trans (if_neg h5)
            exact fm_zT (k := 2) O (by decide) fm_atAA rfl rfl rfl rfl (Nat.le_of_ble_eq_true rfl) (by rw [he]) (by first | (rw [he]; done) | (rw [he]; rfl) | rfl)
        · have h4 : ¬ (Op.cmpValue (FP.dcmp y y) .l) = 0 := h
          have he := he.trans (if_neg h4)
          refine fm_zl (fun nn ZZ => fm_gr O 3 (C' := (38, [(0, .inl o), (1, .inl ty), (2, .inr (.inr (.inr (.inl x)))), (4, .inr (.inr (.inr (.inl y))))], [.inl (Op.cmpValue (FP.dcmp x x) .l)], (I, J, G, fm_P pa pb))) rfl) ?_
          refine fm_zb O rfl (fun h => ?_) (fun h => ?_)
          rotate_left
          · exact absurd h3 h
          · refine fm_zl (fun nn ZZ => fm_gr O 1 (C' := (47, [(0, .inl o), (1, .inl ty), (2, .inr (.inr (.inr (.inl x)))), (4, .inr (.inr (.inr (.inl y))))], [.inr (.inr (.inr (.inl y)))], (I, J, G, fm_P pa pb))) rfl) ?_
            exact fm_zR O rfl trivial (by first | (rw [he]; done) | (rw [he]; rfl) | rfl) (by first | (rw [he]; done) | (rw [he]; rfl) | rfl) (by first | (rw [he]; done) | (rw [he]; rfl) | rfl)
      · have h3 : ¬ (Op.cmpValue (FP.dcmp x x) .l) = 0 := h
        have he := he.trans (if_neg h3)
        refine fm_zl (fun nn ZZ => fm_gr O 3 (C' := (38, [(0, .inl o), (1, .inl ty), (2, .inr (.inr (.inr (.inl x)))), (4, .inr (.inr (.inr (.inl y))))], [.inl (Op.cmpValue (FP.dcmp x x) .l)], (I, J, G, fm_P pa pb))) rfl) ?_
        refine fm_zb O rfl (fun h => ?_) (fun h => ?_)
        · exact absurd h h3
        · refine fm_zl (fun nn ZZ => fm_gr O 2 (C' := (47, [(0, .inl o), (1, .inl ty), (2, .inr (.inr (.inr (.inl x)))), (4, .inr (.inr (.inr (.inl y))))], [.inr (.inr (.inr (.inl x)))], (I, J, G, fm_P pa pb))) rfl) ?_
          exact fm_zR O rfl trivial (by first | (rw [he]; done) | (rw [he]; rfl) | rfl) (by first | (rw [he]; done) | (rw [he]; rfl) | rfl) (by first | (rw [he]; done) | (rw [he]; rfl) | rfl)
  · have h1 : ¬ o = 14 := h
    have he := he.trans (if_neg h1)
    have hp := hp.2 h1
    refine fm_zl (fun nn ZZ => fm_gr O 3 (C' := (24, [(0, .inl o), (1, .inl ty), (2, .inr (.inr (.inr (.inl x)))), (4, .inr (.inr (.inr (.inl y))))], [.inl (Op.cmpValue (FP.dcmp x x) .l)], (I, J, G, fm_P pa pb))) rfl) ?_
    refine fm_zb O rfl (fun h => ?_) (fun h => ?_)
    · have h2 : (Op.cmpValue (FP.dcmp x x) .l) = 0 := h
      have he := he.trans (if_pos h2)
      have hp := hp.1 h2
      refine fm_zl (fun nn ZZ => fm_gr O 3 (C' := (32, [(0, .inl o), (1, .inl ty), (2, .inr (.inr (.inr (.inl x)))), (4, .inr (.inr (.inr (.inl y))))], [.inl (Op.cmpValue (FP.dcmp y y) .l)], (I, J, G, fm_P pa pb))) rfl) ?_
      refine fm_zb O rfl (fun h => ?_) (fun h => ?_)
      · have h3 : (Op.cmpValue (FP.dcmp y y) .l) = 0 := h
        have he := he.trans (if_pos h3)
        have hp := hp.1 h3
        refine fm_zl (fun nn ZZ => fm_gr O 1 (C' := (49, [(0, .inl o), (1, .inl ty), (2, .inr (.inr (.inr (.inl x)))), (4, .inr (.inr (.inr (.inl y))))], [.inr (.inr (.inr (.inl x)))], (I, J, G, fm_P pa pb))) rfl) ?_
        have K := fmA_isEndless_c (d := d + 5) hl (by omega) I J G pa pb x
        generalize er9 : fmA_isEndless_f x = r9 at he hp
        have he := he.trans (fm_letE _ _)
        have hp := fm_letP hp
        rw [er9] at K
        refine fm_zl (fun nn ZZ => fm_cS0 O fmA_isEndless_o (as := [.inr (.inr (.inr (.inl x)))]) (rest := []) (v := some (.inl r9)) rfl fk_7_22 fn_A_isEndless (Nat.le_of_ble_eq_true rfl) (K)) ?_
        refine fm_zb O rfl (fun h => ?_) (fun h => ?_)
        · have h4 : r9 = 0 := h
          have he := he.trans (if_pos h4)
          have hp := hp.1 h4
          refine fm_zl (fun nn ZZ => fm_gr O 1 (C' := (57, [(0, .inl o), (1, .inl ty), (2, .inr (.inr (.inr (.inl x)))), (4, .inr (.inr (.inr (.inl y))))], [.inr (.inr (.inr (.inl y)))], (I, J, G, fm_P pa pb))) rfl) ?_
          have K := fmA_isEndless_c (d := d + 5) hl (by omega) I J G pa pb y
          generalize er10 : fmA_isEndless_f y = r10 at he hp
          have he := he.trans (fm_letE _ _)
          have hp := fm_letP hp
          rw [er10] at K
          refine fm_zl (fun nn ZZ => fm_cS0 O fmA_isEndless_o (as := [.inr (.inr (.inr (.inl y)))]) (rest := []) (v := some (.inl r10)) rfl fk_7_22 fn_A_isEndless (Nat.le_of_ble_eq_true rfl) (K)) ?_
          refine fm_zb O rfl (fun h => ?_) (fun h => ?_)
          · have h5 : r10 = 0 := h
            have he := he.trans (if_pos h5)
            have hp := hp.1 h5
            refine fm_zl (fun nn ZZ => fm_gr O 3 (C' := (81, [(0, .inl o), (1, .inl ty), (2, .inr (.inr (.inr (.inl x)))), (4, .inr (.inr (.inr (.inl y))))], [.inr (.inr (.inr (.inl y))), .inr (.inr (.inr (.inl x))), .inl o], (I, J, G, fm_P pa pb))) rfl) ?_
            have hc := hp.1
            have hp := hp.2
            have K := fmA_fractionOutcome_c (d := d + 5) hl (by omega) I J G pa pb o x y hc
            generalize er11 : fmA_fractionOutcome_f o x y = r11 at he hp
            have he := he.trans (fm_letE _ _)
            have hp := fm_letP hp
            rw [er11] at K
            refine fm_zl (fun nn ZZ => fm_cS0 O fmA_fractionOutcome_o (as := [.inl o, .inr (.inr (.inr (.inl x))), .inr (.inr (.inr (.inl y)))]) (rest := []) (v := some (.inr (.inr (.inr (.inl r11))))) rfl fk_7_26 fn_A_fractionOutcome (Nat.le_of_ble_eq_true rfl) (K)) ?_
            refine fm_zl (fun nn ZZ => fm_gr O 3 (C' := (88, [(6, .inr (.inr (.inr (.inl r11)))), (0, .inl o), (1, .inl ty), (2, .inr (.inr (.inr (.inl x)))), (4, .inr (.inr (.inr (.inl y))))], [.inl 2, .inl ty], (I, J, G, fm_P pa pb))) rfl) ?_
            refine fm_zb O rfl (fun h => ?_) (fun h => ?_)
            · have h6 : ty = 2 := h
              have he := he.trans (if_pos h6)
              have hp := hp.1 h6
              refine fm_zl (fun nn ZZ => fm_gr O 1 (C' := (93, [(6, .inr (.inr (.inr (.inl r11)))), (0, .inl o), (1, .inl ty), (2, .inr (.inr (.inr (.inl x)))), (4, .inr (.inr (.inr (.inl y))))], [.inr (.inr (.inr (.inl r11)))], (I, J, G, fm_P pa pb))) rfl) ?_
              refine fm_zl (fun nn ZZ => fm_gg O rfl hp.1) ?_
              have hp := hp.2
              refine fm_zl (fun nn ZZ => fm_gg O rfl hp) ?_
              refine fm_zl (fun nn ZZ => fm_gr O 2 (C' := (99, [(6, .inr (.inr (.inr (.inl (FP.f2d (FP.d2f r11)))))), (0, .inl o), (1, .inl ty), (2, .inr (.inr (.inr (.inl x)))), (4, .inr (.inr (.inr (.inl y))))], [.inr (.inr (.inr (.inl (FP.f2d (FP.d2f r11)))))], (I, J, G, fm_P pa pb))) rfl) ?_
              have K := fmA_trapIfTooLarge_c (d := d + 5) hl (by omega) I J G pa pb (FP.f2d (FP.d2f r11))
              generalize er12 : fmA_trapIfTooLarge_f (FP.f2d (FP.d2f r11)) = r12 at he
              have he := he.trans (fm_letE _ _)
              rw [er12] at K
              refine fm_zS O fmA_trapIfTooLarge_o (by decide) (as := [.inr (.inr (.inr (.inl (FP.f2d (FP.d2f r11)))))]) (rest := []) (v := none) rfl fk_7_30 fn_A_trapIfTooLarge (Nat.le_of_ble_eq_true rfl) K ?_ ?_
              · intro h7
                have he := he.trans (if_pos h7)
                refine fm_zl (fun nn ZZ => fm_gr O 1 (C' := (104, [(6, .inr (.inr (.inr (.inl (FP.f2d (FP.d2f r11)))))), (0, .inl o), (1, .inl ty), (2, .inr (.inr (.inr (.inl x)))), (4, .inr (.inr (.inr (.inl y))))], [.inr (.inr (.inr (.inl (FP.f2d (FP.d2f r11)))))], (I, J, G, fm_P pa pb))) rfl) ?_
                exact fm_zR O rfl trivial (by first | (rw [he]; done) | (rw [he]; rfl) | rfl) (by first | (rw [he]; done) | (rw [he]; rfl) | rfl) (by first | (rw [he]; done) | (rw [he]; rfl) | rfl)
              · intro h7
                have he := he.trans (if_neg h7)
                exact ⟨by rw [he], by first | (rw [he]; done) | (rw [he]; rfl) | rfl⟩
            · have h6 : ¬ ty = 2 := h
              have he := he.trans (if_neg h6)
              refine fm_zl (fun nn ZZ => fm_gr O 1 (C' := (99, [(6, .inr (.inr (.inr (.inl r11)))), (0, .inl o), (1, .inl ty), (2, .inr (.inr (.inr (.inl x)))), (4, .inr (.inr (.inr (.inl y))))], [.inr (.inr (.inr (.inl r11)))], (I, J, G, fm_P pa pb))) rfl) ?_
              have K := fmA_trapIfTooLarge_c (d := d + 5) hl (by omega) I J G pa pb r11
              generalize er13 : fmA_trapIfTooLarge_f r11 = r13 at he
              have he := he.trans (fm_letE _ _)
              rw [er13] at K
              refine fm_zS O fmA_trapIfTooLarge_o (by decide) (as := [.inr (.inr (.inr (.inl r11)))]) (rest := []) (v := none) rfl fk_7_30 fn_A_trapIfTooLarge (Nat.le_of_ble_eq_true rfl) K ?_ ?_
              · intro h7
                have he := he.trans (if_pos h7)
                refine fm_zl (fun nn ZZ => fm_gr O 1 (C' := (104, [(6, .inr (.inr (.inr (.inl r11)))), (0, .inl o), (1, .inl ty), (2, .inr (.inr (.inr (.inl x)))), (4, .inr (.inr (.inr (.inl y))))], [.inr (.inr (.inr (.inl r11)))], (I, J, G, fm_P pa pb))) rfl) ?_
                exact fm_zR O rfl trivial (by first | (rw [he]; done) | (rw [he]; rfl) | rfl) (by first | (rw [he]; done) | (rw [he]; rfl) | rfl) (by first | (rw [he]; done) | (rw [he]; rfl) | rfl)
              · intro h7
                have he := he.trans (if_neg h7)
                exact ⟨by rw [he], by first | (rw [he]; done) | (rw [he]; rfl) | rfl⟩
          · have h5 : ¬ r10 = 0 := h
            have he := he.trans (if_neg h5)
            refine fm_zl (fun nn ZZ => fm_gr O 2 (C' := (66, [(0, .inl o), (1, .inl ty), (2, .inr (.inr (.inr (.inl x)))), (4, .inr (.inr (.inr (.inl y))))], [.inl 14, .inl o], (I, J, G, fm_P pa pb))) rfl) ?_
            refine fm_zb O rfl (fun h => ?_) (fun h => ?_)
            · exact absurd h h1
            · exact fm_zT (k := 2) O (by decide) fm_atAA rfl rfl rfl rfl (Nat.le_of_ble_eq_true rfl) (by rw [he]) (by first | (rw [he]; done) | (rw [he]; rfl) | rfl)
        · have h4 : ¬ r9 = 0 := h
          have he := he.trans (if_neg h4)
          exact fm_zT (k := 2) O (by decide) fm_atAA rfl rfl rfl rfl (Nat.le_of_ble_eq_true rfl) (by rw [he]) (by first | (rw [he]; done) | (rw [he]; rfl) | rfl)
      · have h3 : ¬ (Op.cmpValue (FP.dcmp y y) .l) = 0 := h
        have he := he.trans (if_neg h3)
        refine fm_zl (fun nn ZZ => fm_gr O 3 (C' := (38, [(0, .inl o), (1, .inl ty), (2, .inr (.inr (.inr (.inl x)))), (4, .inr (.inr (.inr (.inl y))))], [.inl (Op.cmpValue (FP.dcmp x x) .l)], (I, J, G, fm_P pa pb))) rfl) ?_
        refine fm_zb O rfl (fun h => ?_) (fun h => ?_)
        rotate_left
        · exact absurd h2 h
        · refine fm_zl (fun nn ZZ => fm_gr O 1 (C' := (47, [(0, .inl o), (1, .inl ty), (2, .inr (.inr (.inr (.inl x)))), (4, .inr (.inr (.inr (.inl y))))], [.inr (.inr (.inr (.inl y)))], (I, J, G, fm_P pa pb))) rfl) ?_
          exact fm_zR O rfl trivial (by first | (rw [he]; done) | (rw [he]; rfl) | rfl) (by first | (rw [he]; done) | (rw [he]; rfl) | rfl) (by first | (rw [he]; done) | (rw [he]; rfl) | rfl)
    · have h2 : ¬ (Op.cmpValue (FP.dcmp x x) .l) = 0 := h
      have he := he.trans (if_neg h2)
      refine fm_zl (fun nn ZZ => fm_gr O 3 (C' := (38, [(0, .inl o), (1, .inl ty), (2, .inr (.inr (.inr (.inl x)))), (4, .inr (.inr (.inr (.inl y))))], [.inl (Op.cmpValue (FP.dcmp x x) .l)], (I, J, G, fm_P pa pb))) rfl) ?_
      refine fm_zb O rfl (fun h => ?_) (fun h => ?_)
      · exact absurd h h2
      · refine fm_zl (fun nn ZZ => fm_gr O 2 (C' := (47, [(0, .inl o), (1, .inl ty), (2, .inr (.inr (.inr (.inl x)))), (4, .inr (.inr (.inr (.inl y))))], [.inr (.inr (.inr (.inl x)))], (I, J, G, fm_P pa pb))) rfl) ?_
        exact fm_zR O rfl trivial (by first | (rw [he]; done) | (rw [he]; rfl) | rfl) (by first | (rw [he]; done) | (rw [he]; rfl) | rfl) (by first | (rw [he]; done) | (rw [he]; rfl) | rfl)
