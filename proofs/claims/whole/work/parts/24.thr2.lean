/-! THE MODULE AND THE MACHINE, by program (wip/tools/walk.py, gen_c4.py) -/
def fmM_convert_f (J : fm_MJ) (G : fm_MG) (fro : Int32) (tou : Int32) (rg : Int32) : Nat × fm_MJ × fm_MG :=
  if 1 < tou then (if 1 < fro then (if tou = 2 then (fm_let (fmA_asFloat_f (G 21 0 rg.toNatClampNeg)) (fun (r1 : UInt64) => fm_let (fmA_trapIfTooLarge_f ((fm_u G 21 0 rg.toNatClampNeg r1) 21 0 rg.toNatClampNeg)) (fun (r2 : Nat) => if r2 = 0 then ((0, J, fm_u G 21 0 rg.toNatClampNeg r1)) else ((r2, J, fm_u G 21 0 rg.toNatClampNeg r1))))) else (fm_let (fmA_trapIfTooLarge_f (G 21 0 rg.toNatClampNeg)) (fun (r3 : Nat) => if r3 = 0 then ((0, J, G)) else ((r3, J, G))))) else (if tou = 2 then (fm_let (fmA_trapIfTooLarge_f ((fm_u G 21 0 rg.toNatClampNeg (FP.f2d (FP.l2f (J 20 0 rg.toNatClampNeg)))) 21 0 rg.toNatClampNeg)) (fun (r4 : Nat) => if r4 = 0 then ((0, J, fm_u G 21 0 rg.toNatClampNeg (FP.f2d (FP.l2f (J 20 0 rg.toNatClampNeg))))) else ((r4, J, fm_u G 21 0 rg.toNatClampNeg (FP.f2d (FP.l2f (J 20 0 rg.toNatClampNeg))))))) else (fm_let (fmA_trapIfTooLarge_f ((fm_u G 21 0 rg.toNatClampNeg (FP.l2d (J 20 0 rg.toNatClampNeg))) 21 0 rg.toNatClampNeg)) (fun (r5 : Nat) => if r5 = 0 then ((0, J, fm_u G 21 0 rg.toNatClampNeg (FP.l2d (J 20 0 rg.toNatClampNeg)))) else ((r5, J, fm_u G 21 0 rg.toNatClampNeg (FP.l2d (J 20 0 rg.toNatClampNeg)))))))) else (if fro ≤ 1 then (if tou = 0 then ((0, fm_u J 20 0 rg.toNatClampNeg (((J 20 0 rg.toNatClampNeg).toInt32).toInt64), G)) else ((0, J, G))) else (if tou = 0 then ((0, fm_u J 20 0 rg.toNatClampNeg ((FP.d2i (G 21 0 rg.toNatClampNeg)).toInt64), G)) else ((0, fm_u J 20 0 rg.toNatClampNeg (FP.d2l (G 21 0 rg.toNatClampNeg)), G))))
theorem fmM_convert_e (J : fm_MJ) (G : fm_MG) (fro : Int32) (tou : Int32) (rg : Int32) : fmM_convert_f J G fro tou rg = if 1 < tou then (if 1 < fro then (if tou = 2 then (fm_let (fmA_asFloat_f (G 21 0 rg.toNatClampNeg)) (fun (r1 : UInt64) => fm_let (fmA_trapIfTooLarge_f ((fm_u G 21 0 rg.toNatClampNeg r1) 21 0 rg.toNatClampNeg)) (fun (r2 : Nat) => if r2 = 0 then ((0, J, fm_u G 21 0 rg.toNatClampNeg r1)) else ((r2, J, fm_u G 21 0 rg.toNatClampNeg r1))))) else (fm_let (fmA_trapIfTooLarge_f (G 21 0 rg.toNatClampNeg)) (fun (r3 : Nat) => if r3 = 0 then ((0, J, G)) else ((r3, J, G))))) else (if tou = 2 then (fm_let (fmA_trapIfTooLarge_f ((fm_u G 21 0 rg.toNatClampNeg (FP.f2d (FP.l2f (J 20 0 rg.toNatClampNeg)))) 21 0 rg.toNatClampNeg)) (fun (r4 : Nat) => if r4 = 0 then ((0, J, fm_u G 21 0 rg.toNatClampNeg (FP.f2d (FP.l2f (J 20 0 rg.toNatClampNeg))))) else ((r4, J, fm_u G 21 0 rg.toNatClampNeg (FP.f2d (FP.l2f (J 20 0 rg.toNatClampNeg))))))) else (fm_let (fmA_trapIfTooLarge_f ((fm_u G 21 0 rg.toNatClampNeg (FP.l2d (J 20 0 rg.toNatClampNeg))) 21 0 rg.toNatClampNeg)) (fun (r5 : Nat) => if r5 = 0 then ((0, J, fm_u G 21 0 rg.toNatClampNeg (FP.l2d (J 20 0 rg.toNatClampNeg)))) else ((r5, J, fm_u G 21 0 rg.toNatClampNeg (FP.l2d (J 20 0 rg.toNatClampNeg)))))))) else (if fro ≤ 1 then (if tou = 0 then ((0, fm_u J 20 0 rg.toNatClampNeg (((J 20 0 rg.toNatClampNeg).toInt32).toInt64), G)) else ((0, J, G))) else (if tou = 0 then ((0, fm_u J 20 0 rg.toNatClampNeg ((FP.d2i (G 21 0 rg.toNatClampNeg)).toInt64), G)) else ((0, fm_u J 20 0 rg.toNatClampNeg (FP.d2l (G 21 0 rg.toNatClampNeg)), G)))) := rfl
def fmM_convert_p (J : fm_MJ) (G : fm_MG) (fro : Int32) (tou : Int32) (rg : Int32) : Prop :=
  (1 < tou → (1 < fro → (tou = 2 → (vp_in rg 212) ∧ (fmA_asFloat_p (G 21 0 rg.toNatClampNeg) ∧ (fm_let (fmA_asFloat_f (G 21 0 rg.toNatClampNeg)) (fun (r1 : UInt64) => (vp_in rg 212) ∧ (vp_in rg 212))))) ∧ (¬ tou = 2 → vp_in rg 212)) ∧ (¬ 1 < fro → (tou = 2 → (vp_in rg 212) ∧ ((vf_n64 (FP.f2d (FP.l2f (J 20 0 rg.toNatClampNeg)))) ∧ ((vp_in rg 212) ∧ (vp_in rg 212)))) ∧ (¬ tou = 2 → (vp_in rg 212) ∧ ((vp_in rg 212) ∧ (vp_in rg 212))))) ∧ (¬ 1 < tou → (fro ≤ 1 → (tou = 0 → (vp_in rg 212) ∧ (vp_in rg 212)) ∧ (¬ tou = 0 → True)) ∧ (¬ fro ≤ 1 → (tou = 0 → (vp_in rg 212) ∧ (vp_in rg 212)) ∧ (¬ tou = 0 → (vp_in rg 212) ∧ (vp_in rg 212))))
set_option maxRecDepth 100000 in
set_option maxHeartbeats 4000000 in
theorem fmM_convert_c {E : fm_Ev} (hl : E.1.stackTraces = false) {d : Nat} (hd : 7 ≤ d) (I : fm_MI) (J : fm_MJ) (G : fm_MG) (pa : Nat × Nat) (fro : Int32) (tou : Int32) (rg : Int32) (hp : fmM_convert_p J G fro tou rg) : fm_Cz E d fmM_convert [.inr (.inr (.inr (.inr (18, 0)))), .inl fro, .inl tou, .inl rg] (I, J, G, fm_P pa (1, 0)) ((fmM_convert_f J G fro tou rg).1) none (I, (fmM_convert_f J G fro tou rg).2.1, (fmM_convert_f J G fro tou rg).2.2, fm_P pa (1, 0)) := by
  obtain ⟨d, rfl⟩ : ∃ d', d = d' + 6 := ⟨d - 6, by omega⟩
  refine fm_zc fmM_convert_o hl (Nat.le_of_ble_eq_true rfl) ?_
  have O := fmM_convert_o.1
  unfold fmM_convert_p at hp
  have he := fmM_convert_e J G fro tou rg
  refine fm_zl (fun nn ZZ => fm_gr O 2 (C' := (2, [(0, .inr (.inr (.inr (.inr (18, 0))))), (1, .inl fro), (2, .inl tou), (3, .inl rg)], [.inl 1, .inl tou], (I, J, G, fm_P pa (1, 0)))) rfl) ?_
  refine fm_zb O rfl (fun h => ?_) (fun h => ?_)
  · have h1 : 1 < tou := h
    have he := he.trans (if_pos h1)
    have hp := hp.1 h1
    refine fm_zl (fun nn ZZ => fm_gr O 2 (C' := (62, [(0, .inr (.inr (.inr (.inr (18, 0))))), (1, .inl fro), (2, .inl tou), (3, .inl rg)], [.inl 1, .inl fro], (I, J, G, fm_P pa (1, 0)))) rfl) ?_
    refine fm_zb O rfl (fun h => ?_) (fun h => ?_)
    · have h2 : 1 < fro := h
      have he := he.trans (if_pos h2)
      have hp := hp.1 h2
      refine fm_zl (fun nn ZZ => fm_gr O 2 (C' := (99, [(0, .inr (.inr (.inr (.inr (18, 0))))), (1, .inl fro), (2, .inl tou), (3, .inl rg)], [.inl 2, .inl tou], (I, J, G, fm_P pa (1, 0)))) rfl) ?_
      refine fm_zb O rfl (fun h => ?_) (fun h => ?_)
      · have h3 : tou = 2 := h
        have he := he.trans (if_pos h3)
        have hp := hp.1 h3
        refine fm_zl (fun nn ZZ => fm_gr O 6 (C' := (112, [(0, .inr (.inr (.inr (.inr (18, 0))))), (1, .inl fro), (2, .inl tou), (3, .inl rg)], [.inl rg, .inr (.inr (.inr (.inr (21, 0)))), .inl rg, .inr (.inr (.inr (.inr (21, 0))))], (I, J, G, fm_P pa (1, 0)))) rfl) ?_
        refine fm_zl (fun nn ZZ => fm_gg O rfl hp.1) ?_
        have hp := hp.2
        have hc := hp.1
        have hp := hp.2
        have K := fmA_asFloat_c (d := d + 5) hl (by omega) I J G pa ((1, 0)) (G 21 0 rg.toNatClampNeg) hc
        generalize er1 : fmA_asFloat_f (G 21 0 rg.toNatClampNeg) = r1 at he hp
        have he := he.trans (fm_letE _ _)
        have hp := fm_letP hp
        rw [er1] at K
        refine fm_zl (fun nn ZZ => fm_cS0 O fmA_asFloat_o (as := [.inr (.inr (.inr (.inl (G 21 0 rg.toNatClampNeg))))]) (rest := [.inl rg, .inr (.inr (.inr (.inr (21, 0))))]) (v := some (.inr (.inr (.inr (.inl r1))))) rfl fk_5_52 fn_A_asFloat (Nat.le_of_ble_eq_true rfl) (K)) ?_
        refine fm_zl (fun nn ZZ => fm_gg O rfl hp.1) ?_
        have hp := hp.2
        refine fm_zl (fun nn ZZ => fm_gr O 3 (C' := (122, [(0, .inr (.inr (.inr (.inr (18, 0))))), (1, .inl fro), (2, .inl tou), (3, .inl rg)], [.inl rg, .inr (.inr (.inr (.inr (21, 0))))], (I, J, fm_u G 21 0 rg.toNatClampNeg r1, fm_P pa (1, 0)))) rfl) ?_
        refine fm_zl (fun nn ZZ => fm_gg O rfl hp) ?_
        have K := fmA_trapIfTooLarge_c (d := d + 5) hl (by omega) I J (fm_u G 21 0 rg.toNatClampNeg r1) pa ((1, 0)) ((fm_u G 21 0 rg.toNatClampNeg r1) 21 0 rg.toNatClampNeg)
        generalize er2 : fmA_trapIfTooLarge_f ((fm_u G 21 0 rg.toNatClampNeg r1) 21 0 rg.toNatClampNeg) = r2 at he
        have he := he.trans (fm_letE _ _)
        rw [er2] at K
        refine fm_zS O fmA_trapIfTooLarge_o (by decide) (as := [.inr (.inr (.inr (.inl ((fm_u G 21 0 rg.toNatClampNeg r1) 21 0 rg.toNatClampNeg))))]) (rest := []) (v := none) rfl fk_5_141 fn_A_trapIfTooLarge (Nat.le_of_ble_eq_true rfl) K ?_ ?_
        · intro h4
          have he := he.trans (if_pos h4)
          exact fm_zR O rfl trivial (by first | (rw [he]; done) | (rw [he]; rfl) | rfl) (by first | (rw [he]; done) | (rw [he]; rfl) | rfl) (by first | (rw [he]; done) | (rw [he]; rfl) | rfl)
        · intro h4
          have he := he.trans (if_neg h4)
          exact ⟨by rw [he], by first | (rw [he]; done) | (rw [he]; rfl) | rfl⟩
      · have h3 : ¬ tou = 2 := h
        have he := he.trans (if_neg h3)
        have hp := hp.2 h3
        refine fm_zl (fun nn ZZ => fm_gr O 3 (C' := (122, [(0, .inr (.inr (.inr (.inr (18, 0))))), (1, .inl fro), (2, .inl tou), (3, .inl rg)], [.inl rg, .inr (.inr (.inr (.inr (21, 0))))], (I, J, G, fm_P pa (1, 0)))) rfl) ?_
        refine fm_zl (fun nn ZZ => fm_gg O rfl hp) ?_
        have K := fmA_trapIfTooLarge_c (d := d + 5) hl (by omega) I J G pa ((1, 0)) (G 21 0 rg.toNatClampNeg)
        generalize er3 : fmA_trapIfTooLarge_f (G 21 0 rg.toNatClampNeg) = r3 at he
        have he := he.trans (fm_letE _ _)
        rw [er3] at K
        refine fm_zS O fmA_trapIfTooLarge_o (by decide) (as := [.inr (.inr (.inr (.inl (G 21 0 rg.toNatClampNeg))))]) (rest := []) (v := none) rfl fk_5_141 fn_A_trapIfTooLarge (Nat.le_of_ble_eq_true rfl) K ?_ ?_
        · intro h4
          have he := he.trans (if_pos h4)
          exact fm_zR O rfl trivial (by first | (rw [he]; done) | (rw [he]; rfl) | rfl) (by first | (rw [he]; done) | (rw [he]; rfl) | rfl) (by first | (rw [he]; done) | (rw [he]; rfl) | rfl)
        · intro h4
          have he := he.trans (if_neg h4)
          exact ⟨by rw [he], by first | (rw [he]; done) | (rw [he]; rfl) | rfl⟩
    · have h2 : ¬ 1 < fro := h
      have he := he.trans (if_neg h2)
      have hp := hp.2 h2
      refine fm_zl (fun nn ZZ => fm_gr O 5 (C' := (72, [(0, .inr (.inr (.inr (.inr (18, 0))))), (1, .inl fro), (2, .inl tou), (3, .inl rg)], [.inl 2, .inl tou, .inl rg, .inr (.inr (.inr (.inr (21, 0))))], (I, J, G, fm_P pa (1, 0)))) rfl) ?_
      refine fm_zb O rfl (fun h => ?_) (fun h => ?_)
      · have h3 : tou = 2 := h
        have he := he.trans (if_pos h3)
        have hp := hp.1 h3
        refine fm_zl (fun nn ZZ => fm_gr O 3 (C' := (80, [(0, .inr (.inr (.inr (.inr (18, 0))))), (1, .inl fro), (2, .inl tou), (3, .inl rg)], [.inl rg, .inr (.inr (.inr (.inr (20, 0)))), .inl rg, .inr (.inr (.inr (.inr (21, 0))))], (I, J, G, fm_P pa (1, 0)))) rfl) ?_
        refine fm_zl (fun nn ZZ => fm_gg O rfl hp.1) ?_
        have hp := hp.2
        refine fm_zl (fun nn ZZ => fm_gr O 1 (C' := (82, [(0, .inr (.inr (.inr (.inr (18, 0))))), (1, .inl fro), (2, .inl tou), (3, .inl rg)], [.inr (.inr (.inl (FP.l2f (J 20 0 rg.toNatClampNeg)))), .inl rg, .inr (.inr (.inr (.inr (21, 0))))], (I, J, G, fm_P pa (1, 0)))) rfl) ?_
        refine fm_zl (fun nn ZZ => fm_gg O rfl hp.1) ?_
        have hp := hp.2
        refine fm_zl (fun nn ZZ => fm_gr O 1 (C' := (93, [(0, .inr (.inr (.inr (.inr (18, 0))))), (1, .inl fro), (2, .inl tou), (3, .inl rg)], [.inr (.inr (.inr (.inl (FP.f2d (FP.l2f (J 20 0 rg.toNatClampNeg)))))), .inl rg, .inr (.inr (.inr (.inr (21, 0))))], (I, J, G, fm_P pa (1, 0)))) rfl) ?_
        refine fm_zl (fun nn ZZ => fm_gg O rfl hp.1) ?_
        have hp := hp.2
        refine fm_zl (fun nn ZZ => fm_gr O 4 (C' := (122, [(0, .inr (.inr (.inr (.inr (18, 0))))), (1, .inl fro), (2, .inl tou), (3, .inl rg)], [.inl rg, .inr (.inr (.inr (.inr (21, 0))))], (I, J, fm_u G 21 0 rg.toNatClampNeg (FP.f2d (FP.l2f (J 20 0 rg.toNatClampNeg))), fm_P pa (1, 0)))) rfl) ?_
        refine fm_zl (fun nn ZZ => fm_gg O rfl hp) ?_
        have K := fmA_trapIfTooLarge_c (d := d + 5) hl (by omega) I J (fm_u G 21 0 rg.toNatClampNeg (FP.f2d (FP.l2f (J 20 0 rg.toNatClampNeg)))) pa ((1, 0)) ((fm_u G 21 0 rg.toNatClampNeg (FP.f2d (FP.l2f (J 20 0 rg.toNatClampNeg)))) 21 0 rg.toNatClampNeg)
        generalize er4 : fmA_trapIfTooLarge_f ((fm_u G 21 0 rg.toNatClampNeg (FP.f2d (FP.l2f (J 20 0 rg.toNatClampNeg)))) 21 0 rg.toNatClampNeg) = r4 at he
        have he := he.trans (fm_letE _ _)
        rw [er4] at K
        refine fm_zS O fmA_trapIfTooLarge_o (by decide) (as := [.inr (.inr (.inr (.inl ((fm_u G 21 0 rg.toNatClampNeg (FP.f2d (FP.l2f (J 20 0 rg.toNatClampNeg)))) 21 0 rg.toNatClampNeg))))]) (rest := []) (v := none) rfl fk_5_141 fn_A_trapIfTooLarge (Nat.le_of_ble_eq_true rfl) K ?_ ?_
        · intro h4
          have he := he.trans (if_pos h4)
          exact fm_zR O rfl trivial (by first | (rw [he]; done) | (rw [he]; rfl) | rfl) (by first | (rw [he]; done) | (rw [he]; rfl) | rfl) (by first | (rw [he]; done) | (rw [he]; rfl) | rfl)
        · intro h4
          have he := he.trans (if_neg h4)
          exact ⟨by rw [he], by first | (rw [he]; done) | (rw [he]; rfl) | rfl⟩
      · have h3 : ¬ tou = 2 := h
        have he := he.trans (if_neg h3)
        have hp := hp.2 h3
        refine fm_zl (fun nn ZZ => fm_gr O 3 (C' := (91, [(0, .inr (.inr (.inr (.inr (18, 0))))), (1, .inl fro), (2, .inl tou), (3, .inl rg)], [.inl rg, .inr (.inr (.inr (.inr (20, 0)))), .inl rg, .inr (.inr (.inr (.inr (21, 0))))], (I, J, G, fm_P pa (1, 0)))) rfl) ?_
        refine fm_zl (fun nn ZZ => fm_gg O rfl hp.1) ?_
        have hp := hp.2
        refine fm_zl (fun nn ZZ => fm_gr O 1 (C' := (93, [(0, .inr (.inr (.inr (.inr (18, 0))))), (1, .inl fro), (2, .inl tou), (3, .inl rg)], [.inr (.inr (.inr (.inl (FP.l2d (J 20 0 rg.toNatClampNeg))))), .inl rg, .inr (.inr (.inr (.inr (21, 0))))], (I, J, G, fm_P pa (1, 0)))) rfl) ?_
        refine fm_zl (fun nn ZZ => fm_gg O rfl hp.1) ?_
        have hp := hp.2
        refine fm_zl (fun nn ZZ => fm_gr O 4 (C' := (122, [(0, .inr (.inr (.inr (.inr (18, 0))))), (1, .inl fro), (2, .inl tou), (3, .inl rg)], [.inl rg, .inr (.inr (.inr (.inr (21, 0))))], (I, J, fm_u G 21 0 rg.toNatClampNeg (FP.l2d (J 20 0 rg.toNatClampNeg)), fm_P pa (1, 0)))) rfl) ?_
        refine fm_zl (fun nn ZZ => fm_gg O rfl hp) ?_
        have K := fmA_trapIfTooLarge_c (d := d + 5) hl (by omega) I J (fm_u G 21 0 rg.toNatClampNeg (FP.l2d (J 20 0 rg.toNatClampNeg))) pa ((1, 0)) ((fm_u G 21 0 rg.toNatClampNeg (FP.l2d (J 20 0 rg.toNatClampNeg))) 21 0 rg.toNatClampNeg)
        generalize er5 : fmA_trapIfTooLarge_f ((fm_u G 21 0 rg.toNatClampNeg (FP.l2d (J 20 0 rg.toNatClampNeg))) 21 0 rg.toNatClampNeg) = r5 at he
        have he := he.trans (fm_letE _ _)
        rw [er5] at K
        refine fm_zS O fmA_trapIfTooLarge_o (by decide) (as := [.inr (.inr (.inr (.inl ((fm_u G 21 0 rg.toNatClampNeg (FP.l2d (J 20 0 rg.toNatClampNeg))) 21 0 rg.toNatClampNeg))))]) (rest := []) (v := none) rfl fk_5_141 fn_A_trapIfTooLarge (Nat.le_of_ble_eq_true rfl) K ?_ ?_
        · intro h4
          have he := he.trans (if_pos h4)
          exact fm_zR O rfl trivial (by first | (rw [he]; done) | (rw [he]; rfl) | rfl) (by first | (rw [he]; done) | (rw [he]; rfl) | rfl) (by first | (rw [he]; done) | (rw [he]; rfl) | rfl)
        · intro h4
          have he := he.trans (if_neg h4)
          exact ⟨by rw [he], by first | (rw [he]; done) | (rw [he]; rfl) | rfl⟩
  · have h1 : ¬ 1 < tou := h
    have he := he.trans (if_neg h1)
    have hp := hp.2 h1
    refine fm_zl (fun nn ZZ => fm_gr O 2 (C' := (7, [(0, .inr (.inr (.inr (.inr (18, 0))))), (1, .inl fro), (2, .inl tou), (3, .inl rg)], [.inl 1, .inl fro], (I, J, G, fm_P pa (1, 0)))) rfl) ?_
    refine fm_zb O rfl (fun h => ?_) (fun h => ?_)
    · have h2 : fro ≤ 1 := h
      have he := he.trans (if_pos h2)
      have hp := hp.1 h2
      refine fm_zl (fun nn ZZ => fm_gr O 1 (C' := (42, [(0, .inr (.inr (.inr (.inr (18, 0))))), (1, .inl fro), (2, .inl tou), (3, .inl rg)], [.inl tou], (I, J, G, fm_P pa (1, 0)))) rfl) ?_
      refine fm_zb O rfl (fun h => ?_) (fun h => ?_)
      · have h3 : tou = 0 := h
        have he := he.trans (if_pos h3)
        have hp := hp.1 h3
        refine fm_zl (fun nn ZZ => fm_gr O 6 (C' := (55, [(0, .inr (.inr (.inr (.inr (18, 0))))), (1, .inl fro), (2, .inl tou), (3, .inl rg)], [.inl rg, .inr (.inr (.inr (.inr (20, 0)))), .inl rg, .inr (.inr (.inr (.inr (20, 0))))], (I, J, G, fm_P pa (1, 0)))) rfl) ?_
        refine fm_zl (fun nn ZZ => fm_gg O rfl hp.1) ?_
        have hp := hp.2
        refine fm_zl (fun nn ZZ => fm_gr O 2 (C' := (58, [(0, .inr (.inr (.inr (.inr (18, 0))))), (1, .inl fro), (2, .inl tou), (3, .inl rg)], [.inr (.inl (((J 20 0 rg.toNatClampNeg).toInt32).toInt64)), .inl rg, .inr (.inr (.inr (.inr (20, 0))))], (I, J, G, fm_P pa (1, 0)))) rfl) ?_
        refine fm_zl (fun nn ZZ => fm_gg O rfl hp) ?_
        exact fm_zR O rfl trivial (by first | (rw [he]; done) | (rw [he]; rfl) | rfl) (by first | (rw [he]; done) | (rw [he]; rfl) | rfl) (by first | (rw [he]; done) | (rw [he]; rfl) | rfl)
      · have h3 : ¬ tou = 0 := h
        have he := he.trans (if_neg h3)
        exact fm_zR O rfl trivial (by first | (rw [he]; done) | (rw [he]; rfl) | rfl) (by first | (rw [he]; done) | (rw [he]; rfl) | rfl) (by first | (rw [he]; done) | (rw [he]; rfl) | rfl)
    · have h2 : ¬ fro ≤ 1 := h
      have he := he.trans (if_neg h2)
      have hp := hp.2 h2
      refine fm_zl (fun nn ZZ => fm_gr O 4 (C' := (16, [(0, .inr (.inr (.inr (.inr (18, 0))))), (1, .inl fro), (2, .inl tou), (3, .inl rg)], [.inl tou, .inl rg, .inr (.inr (.inr (.inr (20, 0))))], (I, J, G, fm_P pa (1, 0)))) rfl) ?_
      refine fm_zb O rfl (fun h => ?_) (fun h => ?_)
      · have h3 : tou = 0 := h
        have he := he.trans (if_pos h3)
        have hp := hp.1 h3
        refine fm_zl (fun nn ZZ => fm_gr O 3 (C' := (24, [(0, .inr (.inr (.inr (.inr (18, 0))))), (1, .inl fro), (2, .inl tou), (3, .inl rg)], [.inl rg, .inr (.inr (.inr (.inr (21, 0)))), .inl rg, .inr (.inr (.inr (.inr (20, 0))))], (I, J, G, fm_P pa (1, 0)))) rfl) ?_
        refine fm_zl (fun nn ZZ => fm_gg O rfl hp.1) ?_
        have hp := hp.2
        refine fm_zl (fun nn ZZ => fm_gr O 3 (C' := (37, [(0, .inr (.inr (.inr (.inr (18, 0))))), (1, .inl fro), (2, .inl tou), (3, .inl rg)], [.inr (.inl ((FP.d2i (G 21 0 rg.toNatClampNeg)).toInt64)), .inl rg, .inr (.inr (.inr (.inr (20, 0))))], (I, J, G, fm_P pa (1, 0)))) rfl) ?_
        refine fm_zl (fun nn ZZ => fm_gg O rfl hp) ?_
        refine fm_zl (fun nn ZZ => fm_gr O 1 (C' := (59, [(0, .inr (.inr (.inr (.inr (18, 0))))), (1, .inl fro), (2, .inl tou), (3, .inl rg)], [], (I, fm_u J 20 0 rg.toNatClampNeg ((FP.d2i (G 21 0 rg.toNatClampNeg)).toInt64), G, fm_P pa (1, 0)))) rfl) ?_
        exact fm_zR O rfl trivial (by first | (rw [he]; done) | (rw [he]; rfl) | rfl) (by first | (rw [he]; done) | (rw [he]; rfl) | rfl) (by first | (rw [he]; done) | (rw [he]; rfl) | rfl)
      · have h3 : ¬ tou = 0 := h
        have he := he.trans (if_neg h3)
        have hp := hp.2 h3
        refine fm_zl (fun nn ZZ => fm_gr O 3 (C' := (35, [(0, .inr (.inr (.inr (.inr (18, 0))))), (1, .inl fro), (2, .inl tou), (3, .inl rg)], [.inl rg, .inr (.inr (.inr (.inr (21, 0)))), .inl rg, .inr (.inr (.inr (.inr (20, 0))))], (I, J, G, fm_P pa (1, 0)))) rfl) ?_
        refine fm_zl (fun nn ZZ => fm_gg O rfl hp.1) ?_
        have hp := hp.2
        refine fm_zl (fun nn ZZ => fm_gr O 1 (C' := (37, [(0, .inr (.inr (.inr (.inr (18, 0))))), (1, .inl fro), (2, .inl tou), (3, .inl rg)], [.inr (.inl (FP.d2l (G 21 0 rg.toNatClampNeg))), .inl rg, .inr (.inr (.inr (.inr (20, 0))))], (I, J, G, fm_P pa (1, 0)))) rfl) ?_
        refine fm_zl (fun nn ZZ => fm_gg O rfl hp) ?_
        refine fm_zl (fun nn ZZ => fm_gr O 1 (C' := (59, [(0, .inr (.inr (.inr (.inr (18, 0))))), (1, .inl fro), (2, .inl tou), (3, .inl rg)], [], (I, fm_u J 20 0 rg.toNatClampNeg (FP.d2l (G 21 0 rg.toNatClampNeg)), G, fm_P pa (1, 0)))) rfl) ?_
        exact fm_zR O rfl trivial (by first | (rw [he]; done) | (rw [he]; rfl) | rfl) (by first | (rw [he]; done) | (rw [he]; rfl) | rfl) (by first | (rw [he]; done) | (rw [he]; rfl) | rfl)
def fmM_compute_f (J : fm_MJ) (G : fm_MG) (op : Int32) (aa : Int32) (rg : Int32) : Nat × fm_MJ × fm_MG :=
  if op = 20 then (fm_let (fmM_convert_f J G (aa / 4) (aa - aa / 4 * 4) rg) (fun (r1 : Nat × fm_MJ × fm_MG) => if r1.1 = 0 then ((0, r1.2.1, r1.2.2)) else ((r1.1, r1.2.1, r1.2.2)))) else (if op = 18 then (fm_let (fmM_holds_f J G op aa rg) (fun (r2 : Int32) => if r2 = 0 then ((0, fm_u J 20 0 rg.toNatClampNeg 0, G)) else ((0, fm_u J 20 0 rg.toNatClampNeg 1, G)))) else (if op = 19 then (fm_let (fmM_holds_f J G op aa rg) (fun (r3 : Int32) => if r3 = 0 then ((0, fm_u J 20 0 rg.toNatClampNeg 0, G)) else ((0, fm_u J 20 0 rg.toNatClampNeg 1, G)))) else (if 1 < aa then (fm_let (fmA_ofFractions_f op aa (G 21 0 rg.toNatClampNeg) (G 21 0 ((rg + 1).toNatClampNeg))) (fun (r4 : Nat × UInt64) => if r4.1 = 0 then ((0, J, fm_u G 21 0 rg.toNatClampNeg r4.2)) else ((r4.1, J, G)))) else (fm_let (fmA_ofWholes_f op aa (J 20 0 rg.toNatClampNeg) (J 20 0 ((rg + 1).toNatClampNeg))) (fun (r5 : Nat × Int64) => if r5.1 = 0 then ((0, fm_u J 20 0 rg.toNatClampNeg r5.2, G)) else ((r5.1, J, G)))))))
theorem fmM_compute_e (J : fm_MJ) (G : fm_MG) (op : Int32) (aa : Int32) (rg : Int32) : fmM_compute_f J G op aa rg = if op = 20 then (fm_let (fmM_convert_f J G (aa / 4) (aa - aa / 4 * 4) rg) (fun (r1 : Nat × fm_MJ × fm_MG) => if r1.1 = 0 then ((0, r1.2.1, r1.2.2)) else ((r1.1, r1.2.1, r1.2.2)))) else (if op = 18 then (fm_let (fmM_holds_f J G op aa rg) (fun (r2 : Int32) => if r2 = 0 then ((0, fm_u J 20 0 rg.toNatClampNeg 0, G)) else ((0, fm_u J 20 0 rg.toNatClampNeg 1, G)))) else (if op = 19 then (fm_let (fmM_holds_f J G op aa rg) (fun (r3 : Int32) => if r3 = 0 then ((0, fm_u J 20 0 rg.toNatClampNeg 0, G)) else ((0, fm_u J 20 0 rg.toNatClampNeg 1, G)))) else (if 1 < aa then (fm_let (fmA_ofFractions_f op aa (G 21 0 rg.toNatClampNeg) (G 21 0 ((rg + 1).toNatClampNeg))) (fun (r4 : Nat × UInt64) => if r4.1 = 0 then ((0, J, fm_u G 21 0 rg.toNatClampNeg r4.2)) else ((r4.1, J, G)))) else (fm_let (fmA_ofWholes_f op aa (J 20 0 rg.toNatClampNeg) (J 20 0 ((rg + 1).toNatClampNeg))) (fun (r5 : Nat × Int64) => if r5.1 = 0 then ((0, fm_u J 20 0 rg.toNatClampNeg r5.2, G)) else ((r5.1, J, G))))))) := rfl
def fmM_compute_p (J : fm_MJ) (G : fm_MG) (op : Int32) (aa : Int32) (rg : Int32) : Prop :=
  (op = 20 → fmM_convert_p J G (aa / 4) (aa - aa / 4 * 4) rg) ∧ (¬ op = 20 → (op = 18 → fmM_holds_p op aa rg ∧ (fm_let (fmM_holds_f J G op aa rg) (fun (r2 : Int32) => (r2 = 0 → vp_in rg 212) ∧ (¬ r2 = 0 → vp_in rg 212)))) ∧ (¬ op = 18 → (op = 19 → fmM_holds_p op aa rg ∧ (fm_let (fmM_holds_f J G op aa rg) (fun (r3 : Int32) => (r3 = 0 → vp_in rg 212) ∧ (¬ r3 = 0 → vp_in rg 212)))) ∧ (¬ op = 19 → (1 < aa → (vp_in rg 212) ∧ ((vp_in (rg + 1) 212) ∧ (fmA_ofFractions_p op aa (G 21 0 rg.toNatClampNeg) (G 21 0 ((rg + 1).toNatClampNeg)) ∧ (fm_let (fmA_ofFractions_f op aa (G 21 0 rg.toNatClampNeg) (G 21 0 ((rg + 1).toNatClampNeg))) (fun (r4 : Nat × UInt64) => (r4.1 = 0 → vp_in rg 212)))))) ∧ (¬ 1 < aa → (vp_in rg 212) ∧ ((vp_in (rg + 1) 212) ∧ (fmA_ofWholes_p op aa (J 20 0 ((rg + 1).toNatClampNeg)) ∧ (fm_let (fmA_ofWholes_f op aa (J 20 0 rg.toNatClampNeg) (J 20 0 ((rg + 1).toNatClampNeg))) (fun (r5 : Nat × Int64) => (r5.1 = 0 → vp_in rg 212)))))))))
set_option maxRecDepth 100000 in
set_option maxHeartbeats 4000000 in
theorem fmM_compute_c {E : fm_Ev} (hl : E.1.stackTraces = false) {d : Nat} (hd : 9 ≤ d) (I : fm_MI) (J : fm_MJ) (G : fm_MG) (pa : Nat × Nat) (op : Int32) (aa : Int32) (rg : Int32) (hp : fmM_compute_p J G op aa rg) : fm_Cz E d fmM_compute [.inr (.inr (.inr (.inr (18, 0)))), .inl op, .inl aa, .inl rg] (I, J, G, fm_P pa (1, 0)) ((fmM_compute_f J G op aa rg).1) none (I, (fmM_compute_f J G op aa rg).2.1, (fmM_compute_f J G op aa rg).2.2, fm_P pa (1, 0)) := by
  obtain ⟨d, rfl⟩ : ∃ d', d = d' + 6 := ⟨d - 6, by omega⟩
  refine fm_zc fmM_compute_o hl (Nat.le_of_ble_eq_true rfl) ?_
  have O := fmM_compute_o.1
  unfold fmM_compute_p at hp
  have he := fmM_compute_e J G op aa rg
  refine fm_zl (fun nn ZZ => fm_gr O 2 (C' := (3, [(0, .inr (.inr (.inr (.inr (18, 0))))), (1, .inl op), (2, .inl aa), (3, .inl rg)], [.inl 20, .inl op], (I, J, G, fm_P pa (1, 0)))) rfl) ?_
  refine fm_zb O rfl (fun h => ?_) (fun h => ?_)
  · have h1 : op = 20 := h
    have he := he.trans (if_pos h1)
    have hp := hp.1 h1
    refine fm_zl (fun nn ZZ => fm_gr O 3 (C' := (9, [(0, .inr (.inr (.inr (.inr (18, 0))))), (1, .inl op), (2, .inl aa), (3, .inl rg)], [.inl 4, .inl aa, .inr (.inr (.inr (.inr (18, 0))))], (I, J, G, fm_P pa (1, 0)))) rfl) ?_
    refine fm_zl (fun nn ZZ => fm_gg O rfl (show ¬ (4 : Int32) = 0 by decide)) ?_
    refine fm_zl (fun nn ZZ => fm_gr O 2 (C' := (12, [(0, .inr (.inr (.inr (.inr (18, 0))))), (1, .inl op), (2, .inl aa), (3, .inl rg)], [.inl 4, .inl aa, .inl (aa / 4), .inr (.inr (.inr (.inr (18, 0))))], (I, J, G, fm_P pa (1, 0)))) rfl) ?_
    refine fm_zl (fun nn ZZ => fm_gg O rfl (show ¬ (4 : Int32) = 0 by decide)) ?_
    refine fm_zl (fun nn ZZ => fm_gr O 1 (C' := (14, [(0, .inr (.inr (.inr (.inr (18, 0))))), (1, .inl op), (2, .inl aa), (3, .inl rg)], [.inl rg, .inl (aa - aa / 4 * 4), .inl (aa / 4), .inr (.inr (.inr (.inr (18, 0))))], (I, J, G, fm_P pa (1, 0)))) rfl) ?_
    have K := fmM_convert_c (d := d + 5) hl (by omega) I J G pa (aa / 4) (aa - aa / 4 * 4) rg hp
    generalize er1 : fmM_convert_f J G (aa / 4) (aa - aa / 4 * 4) rg = r1 at he
    have he := he.trans (fm_letE _ _)
    rw [er1] at K
    refine fm_zV O fmM_convert_o (by decide) (i := 0) (as := [.inl (aa / 4), .inl (aa - aa / 4 * 4), .inl rg]) (rest := []) (v := none) rfl fk_5_126 rfl (by decide) fn_M_convert (Nat.le_of_ble_eq_true rfl) K ?_ ?_
    · intro h2
      have he := he.trans (if_pos h2)
      refine fm_zl (fun nn ZZ => fm_gr O 1 (C' := (114, [(0, .inr (.inr (.inr (.inr (18, 0))))), (1, .inl op), (2, .inl aa), (3, .inl rg)], [], (I, r1.2.1, r1.2.2, fm_P pa (1, 0)))) rfl) ?_
      exact fm_zR O rfl trivial (by first | (rw [he]; done) | (rw [he]; rfl) | rfl) (by first | (rw [he]; done) | (rw [he]; rfl) | rfl) (by first | (rw [he]; done) | (rw [he]; rfl) | rfl)
    · intro h2
      have he := he.trans (if_neg h2)
      exact ⟨by rw [he], by first | (rw [he]; done) | (rw [he]; rfl) | rfl⟩
  · have h1 : ¬ op = 20 := h
    have he := he.trans (if_neg h1)
    have hp := hp.2 h1
    refine fm_zl (fun nn ZZ => fm_gr O 2 (C' := (23, [(0, .inr (.inr (.inr (.inr (18, 0))))), (1, .inl op), (2, .inl aa), (3, .inl rg)], [.inl 18, .inl op], (I, J, G, fm_P pa (1, 0)))) rfl) ?_
    refine fm_zb O rfl (fun h => ?_) (fun h => ?_)
    · have h2 : op = 18 := h
      have he := he.trans (if_pos h2)
      have hp := hp.1 h2
      refine fm_zl (fun nn ZZ => fm_gr O 7 (C' := (41, [(0, .inr (.inr (.inr (.inr (18, 0))))), (1, .inl op), (2, .inl aa), (3, .inl rg)], [.inl rg, .inl aa, .inl op, .inr (.inr (.inr (.inr (18, 0)))), .inl rg, .inr (.inr (.inr (.inr (20, 0))))], (I, J, G, fm_P pa (1, 0)))) rfl) ?_
      have hc := hp.1
      have hp := hp.2
      have K := fmM_holds_c (d := d + 5) hl (by omega) I J G pa op aa rg hc
      generalize er2 : fmM_holds_f J G op aa rg = r2 at he hp
      have he := he.trans (fm_letE _ _)
      have hp := fm_letP hp
      rw [er2] at K
      refine fm_zl (fun nn ZZ => fm_cV0 O fmM_holds_o (i := 0) (as := [.inl op, .inl aa, .inl rg]) (rest := [.inl rg, .inr (.inr (.inr (.inr (20, 0))))]) (v := some (.inl r2)) rfl fk_5_129 rfl (by decide) fn_M_holds (Nat.le_of_ble_eq_true rfl) (K)) ?_
      refine fm_zb O rfl (fun h => ?_) (fun h => ?_)
      · have h3 : r2 = 0 := h
        have he := he.trans (if_pos h3)
        have hp := hp.1 h3
        refine fm_zl (fun nn ZZ => fm_gr O 1 (C' := (52, [(0, .inr (.inr (.inr (.inr (18, 0))))), (1, .inl op), (2, .inl aa), (3, .inl rg)], [.inr (.inl 0), .inl rg, .inr (.inr (.inr (.inr (20, 0))))], (I, J, G, fm_P pa (1, 0)))) rfl) ?_
        refine fm_zl (fun nn ZZ => fm_gg O rfl hp) ?_
        refine fm_zl (fun nn ZZ => fm_gr O 1 (C' := (114, [(0, .inr (.inr (.inr (.inr (18, 0))))), (1, .inl op), (2, .inl aa), (3, .inl rg)], [], (I, fm_u J 20 0 rg.toNatClampNeg 0, G, fm_P pa (1, 0)))) rfl) ?_
        exact fm_zR O rfl trivial (by first | (rw [he]; done) | (rw [he]; rfl) | rfl) (by first | (rw [he]; done) | (rw [he]; rfl) | rfl) (by first | (rw [he]; done) | (rw [he]; rfl) | rfl)
      · have h3 : ¬ r2 = 0 := h
        have he := he.trans (if_neg h3)
        have hp := hp.2 h3
        refine fm_zl (fun nn ZZ => fm_gr O 2 (C' := (52, [(0, .inr (.inr (.inr (.inr (18, 0))))), (1, .inl op), (2, .inl aa), (3, .inl rg)], [.inr (.inl 1), .inl rg, .inr (.inr (.inr (.inr (20, 0))))], (I, J, G, fm_P pa (1, 0)))) rfl) ?_
        refine fm_zl (fun nn ZZ => fm_gg O rfl hp) ?_
        refine fm_zl (fun nn ZZ => fm_gr O 1 (C' := (114, [(0, .inr (.inr (.inr (.inr (18, 0))))), (1, .inl op), (2, .inl aa), (3, .inl rg)], [], (I, fm_u J 20 0 rg.toNatClampNeg 1, G, fm_P pa (1, 0)))) rfl) ?_
        exact fm_zR O rfl trivial (by first | (rw [he]; done) | (rw [he]; rfl) | rfl) (by first | (rw [he]; done) | (rw [he]; rfl) | rfl) (by first | (rw [he]; done) | (rw [he]; rfl) | rfl)
    · have h2 : ¬ op = 18 := h
      have he := he.trans (if_neg h2)
      have hp := hp.2 h2
      refine fm_zl (fun nn ZZ => fm_gr O 2 (C' := (29, [(0, .inr (.inr (.inr (.inr (18, 0))))), (1, .inl op), (2, .inl aa), (3, .inl rg)], [.inl 19, .inl op], (I, J, G, fm_P pa (1, 0)))) rfl) ?_
      refine fm_zb O rfl (fun h => ?_) (fun h => ?_)
      · have h3 : op = 19 := h
        have he := he.trans (if_pos h3)
        have hp := hp.1 h3
        refine fm_zl (fun nn ZZ => fm_gr O 7 (C' := (41, [(0, .inr (.inr (.inr (.inr (18, 0))))), (1, .inl op), (2, .inl aa), (3, .inl rg)], [.inl rg, .inl aa, .inl op, .inr (.inr (.inr (.inr (18, 0)))), .inl rg, .inr (.inr (.inr (.inr (20, 0))))], (I, J, G, fm_P pa (1, 0)))) rfl) ?_
        have hc := hp.1
        have hp := hp.2
        have K := fmM_holds_c (d := d + 5) hl (by omega) I J G pa op aa rg hc
        generalize er3 : fmM_holds_f J G op aa rg = r3 at he hp
        have he := he.trans (fm_letE _ _)
        have hp := fm_letP hp
        rw [er3] at K
        refine fm_zl (fun nn ZZ => fm_cV0 O fmM_holds_o (i := 0) (as := [.inl op, .inl aa, .inl rg]) (rest := [.inl rg, .inr (.inr (.inr (.inr (20, 0))))]) (v := some (.inl r3)) rfl fk_5_129 rfl (by decide) fn_M_holds (Nat.le_of_ble_eq_true rfl) (K)) ?_
        refine fm_zb O rfl (fun h => ?_) (fun h => ?_)
        · have h4 : r3 = 0 := h
          have he := he.trans (if_pos h4)
          have hp := hp.1 h4
          refine fm_zl (fun nn ZZ => fm_gr O 1 (C' := (52, [(0, .inr (.inr (.inr (.inr (18, 0))))), (1, .inl op), (2, .inl aa), (3, .inl rg)], [.inr (.inl 0), .inl rg, .inr (.inr (.inr (.inr (20, 0))))], (I, J, G, fm_P pa (1, 0)))) rfl) ?_
          refine fm_zl (fun nn ZZ => fm_gg O rfl hp) ?_
          refine fm_zl (fun nn ZZ => fm_gr O 1 (C' := (114, [(0, .inr (.inr (.inr (.inr (18, 0))))), (1, .inl op), (2, .inl aa), (3, .inl rg)], [], (I, fm_u J 20 0 rg.toNatClampNeg 0, G, fm_P pa (1, 0)))) rfl) ?_
          exact fm_zR O rfl trivial (by first | (rw [he]; done) | (rw [he]; rfl) | rfl) (by first | (rw [he]; done) | (rw [he]; rfl) | rfl) (by first | (rw [he]; done) | (rw [he]; rfl) | rfl)
        · have h4 : ¬ r3 = 0 := h
          have he := he.trans (if_neg h4)
          have hp := hp.2 h4
          refine fm_zl (fun nn ZZ => fm_gr O 2 (C' := (52, [(0, .inr (.inr (.inr (.inr (18, 0))))), (1, .inl op), (2, .inl aa), (3, .inl rg)], [.inr (.inl 1), .inl rg, .inr (.inr (.inr (.inr (20, 0))))], (I, J, G, fm_P pa (1, 0)))) rfl) ?_
          refine fm_zl (fun nn ZZ => fm_gg O rfl hp) ?_
          refine fm_zl (fun nn ZZ => fm_gr O 1 (C' := (114, [(0, .inr (.inr (.inr (.inr (18, 0))))), (1, .inl op), (2, .inl aa), (3, .inl rg)], [], (I, fm_u J 20 0 rg.toNatClampNeg 1, G, fm_P pa (1, 0)))) rfl) ?_
          exact fm_zR O rfl trivial (by first | (rw [he]; done) | (rw [he]; rfl) | rfl) (by first | (rw [he]; done) | (rw [he]; rfl) | rfl) (by first | (rw [he]; done) | (rw [he]; rfl) | rfl)
      · have h3 : ¬ op = 19 := h
        have he := he.trans (if_neg h3)
        have hp := hp.2 h3
        refine fm_zl (fun nn ZZ => fm_gr O 2 (C' := (58, [(0, .inr (.inr (.inr (.inr (18, 0))))), (1, .inl op), (2, .inl aa), (3, .inl rg)], [.inl 1, .inl aa], (I, J, G, fm_P pa (1, 0)))) rfl) ?_
        refine fm_zb O rfl (fun h => ?_) (fun h => ?_)
        · have h4 : 1 < aa := h
          have he := he.trans (if_pos h4)
          have hp := hp.1 h4
          refine fm_zl (fun nn ZZ => fm_gr O 8 (C' := (101, [(0, .inr (.inr (.inr (.inr (18, 0))))), (1, .inl op), (2, .inl aa), (3, .inl rg)], [.inl rg, .inr (.inr (.inr (.inr (21, 0)))), .inl aa, .inl op, .inl rg, .inr (.inr (.inr (.inr (21, 0))))], (I, J, G, fm_P pa (1, 0)))) rfl) ?_
          refine fm_zl (fun nn ZZ => fm_gg O rfl hp.1) ?_
          have hp := hp.2
          refine fm_zl (fun nn ZZ => fm_gr O 5 (C' := (109, [(0, .inr (.inr (.inr (.inr (18, 0))))), (1, .inl op), (2, .inl aa), (3, .inl rg)], [.inl (rg + 1), .inr (.inr (.inr (.inr (21, 0)))), .inr (.inr (.inr (.inl (G 21 0 rg.toNatClampNeg)))), .inl aa, .inl op, .inl rg, .inr (.inr (.inr (.inr (21, 0))))], (I, J, G, fm_P pa (1, 0)))) rfl) ?_
          refine fm_zl (fun nn ZZ => fm_gg O rfl hp.1) ?_
          have hp := hp.2
          have hc := hp.1
          have hp := hp.2
          have K := fmA_ofFractions_c (d := d + 5) hl (by omega) I J G pa ((1, 0)) op aa (G 21 0 rg.toNatClampNeg) (G 21 0 ((rg + 1).toNatClampNeg)) hc
          generalize er4 : fmA_ofFractions_f op aa (G 21 0 rg.toNatClampNeg) (G 21 0 ((rg + 1).toNatClampNeg)) = r4 at he hp
          have he := he.trans (fm_letE _ _)
          have hp := fm_letP hp
          rw [er4] at K
          refine fm_zS O fmA_ofFractions_o (by decide) (as := [.inl op, .inl aa, .inr (.inr (.inr (.inl (G 21 0 rg.toNatClampNeg)))), .inr (.inr (.inr (.inl (G 21 0 ((rg + 1).toNatClampNeg)))))]) (rest := [.inl rg, .inr (.inr (.inr (.inr (21, 0))))]) (v := some (.inr (.inr (.inr (.inl r4.2))))) rfl fk_5_137 fn_A_ofFractions (Nat.le_of_ble_eq_true rfl) K ?_ ?_
          · intro h5
            have he := he.trans (if_pos h5)
            have hp := hp h5
            refine fm_zl (fun nn ZZ => fm_gg O rfl hp) ?_
            exact fm_zR O rfl trivial (by first | (rw [he]; done) | (rw [he]; rfl) | rfl) (by first | (rw [he]; done) | (rw [he]; rfl) | rfl) (by first | (rw [he]; done) | (rw [he]; rfl) | rfl)
          · intro h5
            have he := he.trans (if_neg h5)
            exact ⟨by rw [he], by first | (rw [he]; done) | (rw [he]; rfl) | rfl⟩
        · have h4 : ¬ 1 < aa := h
          have he := he.trans (if_neg h4)
          have hp := hp.2 h4
          refine fm_zl (fun nn ZZ => fm_gr O 8 (C' := (73, [(0, .inr (.inr (.inr (.inr (18, 0))))), (1, .inl op), (2, .inl aa), (3, .inl rg)], [.inl rg, .inr (.inr (.inr (.inr (20, 0)))), .inl aa, .inl op, .inl rg, .inr (.inr (.inr (.inr (20, 0))))], (I, J, G, fm_P pa (1, 0)))) rfl) ?_
          refine fm_zl (fun nn ZZ => fm_gg O rfl hp.1) ?_
          have hp := hp.2
          refine fm_zl (fun nn ZZ => fm_gr O 5 (C' := (81, [(0, .inr (.inr (.inr (.inr (18, 0))))), (1, .inl op), (2, .inl aa), (3, .inl rg)], [.inl (rg + 1), .inr (.inr (.inr (.inr (20, 0)))), .inr (.inl (J 20 0 rg.toNatClampNeg)), .inl aa, .inl op, .inl rg, .inr (.inr (.inr (.inr (20, 0))))], (I, J, G, fm_P pa (1, 0)))) rfl) ?_
          refine fm_zl (fun nn ZZ => fm_gg O rfl hp.1) ?_
          have hp := hp.2
          have hc := hp.1
          have hp := hp.2
          have K := fmA_ofWholes_c (d := d + 5) hl (by omega) I J G pa ((1, 0)) op aa (J 20 0 rg.toNatClampNeg) (J 20 0 ((rg + 1).toNatClampNeg)) hc
          generalize er5 : fmA_ofWholes_f op aa (J 20 0 rg.toNatClampNeg) (J 20 0 ((rg + 1).toNatClampNeg)) = r5 at he hp
          have he := he.trans (fm_letE _ _)
          have hp := fm_letP hp
          rw [er5] at K
          refine fm_zS O fmA_ofWholes_o (by decide) (as := [.inl op, .inl aa, .inr (.inl (J 20 0 rg.toNatClampNeg)), .inr (.inl (J 20 0 ((rg + 1).toNatClampNeg)))]) (rest := [.inl rg, .inr (.inr (.inr (.inr (20, 0))))]) (v := some (.inr (.inl r5.2))) rfl fk_5_133 fn_A_ofWholes (Nat.le_of_ble_eq_true rfl) K ?_ ?_
          · intro h5
            have he := he.trans (if_pos h5)
            have hp := hp h5
            refine fm_zl (fun nn ZZ => fm_gg O rfl hp) ?_
            refine fm_zl (fun nn ZZ => fm_gr O 1 (C' := (114, [(0, .inr (.inr (.inr (.inr (18, 0))))), (1, .inl op), (2, .inl aa), (3, .inl rg)], [], (I, fm_u J 20 0 rg.toNatClampNeg r5.2, G, fm_P pa (1, 0)))) rfl) ?_
            exact fm_zR O rfl trivial (by first | (rw [he]; done) | (rw [he]; rfl) | rfl) (by first | (rw [he]; done) | (rw [he]; rfl) | rfl) (by first | (rw [he]; done) | (rw [he]; rfl) | rfl)
          · intro h5
            have he := he.trans (if_neg h5)
            exact ⟨by rw [he], by first | (rw [he]; done) | (rw [he]; rfl) | rfl⟩
def fmM_callFunction_L24_f : Nat → fm_MI → fm_MJ → fm_MG → (Nat × Nat) → Int32 → Int32 → Int32 → Nat × fm_MI × fm_MJ × fm_MG
  | 0, I, J, G, pa, y1, y2, y3 => (0, I, J, G)
  | n + 1, I, J, G, pa, y1, y2, y3 => if (I 2 y1.toNatClampNeg 1) ≤ y3 then ((0, I, J, G)) else (fm_let (fmM_copy_f J G (y2 + y3) ((I 18 0 6) + y3)) (fun (r2 : fm_MJ × fm_MG) => fmM_callFunction_L24_f n I r2.1 r2.2 pa y1 y2 (y3 + 1)))
theorem fmM_callFunction_L24_e (n : Nat) (I : fm_MI) (J : fm_MJ) (G : fm_MG) (pa : Nat × Nat) (y1 : Int32) (y2 : Int32) (y3 : Int32) : fmM_callFunction_L24_f (n + 1) I J G pa y1 y2 y3 = if (I 2 y1.toNatClampNeg 1) ≤ y3 then ((0, I, J, G)) else (fm_let (fmM_copy_f J G (y2 + y3) ((I 18 0 6) + y3)) (fun (r2 : fm_MJ × fm_MG) => fmM_callFunction_L24_f n I r2.1 r2.2 pa y1 y2 (y3 + 1))) := rfl
def fmM_callFunction_L24_p : Nat → fm_MI → fm_MJ → fm_MG → (Nat × Nat) → Int32 → Int32 → Int32 → Prop
  | 0, I, J, G, pa, y1, y2, y3 => False
  | n + 1, I, J, G, pa, y1, y2, y3 => (vp_in y1 4) ∧ (((I 2 y1.toNatClampNeg 1) ≤ y3 → True) ∧ (¬ (I 2 y1.toNatClampNeg 1) ≤ y3 → fmM_copy_p (y2 + y3) ((I 18 0 6) + y3) ∧ (fm_let (fmM_copy_f J G (y2 + y3) ((I 18 0 6) + y3)) (fun (r2 : fm_MJ × fm_MG) => fmM_callFunction_L24_p n I r2.1 r2.2 pa y1 y2 (y3 + 1)))))
theorem fmM_callFunction_L24_q (n : Nat) (I : fm_MI) (J : fm_MJ) (G : fm_MG) (pa : Nat × Nat) (y1 : Int32) (y2 : Int32) (y3 : Int32) : fmM_callFunction_L24_p (n + 1) I J G pa y1 y2 y3 = ((vp_in y1 4) ∧ (((I 2 y1.toNatClampNeg 1) ≤ y3 → True) ∧ (¬ (I 2 y1.toNatClampNeg 1) ≤ y3 → fmM_copy_p (y2 + y3) ((I 18 0 6) + y3) ∧ (fm_let (fmM_copy_f J G (y2 + y3) ((I 18 0 6) + y3)) (fun (r2 : fm_MJ × fm_MG) => fmM_callFunction_L24_p n I r2.1 r2.2 pa y1 y2 (y3 + 1)))))) := rfl
set_option maxRecDepth 100000 in
set_option maxHeartbeats 4000000 in
theorem fmM_callFunction_L24_c {E : fm_Ev} (hl : E.1.stackTraces = false) {d : Nat} (hd : 6 ≤ d + 6) (n : Nat) : ∀ (I : fm_MI) (J : fm_MJ) (G : fm_MG) (pa : Nat × Nat) (y1 : Int32) (y2 : Int32) (y3 : Int32), fmM_callFunction_L24_p n I J G pa y1 y2 y3 → fm_Gz E (d + 6) fmM_callFunction (24, [(0, .inr (.inr (.inr (.inr (18, 0))))), (1, .inl y1), (2, .inl y2), (3, .inl y3)], [], (I, J, G, fm_P pa (1, 0))) ((fmM_callFunction_L24_f n I J G pa y1 y2 y3).1) none ((fmM_callFunction_L24_f n I J G pa y1 y2 y3).2.1, (fmM_callFunction_L24_f n I J G pa y1 y2 y3).2.2.1, (fmM_callFunction_L24_f n I J G pa y1 y2 y3).2.2.2, fm_P pa (1, 0)) := by
  have O := fmM_callFunction_o.1
  induction n with
  | zero => intro I J G pa y1 y2 y3 hp; exact hp.elim
  | succ n ih =>
    intro I J G pa y1 y2 y3 hp
    rw [fmM_callFunction_L24_q] at hp
    have he := fmM_callFunction_L24_e n I J G pa y1 y2 y3
    refine fm_zl (fun nn ZZ => fm_gr O 4 (C' := (30, [(0, .inr (.inr (.inr (.inr (18, 0))))), (1, .inl y1), (2, .inl y2), (3, .inl y3)], [.inl y1, .inr (.inr (.inr (.inr (1, 0)))), .inl y3], (I, J, G, fm_P pa (1, 0)))) rfl) ?_
    refine fm_zl (fun nn ZZ => fm_gg O rfl hp.1) ?_
    have hp := hp.2
    refine fm_zl (fun nn ZZ => fm_gr O 1 (C' := (34, [(0, .inr (.inr (.inr (.inr (18, 0))))), (1, .inl y1), (2, .inl y2), (3, .inl y3)], [.inl (I 2 y1.toNatClampNeg 1), .inl y3], (I, J, G, fm_P pa (1, 0)))) rfl) ?_
    refine fm_zb O rfl (fun h => ?_) (fun h => ?_)
    · have h1 : (I 2 y1.toNatClampNeg 1) ≤ y3 := h
      have he := he.trans (if_pos h1)
      exact fm_zR O rfl trivial (by first | (rw [he]; done) | (rw [he]; rfl) | rfl) (by first | (rw [he]; done) | (rw [he]; rfl) | rfl) (by first | (rw [he]; done) | (rw [he]; rfl) | rfl)
    · have h1 : ¬ (I 2 y1.toNatClampNeg 1) ≤ y3 := h
      have he := he.trans (if_neg h1)
      have hp := hp.2 h1
      refine fm_zl (fun nn ZZ => fm_gr O 8 (C' := (47, [(0, .inr (.inr (.inr (.inr (18, 0))))), (1, .inl y1), (2, .inl y2), (3, .inl y3)], [.inl ((I 18 0 6) + y3), .inl (y2 + y3), .inr (.inr (.inr (.inr (18, 0))))], (I, J, G, fm_P pa (1, 0)))) rfl) ?_
      have hc := hp.1
      have hp := hp.2
      have K := fmM_copy_c (d := d + 5) hl (by omega) I J G pa (y2 + y3) ((I 18 0 6) + y3) hc
      generalize er2 : fmM_copy_f J G (y2 + y3) ((I 18 0 6) + y3) = r2 at he hp
      have he := he.trans (fm_letE _ _)
      have hp := fm_letP hp
      rw [er2] at K
      refine fm_zl (fun nn ZZ => fm_cV0 O fmM_copy_o (i := 0) (as := [.inl (y2 + y3), .inl ((I 18 0 6) + y3)]) (rest := []) (v := none) rfl fk_5_102 rfl (by decide) fn_M_copy (Nat.le_of_ble_eq_true rfl) (K)) ?_
      refine fm_zl (fun nn ZZ => fm_gr O 2 (C' := (24, [(3, .inl (y3 + 1)), (0, .inr (.inr (.inr (.inr (18, 0))))), (1, .inl y1), (2, .inl y2)], [], (I, r2.1, r2.2, fm_P pa (1, 0)))) rfl) ?_
      refine fm_zl (fun nn ZZ => fm_gL O [1, 2, 3, 0] rfl) ?_
      rw [he]
      exact ih I r2.1 r2.2 pa y1 y2 (y3 + 1) hp
def fmM_callFunction_f (I : fm_MI) (J : fm_MJ) (G : fm_MG) (pa : Nat × Nat) (f : Int32) (rg : Int32) : Nat × fm_MI × fm_MJ × fm_MG :=
  if (I 18 0 5) = 8 then ((2, I, J, G)) else (fm_let (fmM_enter_f I J G pa f) (fun (r1 : fm_MI × fm_MJ × fm_MG) => fmM_callFunction_L24_f 4 r1.1 r1.2.1 r1.2.2 pa f rg 0))
theorem fmM_callFunction_e (I : fm_MI) (J : fm_MJ) (G : fm_MG) (pa : Nat × Nat) (f : Int32) (rg : Int32) : fmM_callFunction_f I J G pa f rg = if (I 18 0 5) = 8 then ((2, I, J, G)) else (fm_let (fmM_enter_f I J G pa f) (fun (r1 : fm_MI × fm_MJ × fm_MG) => fmM_callFunction_L24_f 4 r1.1 r1.2.1 r1.2.2 pa f rg 0)) := rfl
def fmM_callFunction_p (I : fm_MI) (J : fm_MJ) (G : fm_MG) (pa : Nat × Nat) (f : Int32) (rg : Int32) : Prop :=
  ((I 18 0 5) = 8 → True) ∧ (¬ (I 18 0 5) = 8 → fmM_enter_p I J G pa f ∧ (fm_let (fmM_enter_f I J G pa f) (fun (r1 : fm_MI × fm_MJ × fm_MG) => fmM_callFunction_L24_p 4 r1.1 r1.2.1 r1.2.2 pa f rg 0)))
set_option maxRecDepth 100000 in
set_option maxHeartbeats 4000000 in
theorem fmM_callFunction_c {E : fm_Ev} (hl : E.1.stackTraces = false) {d : Nat} (hd : 6 ≤ d) (I : fm_MI) (J : fm_MJ) (G : fm_MG) (pa : Nat × Nat) (f : Int32) (rg : Int32) (hp : fmM_callFunction_p I J G pa f rg) : fm_Cz E d fmM_callFunction [.inr (.inr (.inr (.inr (18, 0)))), .inl f, .inl rg] (I, J, G, fm_P pa (1, 0)) ((fmM_callFunction_f I J G pa f rg).1) none ((fmM_callFunction_f I J G pa f rg).2.1, (fmM_callFunction_f I J G pa f rg).2.2.1, (fmM_callFunction_f I J G pa f rg).2.2.2, fm_P pa (1, 0)) := by
  obtain ⟨d, rfl⟩ : ∃ d', d = d' + 6 := ⟨d - 6, by omega⟩
  refine fm_zc fmM_callFunction_o hl (Nat.le_of_ble_eq_true rfl) ?_
  have O := fmM_callFunction_o.1
  unfold fmM_callFunction_p at hp
  have he := fmM_callFunction_e I J G pa f rg
  refine fm_zl (fun nn ZZ => fm_gr O 3 (C' := (6, [(0, .inr (.inr (.inr (.inr (18, 0))))), (1, .inl f), (2, .inl rg)], [.inl 8, .inl (I 18 0 5)], (I, J, G, fm_P pa (1, 0)))) rfl) ?_
  refine fm_zb O rfl (fun h => ?_) (fun h => ?_)
  · have h1 : (I 18 0 5) = 8 := h
    have he := he.trans (if_pos h1)
    exact fm_zT (k := 1) O (by decide) fm_atMS rfl rfl rfl rfl (Nat.le_of_ble_eq_true rfl) (by rw [he]) (by first | (rw [he]; done) | (rw [he]; rfl) | rfl)
  · have h1 : ¬ (I 18 0 5) = 8 := h
    have he := he.trans (if_neg h1)
    have hp := hp.2 h1
    refine fm_zl (fun nn ZZ => fm_gr O 2 (C' := (19, [(0, .inr (.inr (.inr (.inr (18, 0))))), (1, .inl f), (2, .inl rg)], [.inl f, .inr (.inr (.inr (.inr (18, 0))))], (I, J, G, fm_P pa (1, 0)))) rfl) ?_
    have hc := hp.1
    have hp := hp.2
    have K := fmM_enter_c (d := d + 5) hl (by omega) I J G pa f hc
    generalize er1 : fmM_enter_f I J G pa f = r1 at he hp
    have he := he.trans (fm_letE _ _)
    have hp := fm_letP hp
    rw [er1] at K
    refine fm_zl (fun nn ZZ => fm_cV0 O fmM_enter_o (i := 0) (as := [.inl f]) (rest := []) (v := none) rfl fk_5_42 rfl (by decide) fn_M_enter (Nat.le_of_ble_eq_true rfl) (K)) ?_
    refine fm_zl (fun nn ZZ => fm_gr O 2 (C' := (24, [(3, .inl 0), (0, .inr (.inr (.inr (.inr (18, 0))))), (1, .inl f), (2, .inl rg)], [], (r1.1, r1.2.1, r1.2.2, fm_P pa (1, 0)))) rfl) ?_
    refine fm_zl (fun nn ZZ => fm_gL O [1, 2, 3, 0] rfl) ?_
    rw [he]
    exact fmM_callFunction_L24_c hl hd 4 r1.1 r1.2.1 r1.2.2 pa f rg 0 hp
def fmM_goOnElsewhere_f (I : fm_MI) (J : fm_MJ) (G : fm_MG) (pa : Nat × Nat) (f : Nat) (rw : Int32) (rg : Int32) : Nat × fm_MI × fm_MJ × fm_MG :=
  if (I 7 f rw.toNatClampNeg) = 23 then (if (lg_cmp (J 20 0 rg.toNatClampNeg) 0) = 0 then ((0, fm_u I 23 0 (((I 18 0 5) - 1).toNatClampNeg) (I 11 f rw.toNatClampNeg), J, G)) else ((0, I, J, G))) else (if (I 7 f rw.toNatClampNeg) = 24 then ((4, I, J, G)) else (if (I 7 f rw.toNatClampNeg) = 25 then ((4, I, J, G)) else (if (I 7 f rw.toNatClampNeg) = 26 then (fm_let (fmM_jump_f I J G f rw rg) (fun (r1 : fm_MI × fm_MJ × fm_MG) => (0, r1.1, r1.2.1, r1.2.2))) else (if (I 7 f rw.toNatClampNeg) = 27 then (if (I 10 f rw.toNatClampNeg) = (-1) then (if (lg_cmp (J 20 0 rg.toNatClampNeg) 0) = 0 then ((0, I, J, G)) else (fm_let (fmM_jump_f I J G f rw rg) (fun (r2 : fm_MI × fm_MJ × fm_MG) => (0, r2.1, r2.2.1, r2.2.2)))) else (if (lg_cmp (J 20 0 ((rg + 1).toNatClampNeg)) 0) = 0 then ((0, I, J, G)) else (fm_let (fmM_jump_f I J G f rw rg) (fun (r3 : fm_MI × fm_MJ × fm_MG) => (0, r3.1, r3.2.1, r3.2.2))))) else (if (I 7 f rw.toNatClampNeg) = 28 then ((4, I, J, G)) else (if (I 7 f rw.toNatClampNeg) = 29 then (fm_let (fmM_callFunction_f I J G pa (I 8 f rw.toNatClampNeg) rg) (fun (r4 : Nat × fm_MI × fm_MJ × fm_MG) => if r4.1 = 0 then ((0, r4.2.1, r4.2.2.1, r4.2.2.2)) else ((r4.1, r4.2.1, r4.2.2.1, r4.2.2.2)))) else ((4, I, J, G))))))))
theorem fmM_goOnElsewhere_e (I : fm_MI) (J : fm_MJ) (G : fm_MG) (pa : Nat × Nat) (f : Nat) (rw : Int32) (rg : Int32) : fmM_goOnElsewhere_f I J G pa f rw rg = if (I 7 f rw.toNatClampNeg) = 23 then (if (lg_cmp (J 20 0 rg.toNatClampNeg) 0) = 0 then ((0, fm_u I 23 0 (((I 18 0 5) - 1).toNatClampNeg) (I 11 f rw.toNatClampNeg), J, G)) else ((0, I, J, G))) else (if (I 7 f rw.toNatClampNeg) = 24 then ((4, I, J, G)) else (if (I 7 f rw.toNatClampNeg) = 25 then ((4, I, J, G)) else (if (I 7 f rw.toNatClampNeg) = 26 then (fm_let (fmM_jump_f I J G f rw rg) (fun (r1 : fm_MI × fm_MJ × fm_MG) => (0, r1.1, r1.2.1, r1.2.2))) else (if (I 7 f rw.toNatClampNeg) = 27 then (if (I 10 f rw.toNatClampNeg) = (-1) then (if (lg_cmp (J 20 0 rg.toNatClampNeg) 0) = 0 then ((0, I, J, G)) else (fm_let (fmM_jump_f I J G f rw rg) (fun (r2 : fm_MI × fm_MJ × fm_MG) => (0, r2.1, r2.2.1, r2.2.2)))) else (if (lg_cmp (J 20 0 ((rg + 1).toNatClampNeg)) 0) = 0 then ((0, I, J, G)) else (fm_let (fmM_jump_f I J G f rw rg) (fun (r3 : fm_MI × fm_MJ × fm_MG) => (0, r3.1, r3.2.1, r3.2.2))))) else (if (I 7 f rw.toNatClampNeg) = 28 then ((4, I, J, G)) else (if (I 7 f rw.toNatClampNeg) = 29 then (fm_let (fmM_callFunction_f I J G pa (I 8 f rw.toNatClampNeg) rg) (fun (r4 : Nat × fm_MI × fm_MJ × fm_MG) => if r4.1 = 0 then ((0, r4.2.1, r4.2.2.1, r4.2.2.2)) else ((r4.1, r4.2.1, r4.2.2.1, r4.2.2.2)))) else ((4, I, J, G)))))))) := rfl
def fmM_goOnElsewhere_p (I : fm_MI) (J : fm_MJ) (G : fm_MG) (pa : Nat × Nat) (f : Nat) (rw : Int32) (rg : Int32) : Prop :=
  (vp_in rw 40) ∧ (((I 7 f rw.toNatClampNeg) = 23 → (vp_in rg 212) ∧ (((lg_cmp (J 20 0 rg.toNatClampNeg) 0) = 0 → (vp_in rw 40) ∧ (vp_in ((I 18 0 5) - 1) 8)) ∧ (¬ (lg_cmp (J 20 0 rg.toNatClampNeg) 0) = 0 → True))) ∧ (¬ (I 7 f rw.toNatClampNeg) = 23 → ((I 7 f rw.toNatClampNeg) = 24 → True) ∧ (¬ (I 7 f rw.toNatClampNeg) = 24 → ((I 7 f rw.toNatClampNeg) = 25 → True) ∧ (¬ (I 7 f rw.toNatClampNeg) = 25 → ((I 7 f rw.toNatClampNeg) = 26 → fmM_jump_p I J G f rw rg) ∧ (¬ (I 7 f rw.toNatClampNeg) = 26 → ((I 7 f rw.toNatClampNeg) = 27 → (vp_in rw 40) ∧ (((I 10 f rw.toNatClampNeg) = (-1) → (vp_in rg 212) ∧ (((lg_cmp (J 20 0 rg.toNatClampNeg) 0) = 0 → True) ∧ (¬ (lg_cmp (J 20 0 rg.toNatClampNeg) 0) = 0 → fmM_jump_p I J G f rw rg))) ∧ (¬ (I 10 f rw.toNatClampNeg) = (-1) → (vp_in (rg + 1) 212) ∧ (((lg_cmp (J 20 0 ((rg + 1).toNatClampNeg)) 0) = 0 → True) ∧ (¬ (lg_cmp (J 20 0 ((rg + 1).toNatClampNeg)) 0) = 0 → fmM_jump_p I J G f rw rg))))) ∧ (¬ (I 7 f rw.toNatClampNeg) = 27 → ((I 7 f rw.toNatClampNeg) = 28 → True) ∧ (¬ (I 7 f rw.toNatClampNeg) = 28 → ((I 7 f rw.toNatClampNeg) = 29 → (vp_in rw 40) ∧ (fmM_callFunction_p I J G pa (I 8 f rw.toNatClampNeg) rg)) ∧ (¬ (I 7 f rw.toNatClampNeg) = 29 → True))))))))
set_option maxRecDepth 100000 in
set_option maxHeartbeats 4000000 in
theorem fmM_goOnElsewhere_c {E : fm_Ev} (hl : E.1.stackTraces = false) {d : Nat} (hd : 7 ≤ d) (I : fm_MI) (J : fm_MJ) (G : fm_MG) (pa : Nat × Nat) (f : Nat) (rw : Int32) (rg : Int32) (hp : fmM_goOnElsewhere_p I J G pa f rw rg) : fm_Cz E d fmM_goOnElsewhere [.inr (.inr (.inr (.inr (18, 0)))), .inr (.inr (.inr (.inr (6, f)))), .inl rw, .inl rg] (I, J, G, fm_P pa (1, 0)) ((fmM_goOnElsewhere_f I J G pa f rw rg).1) none ((fmM_goOnElsewhere_f I J G pa f rw rg).2.1, (fmM_goOnElsewhere_f I J G pa f rw rg).2.2.1, (fmM_goOnElsewhere_f I J G pa f rw rg).2.2.2, fm_P pa (1, 0)) := by
  obtain ⟨d, rfl⟩ : ∃ d', d = d' + 6 := ⟨d - 6, by omega⟩
  refine fm_zc fmM_goOnElsewhere_o hl (Nat.le_of_ble_eq_true rfl) ?_
  have O := fmM_goOnElsewhere_o.1
  unfold fmM_goOnElsewhere_p at hp
  have he := fmM_goOnElsewhere_e I J G pa f rw rg
  refine fm_zl (fun nn ZZ => fm_gr O 3 (C' := (5, [(0, .inr (.inr (.inr (.inr (18, 0))))), (1, .inr (.inr (.inr (.inr (6, f))))), (2, .inl rw), (3, .inl rg)], [.inl rw, .inr (.inr (.inr (.inr (7, f))))], (I, J, G, fm_P pa (1, 0)))) rfl) ?_
  refine fm_zl (fun nn ZZ => fm_gg O rfl hp.1) ?_
  have hp := hp.2
  by_cases h1 : (I 7 f rw.toNatClampNeg) = 23
  · have he := he.trans (if_pos h1)
    have hp := hp.1 h1
    refine fm_zl (fun nn ZZ => fm_gs O 23 rfl (show (I 7 f rw.toNatClampNeg).toInt = 23 from by rw [h1]; decide)) ?_
    refine fm_zl (fun nn ZZ => fm_gr O 3 (C' := (53, [(0, .inr (.inr (.inr (.inr (18, 0))))), (1, .inr (.inr (.inr (.inr (6, f))))), (2, .inl rw), (3, .inl rg)], [.inl rg, .inr (.inr (.inr (.inr (20, 0))))], (I, J, G, fm_P pa (1, 0)))) rfl) ?_
    refine fm_zl (fun nn ZZ => fm_gg O rfl hp.1) ?_
    have hp := hp.2
    refine fm_zl (fun nn ZZ => fm_gr O 2 (C' := (56, [(0, .inr (.inr (.inr (.inr (18, 0))))), (1, .inr (.inr (.inr (.inr (6, f))))), (2, .inl rw), (3, .inl rg)], [.inl (lg_cmp (J 20 0 rg.toNatClampNeg) 0)], (I, J, G, fm_P pa (1, 0)))) rfl) ?_
    refine fm_zb O rfl (fun h => ?_) (fun h => ?_)
    · have h2 : (lg_cmp (J 20 0 rg.toNatClampNeg) 0) = 0 := h
      have he := he.trans (if_pos h2)
      have hp := hp.1 h2
      refine fm_zl (fun nn ZZ => fm_gr O 9 (C' := (74, [(0, .inr (.inr (.inr (.inr (18, 0))))), (1, .inr (.inr (.inr (.inr (6, f))))), (2, .inl rw), (3, .inl rg)], [.inl rw, .inr (.inr (.inr (.inr (11, f)))), .inl ((I 18 0 5) - 1), .inr (.inr (.inr (.inr (23, 0))))], (I, J, G, fm_P pa (1, 0)))) rfl) ?_
      refine fm_zl (fun nn ZZ => fm_gg O rfl hp.1) ?_
      have hp := hp.2
      refine fm_zl (fun nn ZZ => fm_gg O rfl hp) ?_
      refine fm_zl (fun nn ZZ => fm_gr O 1 (C' := (148, [(0, .inr (.inr (.inr (.inr (18, 0))))), (1, .inr (.inr (.inr (.inr (6, f))))), (2, .inl rw), (3, .inl rg)], [], (fm_u I 23 0 (((I 18 0 5) - 1).toNatClampNeg) (I 11 f rw.toNatClampNeg), J, G, fm_P pa (1, 0)))) rfl) ?_
      exact fm_zR O rfl trivial (by first | (rw [he]; done) | (rw [he]; rfl) | rfl) (by first | (rw [he]; done) | (rw [he]; rfl) | rfl) (by first | (rw [he]; done) | (rw [he]; rfl) | rfl)
    · have h2 : ¬ (lg_cmp (J 20 0 rg.toNatClampNeg) 0) = 0 := h
      have he := he.trans (if_neg h2)
      exact fm_zR O rfl trivial (by first | (rw [he]; done) | (rw [he]; rfl) | rfl) (by first | (rw [he]; done) | (rw [he]; rfl) | rfl) (by first | (rw [he]; done) | (rw [he]; rfl) | rfl)
  · have he := he.trans (if_neg h1)
    have hp := hp.2 h1
    by_cases h2 : (I 7 f rw.toNatClampNeg) = 24
    · have he := he.trans (if_pos h2)
      refine fm_zl (fun nn ZZ => fm_gs O 24 rfl (show (I 7 f rw.toNatClampNeg).toInt = 24 from by rw [h2]; decide)) ?_
      exact fm_zT (k := 3) O (by decide) fm_atMU rfl rfl rfl rfl (Nat.le_of_ble_eq_true rfl) (by rw [he]) (by first | (rw [he]; done) | (rw [he]; rfl) | rfl)
    · have he := he.trans (if_neg h2)
      have hp := hp.2 h2
      by_cases h3 : (I 7 f rw.toNatClampNeg) = 25
      · have he := he.trans (if_pos h3)
        refine fm_zl (fun nn ZZ => fm_gs O 25 rfl (show (I 7 f rw.toNatClampNeg).toInt = 25 from by rw [h3]; decide)) ?_
        exact fm_zT (k := 3) O (by decide) fm_atMU rfl rfl rfl rfl (Nat.le_of_ble_eq_true rfl) (by rw [he]) (by first | (rw [he]; done) | (rw [he]; rfl) | rfl)
      · have he := he.trans (if_neg h3)
        have hp := hp.2 h3
        by_cases h4 : (I 7 f rw.toNatClampNeg) = 26
        · have he := he.trans (if_pos h4)
          have hp := hp.1 h4
          refine fm_zl (fun nn ZZ => fm_gs O 26 rfl (show (I 7 f rw.toNatClampNeg).toInt = 26 from by rw [h4]; decide)) ?_
          refine fm_zl (fun nn ZZ => fm_gr O 4 (C' := (83, [(0, .inr (.inr (.inr (.inr (18, 0))))), (1, .inr (.inr (.inr (.inr (6, f))))), (2, .inl rw), (3, .inl rg)], [.inl rg, .inl rw, .inr (.inr (.inr (.inr (6, f)))), .inr (.inr (.inr (.inr (18, 0))))], (I, J, G, fm_P pa (1, 0)))) rfl) ?_
          have K := fmM_jump_c (d := d + 5) hl (by omega) I J G pa f rw rg hp
          generalize er1 : fmM_jump_f I J G f rw rg = r1 at he
          have he := he.trans (fm_letE _ _)
          rw [er1] at K
          refine fm_zl (fun nn ZZ => fm_cV0 O fmM_jump_o (i := 0) (as := [.inr (.inr (.inr (.inr (6, f)))), .inl rw, .inl rg]) (rest := []) (v := none) rfl fk_5_148 rfl (by decide) fn_M_jump (Nat.le_of_ble_eq_true rfl) (K)) ?_
          refine fm_zl (fun nn ZZ => fm_gr O 1 (C' := (148, [(0, .inr (.inr (.inr (.inr (18, 0))))), (1, .inr (.inr (.inr (.inr (6, f))))), (2, .inl rw), (3, .inl rg)], [], (r1.1, r1.2.1, r1.2.2, fm_P pa (1, 0)))) rfl) ?_
          exact fm_zR O rfl trivial (by first | (rw [he]; done) | (rw [he]; rfl) | rfl) (by first | (rw [he]; done) | (rw [he]; rfl) | rfl) (by first | (rw [he]; done) | (rw [he]; rfl) | rfl)
        · have he := he.trans (if_neg h4)
          have hp := hp.2 h4
          by_cases h5 : (I 7 f rw.toNatClampNeg) = 27
          · have he := he.trans (if_pos h5)
            have hp := hp.1 h5
            refine fm_zl (fun nn ZZ => fm_gs O 27 rfl (show (I 7 f rw.toNatClampNeg).toInt = 27 from by rw [h5]; decide)) ?_
            refine fm_zl (fun nn ZZ => fm_gr O 5 (C' := (98, [(0, .inr (.inr (.inr (.inr (18, 0))))), (1, .inr (.inr (.inr (.inr (6, f))))), (2, .inl rw), (3, .inl rg)], [.inl rw, .inr (.inr (.inr (.inr (10, f)))), .inr (.inr (.inr (.inr (20, 0))))], (I, J, G, fm_P pa (1, 0)))) rfl) ?_
            refine fm_zl (fun nn ZZ => fm_gg O rfl hp.1) ?_
            have hp := hp.2
            refine fm_zl (fun nn ZZ => fm_gr O 1 (C' := (100, [(0, .inr (.inr (.inr (.inr (18, 0))))), (1, .inr (.inr (.inr (.inr (6, f))))), (2, .inl rw), (3, .inl rg)], [.inl (-1), .inl (I 10 f rw.toNatClampNeg), .inr (.inr (.inr (.inr (20, 0))))], (I, J, G, fm_P pa (1, 0)))) rfl) ?_
            refine fm_zb O rfl (fun h => ?_) (fun h => ?_)
            · have h6 : (I 10 f rw.toNatClampNeg) = (-1) := h
              have he := he.trans (if_pos h6)
              have hp := hp.1 h6
              refine fm_zl (fun nn ZZ => fm_gr O 2 (C' := (110, [(0, .inr (.inr (.inr (.inr (18, 0))))), (1, .inr (.inr (.inr (.inr (6, f))))), (2, .inl rw), (3, .inl rg)], [.inl rg, .inr (.inr (.inr (.inr (20, 0))))], (I, J, G, fm_P pa (1, 0)))) rfl) ?_
              refine fm_zl (fun nn ZZ => fm_gg O rfl hp.1) ?_
              have hp := hp.2
              refine fm_zl (fun nn ZZ => fm_gr O 2 (C' := (113, [(0, .inr (.inr (.inr (.inr (18, 0))))), (1, .inr (.inr (.inr (.inr (6, f))))), (2, .inl rw), (3, .inl rg)], [.inl (lg_cmp (J 20 0 rg.toNatClampNeg) 0)], (I, J, G, fm_P pa (1, 0)))) rfl) ?_
              refine fm_zb O rfl (fun h => ?_) (fun h => ?_)
              · have h7 : (lg_cmp (J 20 0 rg.toNatClampNeg) 0) = 0 := h
                have he := he.trans (if_pos h7)
                exact fm_zR O rfl trivial (by first | (rw [he]; done) | (rw [he]; rfl) | rfl) (by first | (rw [he]; done) | (rw [he]; rfl) | rfl) (by first | (rw [he]; done) | (rw [he]; rfl) | rfl)
              · have h7 : ¬ (lg_cmp (J 20 0 rg.toNatClampNeg) 0) = 0 := h
                have he := he.trans (if_neg h7)
                have hp := hp.2 h7
                refine fm_zl (fun nn ZZ => fm_gr O 4 (C' := (120, [(0, .inr (.inr (.inr (.inr (18, 0))))), (1, .inr (.inr (.inr (.inr (6, f))))), (2, .inl rw), (3, .inl rg)], [.inl rg, .inl rw, .inr (.inr (.inr (.inr (6, f)))), .inr (.inr (.inr (.inr (18, 0))))], (I, J, G, fm_P pa (1, 0)))) rfl) ?_
                have K := fmM_jump_c (d := d + 5) hl (by omega) I J G pa f rw rg hp
                generalize er2 : fmM_jump_f I J G f rw rg = r2 at he
                have he := he.trans (fm_letE _ _)
                rw [er2] at K
                refine fm_zl (fun nn ZZ => fm_cV0 O fmM_jump_o (i := 0) (as := [.inr (.inr (.inr (.inr (6, f)))), .inl rw, .inl rg]) (rest := []) (v := none) rfl fk_5_148 rfl (by decide) fn_M_jump (Nat.le_of_ble_eq_true rfl) (K)) ?_
                refine fm_zl (fun nn ZZ => fm_gr O 1 (C' := (148, [(0, .inr (.inr (.inr (.inr (18, 0))))), (1, .inr (.inr (.inr (.inr (6, f))))), (2, .inl rw), (3, .inl rg)], [], (r2.1, r2.2.1, r2.2.2, fm_P pa (1, 0)))) rfl) ?_
                exact fm_zR O rfl trivial (by first | (rw [he]; done) | (rw [he]; rfl) | rfl) (by first | (rw [he]; done) | (rw [he]; rfl) | rfl) (by first | (rw [he]; done) | (rw [he]; rfl) | rfl)
            · have h6 : ¬ (I 10 f rw.toNatClampNeg) = (-1) := h
              have he := he.trans (if_neg h6)
              have hp := hp.2 h6
              refine fm_zl (fun nn ZZ => fm_gr O 3 (C' := (110, [(0, .inr (.inr (.inr (.inr (18, 0))))), (1, .inr (.inr (.inr (.inr (6, f))))), (2, .inl rw), (3, .inl rg)], [.inl (rg + 1), .inr (.inr (.inr (.inr (20, 0))))], (I, J, G, fm_P pa (1, 0)))) rfl) ?_
              refine fm_zl (fun nn ZZ => fm_gg O rfl hp.1) ?_
              have hp := hp.2
              refine fm_zl (fun nn ZZ => fm_gr O 2 (C' := (113, [(0, .inr (.inr (.inr (.inr (18, 0))))), (1, .inr (.inr (.inr (.inr (6, f))))), (2, .inl rw), (3, .inl rg)], [.inl (lg_cmp (J 20 0 ((rg + 1).toNatClampNeg)) 0)], (I, J, G, fm_P pa (1, 0)))) rfl) ?_
              refine fm_zb O rfl (fun h => ?_) (fun h => ?_)
              · have h7 : (lg_cmp (J 20 0 ((rg + 1).toNatClampNeg)) 0) = 0 := h
                have he := he.trans (if_pos h7)
                exact fm_zR O rfl trivial (by first | (rw [he]; done) | (rw [he]; rfl) | rfl) (by first | (rw [he]; done) | (rw [he]; rfl) | rfl) (by first | (rw [he]; done) | (rw [he]; rfl) | rfl)
              · have h7 : ¬ (lg_cmp (J 20 0 ((rg + 1).toNatClampNeg)) 0) = 0 := h
                have he := he.trans (if_neg h7)
                have hp := hp.2 h7
                refine fm_zl (fun nn ZZ => fm_gr O 4 (C' := (120, [(0, .inr (.inr (.inr (.inr (18, 0))))), (1, .inr (.inr (.inr (.inr (6, f))))), (2, .inl rw), (3, .inl rg)], [.inl rg, .inl rw, .inr (.inr (.inr (.inr (6, f)))), .inr (.inr (.inr (.inr (18, 0))))], (I, J, G, fm_P pa (1, 0)))) rfl) ?_
                have K := fmM_jump_c (d := d + 5) hl (by omega) I J G pa f rw rg hp
                generalize er3 : fmM_jump_f I J G f rw rg = r3 at he
                have he := he.trans (fm_letE _ _)
                rw [er3] at K
                refine fm_zl (fun nn ZZ => fm_cV0 O fmM_jump_o (i := 0) (as := [.inr (.inr (.inr (.inr (6, f)))), .inl rw, .inl rg]) (rest := []) (v := none) rfl fk_5_148 rfl (by decide) fn_M_jump (Nat.le_of_ble_eq_true rfl) (K)) ?_
                refine fm_zl (fun nn ZZ => fm_gr O 1 (C' := (148, [(0, .inr (.inr (.inr (.inr (18, 0))))), (1, .inr (.inr (.inr (.inr (6, f))))), (2, .inl rw), (3, .inl rg)], [], (r3.1, r3.2.1, r3.2.2, fm_P pa (1, 0)))) rfl) ?_
                exact fm_zR O rfl trivial (by first | (rw [he]; done) | (rw [he]; rfl) | rfl) (by first | (rw [he]; done) | (rw [he]; rfl) | rfl) (by first | (rw [he]; done) | (rw [he]; rfl) | rfl)
          · have he := he.trans (if_neg h5)
            have hp := hp.2 h5
            by_cases h6 : (I 7 f rw.toNatClampNeg) = 28
            · have he := he.trans (if_pos h6)
              refine fm_zl (fun nn ZZ => fm_gs O 28 rfl (show (I 7 f rw.toNatClampNeg).toInt = 28 from by rw [h6]; decide)) ?_
              exact fm_zT (k := 3) O (by decide) fm_atMU rfl rfl rfl rfl (Nat.le_of_ble_eq_true rfl) (by rw [he]) (by first | (rw [he]; done) | (rw [he]; rfl) | rfl)
            · have he := he.trans (if_neg h6)
              have hp := hp.2 h6
              by_cases h7 : (I 7 f rw.toNatClampNeg) = 29
              · have he := he.trans (if_pos h7)
                have hp := hp.1 h7
                refine fm_zl (fun nn ZZ => fm_gs O 29 rfl (show (I 7 f rw.toNatClampNeg).toInt = 29 from by rw [h7]; decide)) ?_
                refine fm_zl (fun nn ZZ => fm_gr O 4 (C' := (132, [(0, .inr (.inr (.inr (.inr (18, 0))))), (1, .inr (.inr (.inr (.inr (6, f))))), (2, .inl rw), (3, .inl rg)], [.inl rw, .inr (.inr (.inr (.inr (8, f)))), .inr (.inr (.inr (.inr (18, 0))))], (I, J, G, fm_P pa (1, 0)))) rfl) ?_
                refine fm_zl (fun nn ZZ => fm_gg O rfl hp.1) ?_
                have hp := hp.2
                refine fm_zl (fun nn ZZ => fm_gr O 1 (C' := (134, [(0, .inr (.inr (.inr (.inr (18, 0))))), (1, .inr (.inr (.inr (.inr (6, f))))), (2, .inl rw), (3, .inl rg)], [.inl rg, .inl (I 8 f rw.toNatClampNeg), .inr (.inr (.inr (.inr (18, 0))))], (I, J, G, fm_P pa (1, 0)))) rfl) ?_
                have K := fmM_callFunction_c (d := d + 5) hl (by omega) I J G pa (I 8 f rw.toNatClampNeg) rg hp
                generalize er4 : fmM_callFunction_f I J G pa (I 8 f rw.toNatClampNeg) rg = r4 at he
                have he := he.trans (fm_letE _ _)
                rw [er4] at K
                refine fm_zV O fmM_callFunction_o (by decide) (i := 0) (as := [.inl (I 8 f rw.toNatClampNeg), .inl rg]) (rest := []) (v := none) rfl fk_5_154 rfl (by decide) fn_M_callFunction (Nat.le_of_ble_eq_true rfl) K ?_ ?_
                · intro h8
                  have he := he.trans (if_pos h8)
                  refine fm_zl (fun nn ZZ => fm_gr O 1 (C' := (148, [(0, .inr (.inr (.inr (.inr (18, 0))))), (1, .inr (.inr (.inr (.inr (6, f))))), (2, .inl rw), (3, .inl rg)], [], (r4.2.1, r4.2.2.1, r4.2.2.2, fm_P pa (1, 0)))) rfl) ?_
                  exact fm_zR O rfl trivial (by first | (rw [he]; done) | (rw [he]; rfl) | rfl) (by first | (rw [he]; done) | (rw [he]; rfl) | rfl) (by first | (rw [he]; done) | (rw [he]; rfl) | rfl)
                · intro h8
                  have he := he.trans (if_neg h8)
                  exact ⟨by rw [he], by first | (rw [he]; done) | (rw [he]; rfl) | rfl⟩
              · have he := he.trans (if_neg h7)
                have hz : (I 7 f rw.toNatClampNeg).toInt < 23 ∨ 29 < (I 7 f rw.toNatClampNeg).toInt := by
                  have := lv_neT h1 (show (23 : Int32).toInt = 23 from by decide)
                  have := lv_neT h2 (show (24 : Int32).toInt = 24 from by decide)
                  have := lv_neT h3 (show (25 : Int32).toInt = 25 from by decide)
                  have := lv_neT h4 (show (26 : Int32).toInt = 26 from by decide)
                  have := lv_neT h5 (show (27 : Int32).toInt = 27 from by decide)
                  have := lv_neT h6 (show (28 : Int32).toInt = 28 from by decide)
                  have := lv_neT h7 (show (29 : Int32).toInt = 29 from by decide)
                  omega
                refine fm_zl (fun nn ZZ => fm_gt O rfl hz) ?_
                exact fm_zT (k := 3) O (by decide) fm_atMU rfl rfl rfl rfl (Nat.le_of_ble_eq_true rfl) (by rw [he]) (by first | (rw [he]; done) | (rw [he]; rfl) | rfl)
def fmM_step_f (I : fm_MI) (J : fm_MJ) (G : fm_MG) (pa : Nat × Nat) : Nat × fm_MI × fm_MJ × fm_MG :=
  if 10 < (I 7 ((I 22 0 (((I 18 0 5) - 1).toNatClampNeg)).toNatClampNeg) ((I 23 0 (((I 18 0 5) - 1).toNatClampNeg)).toNatClampNeg)) then (if 20 < (I 7 ((I 22 0 (((I 18 0 5) - 1).toNatClampNeg)).toNatClampNeg) ((I 23 0 (((I 18 0 5) - 1).toNatClampNeg)).toNatClampNeg)) then (fm_let (fmM_goOnElsewhere_f (fm_u I 23 0 (((I 18 0 5) - 1).toNatClampNeg) ((I 23 0 (((I 18 0 5) - 1).toNatClampNeg)) + 1)) J G pa ((I 22 0 (((I 18 0 5) - 1).toNatClampNeg)).toNatClampNeg) (I 23 0 (((I 18 0 5) - 1).toNatClampNeg)) ((I 18 0 6) + (I 9 ((I 22 0 (((I 18 0 5) - 1).toNatClampNeg)).toNatClampNeg) ((I 23 0 (((I 18 0 5) - 1).toNatClampNeg)).toNatClampNeg)))) (fun (r1 : Nat × fm_MI × fm_MJ × fm_MG) => if r1.1 = 0 then ((0, r1.2.1, r1.2.2.1, r1.2.2.2)) else ((r1.1, r1.2.1, r1.2.2.1, r1.2.2.2)))) else (fm_let (fmM_compute_f J G (I 7 ((I 22 0 (((I 18 0 5) - 1).toNatClampNeg)).toNatClampNeg) ((I 23 0 (((I 18 0 5) - 1).toNatClampNeg)).toNatClampNeg)) (I 8 ((I 22 0 (((I 18 0 5) - 1).toNatClampNeg)).toNatClampNeg) ((I 23 0 (((I 18 0 5) - 1).toNatClampNeg)).toNatClampNeg)) ((I 18 0 6) + (I 9 ((I 22 0 (((I 18 0 5) - 1).toNatClampNeg)).toNatClampNeg) ((I 23 0 (((I 18 0 5) - 1).toNatClampNeg)).toNatClampNeg)))) (fun (r2 : Nat × fm_MJ × fm_MG) => if r2.1 = 0 then ((0, fm_u I 23 0 (((I 18 0 5) - 1).toNatClampNeg) ((I 23 0 (((I 18 0 5) - 1).toNatClampNeg)) + 1), r2.2.1, r2.2.2)) else ((r2.1, fm_u I 23 0 (((I 18 0 5) - 1).toNatClampNeg) ((I 23 0 (((I 18 0 5) - 1).toNatClampNeg)) + 1), r2.2.1, r2.2.2))))) else (fm_let (fmM_moveValues_f (fm_u I 23 0 (((I 18 0 5) - 1).toNatClampNeg) ((I 23 0 (((I 18 0 5) - 1).toNatClampNeg)) + 1)) J G (I 7 ((I 22 0 (((I 18 0 5) - 1).toNatClampNeg)).toNatClampNeg) ((I 23 0 (((I 18 0 5) - 1).toNatClampNeg)).toNatClampNeg)) (I 8 ((I 22 0 (((I 18 0 5) - 1).toNatClampNeg)).toNatClampNeg) ((I 23 0 (((I 18 0 5) - 1).toNatClampNeg)).toNatClampNeg)) ((I 18 0 6) + (I 9 ((I 22 0 (((I 18 0 5) - 1).toNatClampNeg)).toNatClampNeg) ((I 23 0 (((I 18 0 5) - 1).toNatClampNeg)).toNatClampNeg)))) (fun (r3 : fm_MJ × fm_MG) => (0, fm_u I 23 0 (((I 18 0 5) - 1).toNatClampNeg) ((I 23 0 (((I 18 0 5) - 1).toNatClampNeg)) + 1), r3.1, r3.2)))
theorem fmM_step_e (I : fm_MI) (J : fm_MJ) (G : fm_MG) (pa : Nat × Nat) : fmM_step_f I J G pa = if 10 < (I 7 ((I 22 0 (((I 18 0 5) - 1).toNatClampNeg)).toNatClampNeg) ((I 23 0 (((I 18 0 5) - 1).toNatClampNeg)).toNatClampNeg)) then (if 20 < (I 7 ((I 22 0 (((I 18 0 5) - 1).toNatClampNeg)).toNatClampNeg) ((I 23 0 (((I 18 0 5) - 1).toNatClampNeg)).toNatClampNeg)) then (fm_let (fmM_goOnElsewhere_f (fm_u I 23 0 (((I 18 0 5) - 1).toNatClampNeg) ((I 23 0 (((I 18 0 5) - 1).toNatClampNeg)) + 1)) J G pa ((I 22 0 (((I 18 0 5) - 1).toNatClampNeg)).toNatClampNeg) (I 23 0 (((I 18 0 5) - 1).toNatClampNeg)) ((I 18 0 6) + (I 9 ((I 22 0 (((I 18 0 5) - 1).toNatClampNeg)).toNatClampNeg) ((I 23 0 (((I 18 0 5) - 1).toNatClampNeg)).toNatClampNeg)))) (fun (r1 : Nat × fm_MI × fm_MJ × fm_MG) => if r1.1 = 0 then ((0, r1.2.1, r1.2.2.1, r1.2.2.2)) else ((r1.1, r1.2.1, r1.2.2.1, r1.2.2.2)))) else (fm_let (fmM_compute_f J G (I 7 ((I 22 0 (((I 18 0 5) - 1).toNatClampNeg)).toNatClampNeg) ((I 23 0 (((I 18 0 5) - 1).toNatClampNeg)).toNatClampNeg)) (I 8 ((I 22 0 (((I 18 0 5) - 1).toNatClampNeg)).toNatClampNeg) ((I 23 0 (((I 18 0 5) - 1).toNatClampNeg)).toNatClampNeg)) ((I 18 0 6) + (I 9 ((I 22 0 (((I 18 0 5) - 1).toNatClampNeg)).toNatClampNeg) ((I 23 0 (((I 18 0 5) - 1).toNatClampNeg)).toNatClampNeg)))) (fun (r2 : Nat × fm_MJ × fm_MG) => if r2.1 = 0 then ((0, fm_u I 23 0 (((I 18 0 5) - 1).toNatClampNeg) ((I 23 0 (((I 18 0 5) - 1).toNatClampNeg)) + 1), r2.2.1, r2.2.2)) else ((r2.1, fm_u I 23 0 (((I 18 0 5) - 1).toNatClampNeg) ((I 23 0 (((I 18 0 5) - 1).toNatClampNeg)) + 1), r2.2.1, r2.2.2))))) else (fm_let (fmM_moveValues_f (fm_u I 23 0 (((I 18 0 5) - 1).toNatClampNeg) ((I 23 0 (((I 18 0 5) - 1).toNatClampNeg)) + 1)) J G (I 7 ((I 22 0 (((I 18 0 5) - 1).toNatClampNeg)).toNatClampNeg) ((I 23 0 (((I 18 0 5) - 1).toNatClampNeg)).toNatClampNeg)) (I 8 ((I 22 0 (((I 18 0 5) - 1).toNatClampNeg)).toNatClampNeg) ((I 23 0 (((I 18 0 5) - 1).toNatClampNeg)).toNatClampNeg)) ((I 18 0 6) + (I 9 ((I 22 0 (((I 18 0 5) - 1).toNatClampNeg)).toNatClampNeg) ((I 23 0 (((I 18 0 5) - 1).toNatClampNeg)).toNatClampNeg)))) (fun (r3 : fm_MJ × fm_MG) => (0, fm_u I 23 0 (((I 18 0 5) - 1).toNatClampNeg) ((I 23 0 (((I 18 0 5) - 1).toNatClampNeg)) + 1), r3.1, r3.2))) := rfl
def fmM_step_p (I : fm_MI) (J : fm_MJ) (G : fm_MG) (pa : Nat × Nat) : Prop :=
  (vp_in ((I 18 0 5) - 1) 8) ∧ ((vp_in (I 22 0 (((I 18 0 5) - 1).toNatClampNeg)) 4) ∧ ((vp_in ((I 18 0 5) - 1) 8) ∧ ((vp_in ((I 18 0 5) - 1) 8) ∧ ((vp_in (I 23 0 (((I 18 0 5) - 1).toNatClampNeg)) 40) ∧ ((vp_in (I 23 0 (((I 18 0 5) - 1).toNatClampNeg)) 40) ∧ ((vp_in (I 23 0 (((I 18 0 5) - 1).toNatClampNeg)) 40) ∧ ((10 < (I 7 ((I 22 0 (((I 18 0 5) - 1).toNatClampNeg)).toNatClampNeg) ((I 23 0 (((I 18 0 5) - 1).toNatClampNeg)).toNatClampNeg)) → (20 < (I 7 ((I 22 0 (((I 18 0 5) - 1).toNatClampNeg)).toNatClampNeg) ((I 23 0 (((I 18 0 5) - 1).toNatClampNeg)).toNatClampNeg)) → fmM_goOnElsewhere_p (fm_u I 23 0 (((I 18 0 5) - 1).toNatClampNeg) ((I 23 0 (((I 18 0 5) - 1).toNatClampNeg)) + 1)) J G pa ((I 22 0 (((I 18 0 5) - 1).toNatClampNeg)).toNatClampNeg) (I 23 0 (((I 18 0 5) - 1).toNatClampNeg)) ((I 18 0 6) + (I 9 ((I 22 0 (((I 18 0 5) - 1).toNatClampNeg)).toNatClampNeg) ((I 23 0 (((I 18 0 5) - 1).toNatClampNeg)).toNatClampNeg)))) ∧ (¬ 20 < (I 7 ((I 22 0 (((I 18 0 5) - 1).toNatClampNeg)).toNatClampNeg) ((I 23 0 (((I 18 0 5) - 1).toNatClampNeg)).toNatClampNeg)) → fmM_compute_p J G (I 7 ((I 22 0 (((I 18 0 5) - 1).toNatClampNeg)).toNatClampNeg) ((I 23 0 (((I 18 0 5) - 1).toNatClampNeg)).toNatClampNeg)) (I 8 ((I 22 0 (((I 18 0 5) - 1).toNatClampNeg)).toNatClampNeg) ((I 23 0 (((I 18 0 5) - 1).toNatClampNeg)).toNatClampNeg)) ((I 18 0 6) + (I 9 ((I 22 0 (((I 18 0 5) - 1).toNatClampNeg)).toNatClampNeg) ((I 23 0 (((I 18 0 5) - 1).toNatClampNeg)).toNatClampNeg))))) ∧ (¬ 10 < (I 7 ((I 22 0 (((I 18 0 5) - 1).toNatClampNeg)).toNatClampNeg) ((I 23 0 (((I 18 0 5) - 1).toNatClampNeg)).toNatClampNeg)) → fmM_moveValues_p (fm_u I 23 0 (((I 18 0 5) - 1).toNatClampNeg) ((I 23 0 (((I 18 0 5) - 1).toNatClampNeg)) + 1)) J (I 7 ((I 22 0 (((I 18 0 5) - 1).toNatClampNeg)).toNatClampNeg) ((I 23 0 (((I 18 0 5) - 1).toNatClampNeg)).toNatClampNeg)) (I 8 ((I 22 0 (((I 18 0 5) - 1).toNatClampNeg)).toNatClampNeg) ((I 23 0 (((I 18 0 5) - 1).toNatClampNeg)).toNatClampNeg)) ((I 18 0 6) + (I 9 ((I 22 0 (((I 18 0 5) - 1).toNatClampNeg)).toNatClampNeg) ((I 23 0 (((I 18 0 5) - 1).toNatClampNeg)).toNatClampNeg)))))))))))
set_option maxRecDepth 100000 in
set_option maxHeartbeats 4000000 in
theorem fmM_step_c {E : fm_Ev} (hl : E.1.stackTraces = false) {d : Nat} (hd : 10 ≤ d) (I : fm_MI) (J : fm_MJ) (G : fm_MG) (pa : Nat × Nat) (hp : fmM_step_p I J G pa) : fm_Cz E d fmM_step [.inr (.inr (.inr (.inr (18, 0))))] (I, J, G, fm_P pa (1, 0)) ((fmM_step_f I J G pa).1) none ((fmM_step_f I J G pa).2.1, (fmM_step_f I J G pa).2.2.1, (fmM_step_f I J G pa).2.2.2, fm_P pa (1, 0)) := by
  obtain ⟨d, rfl⟩ : ∃ d', d = d' + 6 := ⟨d - 6, by omega⟩
  refine fm_zc fmM_step_o hl (Nat.le_of_ble_eq_true rfl) ?_
  have O := fmM_step_o.1
  unfold fmM_step_p at hp
  have he := fmM_step_e I J G pa
  refine fm_zl (fun nn ZZ => fm_gr O 8 (C' := (14, [(0, .inr (.inr (.inr (.inr (18, 0)))))], [.inl ((I 18 0 5) - 1), .inr (.inr (.inr (.inr (22, 0)))), .inr (.inr (.inr (.inr (1, 0))))], (I, J, G, fm_P pa (1, 0)))) rfl) ?_
  refine fm_zl (fun nn ZZ => fm_gg O rfl hp.1) ?_
  have hp := hp.2
  refine fm_zl (fun nn ZZ => fm_gg O rfl hp.1) ?_
  have hp := hp.2
  refine fm_zl (fun nn ZZ => fm_gr O 8 (C' := (30, [(1, .inr (.inr (.inr (.inr (6, (I 22 0 (((I 18 0 5) - 1).toNatClampNeg)).toNatClampNeg))))), (0, .inr (.inr (.inr (.inr (18, 0)))))], [.inl ((I 18 0 5) - 1), .inr (.inr (.inr (.inr (23, 0))))], (I, J, G, fm_P pa (1, 0)))) rfl) ?_
  refine fm_zl (fun nn ZZ => fm_gg O rfl hp.1) ?_
  have hp := hp.2
  refine fm_zl (fun nn ZZ => fm_gr O 10 (C' := (45, [(2, .inl (I 23 0 (((I 18 0 5) - 1).toNatClampNeg))), (1, .inr (.inr (.inr (.inr (6, (I 22 0 (((I 18 0 5) - 1).toNatClampNeg)).toNatClampNeg))))), (0, .inr (.inr (.inr (.inr (18, 0)))))], [.inl ((I 23 0 (((I 18 0 5) - 1).toNatClampNeg)) + 1), .inl ((I 18 0 5) - 1), .inr (.inr (.inr (.inr (23, 0))))], (I, J, G, fm_P pa (1, 0)))) rfl) ?_
  refine fm_zl (fun nn ZZ => fm_gg O rfl hp.1) ?_
  have hp := hp.2
  refine fm_zl (fun nn ZZ => fm_gr O 3 (C' := (51, [(2, .inl (I 23 0 (((I 18 0 5) - 1).toNatClampNeg))), (1, .inr (.inr (.inr (.inr (6, (I 22 0 (((I 18 0 5) - 1).toNatClampNeg)).toNatClampNeg))))), (0, .inr (.inr (.inr (.inr (18, 0)))))], [.inl (I 23 0 (((I 18 0 5) - 1).toNatClampNeg)), .inr (.inr (.inr (.inr (7, (I 22 0 (((I 18 0 5) - 1).toNatClampNeg)).toNatClampNeg))))], (fm_u I 23 0 (((I 18 0 5) - 1).toNatClampNeg) ((I 23 0 (((I 18 0 5) - 1).toNatClampNeg)) + 1), J, G, fm_P pa (1, 0)))) rfl) ?_
  refine fm_zl (fun nn ZZ => fm_gg O rfl hp.1) ?_
  have hp := hp.2
  refine fm_zl (fun nn ZZ => fm_gr O 4 (C' := (58, [(3, .inl (I 7 ((I 22 0 (((I 18 0 5) - 1).toNatClampNeg)).toNatClampNeg) ((I 23 0 (((I 18 0 5) - 1).toNatClampNeg)).toNatClampNeg))), (2, .inl (I 23 0 (((I 18 0 5) - 1).toNatClampNeg))), (1, .inr (.inr (.inr (.inr (6, (I 22 0 (((I 18 0 5) - 1).toNatClampNeg)).toNatClampNeg))))), (0, .inr (.inr (.inr (.inr (18, 0)))))], [.inl (I 23 0 (((I 18 0 5) - 1).toNatClampNeg)), .inr (.inr (.inr (.inr (8, (I 22 0 (((I 18 0 5) - 1).toNatClampNeg)).toNatClampNeg))))], (fm_u I 23 0 (((I 18 0 5) - 1).toNatClampNeg) ((I 23 0 (((I 18 0 5) - 1).toNatClampNeg)) + 1), J, G, fm_P pa (1, 0)))) rfl) ?_
  refine fm_zl (fun nn ZZ => fm_gg O rfl hp.1) ?_
  have hp := hp.2
  refine fm_zl (fun nn ZZ => fm_gr O 6 (C' := (70, [(4, .inl (I 8 ((I 22 0 (((I 18 0 5) - 1).toNatClampNeg)).toNatClampNeg) ((I 23 0 (((I 18 0 5) - 1).toNatClampNeg)).toNatClampNeg))), (3, .inl (I 7 ((I 22 0 (((I 18 0 5) - 1).toNatClampNeg)).toNatClampNeg) ((I 23 0 (((I 18 0 5) - 1).toNatClampNeg)).toNatClampNeg))), (2, .inl (I 23 0 (((I 18 0 5) - 1).toNatClampNeg))), (1, .inr (.inr (.inr (.inr (6, (I 22 0 (((I 18 0 5) - 1).toNatClampNeg)).toNatClampNeg))))), (0, .inr (.inr (.inr (.inr (18, 0)))))], [.inl (I 23 0 (((I 18 0 5) - 1).toNatClampNeg)), .inr (.inr (.inr (.inr (9, (I 22 0 (((I 18 0 5) - 1).toNatClampNeg)).toNatClampNeg)))), .inl (I 18 0 6)], (fm_u I 23 0 (((I 18 0 5) - 1).toNatClampNeg) ((I 23 0 (((I 18 0 5) - 1).toNatClampNeg)) + 1), J, G, fm_P pa (1, 0)))) rfl) ?_
  refine fm_zl (fun nn ZZ => fm_gg O rfl hp.1) ?_
  have hp := hp.2
  refine fm_zl (fun nn ZZ => fm_gr O 4 (C' := (77, [(5, .inl ((I 18 0 6) + (I 9 ((I 22 0 (((I 18 0 5) - 1).toNatClampNeg)).toNatClampNeg) ((I 23 0 (((I 18 0 5) - 1).toNatClampNeg)).toNatClampNeg)))), (4, .inl (I 8 ((I 22 0 (((I 18 0 5) - 1).toNatClampNeg)).toNatClampNeg) ((I 23 0 (((I 18 0 5) - 1).toNatClampNeg)).toNatClampNeg))), (3, .inl (I 7 ((I 22 0 (((I 18 0 5) - 1).toNatClampNeg)).toNatClampNeg) ((I 23 0 (((I 18 0 5) - 1).toNatClampNeg)).toNatClampNeg))), (2, .inl (I 23 0 (((I 18 0 5) - 1).toNatClampNeg))), (1, .inr (.inr (.inr (.inr (6, (I 22 0 (((I 18 0 5) - 1).toNatClampNeg)).toNatClampNeg))))), (0, .inr (.inr (.inr (.inr (18, 0)))))], [.inl 10, .inl (I 7 ((I 22 0 (((I 18 0 5) - 1).toNatClampNeg)).toNatClampNeg) ((I 23 0 (((I 18 0 5) - 1).toNatClampNeg)).toNatClampNeg))], (fm_u I 23 0 (((I 18 0 5) - 1).toNatClampNeg) ((I 23 0 (((I 18 0 5) - 1).toNatClampNeg)) + 1), J, G, fm_P pa (1, 0)))) rfl) ?_
  refine fm_zb O rfl (fun h => ?_) (fun h => ?_)
  · have h1 : 10 < (I 7 ((I 22 0 (((I 18 0 5) - 1).toNatClampNeg)).toNatClampNeg) ((I 23 0 (((I 18 0 5) - 1).toNatClampNeg)).toNatClampNeg)) := h
    have he := he.trans (if_pos h1)
    have hp := hp.1 h1
    refine fm_zl (fun nn ZZ => fm_gr O 2 (C' := (95, [(5, .inl ((I 18 0 6) + (I 9 ((I 22 0 (((I 18 0 5) - 1).toNatClampNeg)).toNatClampNeg) ((I 23 0 (((I 18 0 5) - 1).toNatClampNeg)).toNatClampNeg)))), (4, .inl (I 8 ((I 22 0 (((I 18 0 5) - 1).toNatClampNeg)).toNatClampNeg) ((I 23 0 (((I 18 0 5) - 1).toNatClampNeg)).toNatClampNeg))), (3, .inl (I 7 ((I 22 0 (((I 18 0 5) - 1).toNatClampNeg)).toNatClampNeg) ((I 23 0 (((I 18 0 5) - 1).toNatClampNeg)).toNatClampNeg))), (2, .inl (I 23 0 (((I 18 0 5) - 1).toNatClampNeg))), (1, .inr (.inr (.inr (.inr (6, (I 22 0 (((I 18 0 5) - 1).toNatClampNeg)).toNatClampNeg))))), (0, .inr (.inr (.inr (.inr (18, 0)))))], [.inl 20, .inl (I 7 ((I 22 0 (((I 18 0 5) - 1).toNatClampNeg)).toNatClampNeg) ((I 23 0 (((I 18 0 5) - 1).toNatClampNeg)).toNatClampNeg))], (fm_u I 23 0 (((I 18 0 5) - 1).toNatClampNeg) ((I 23 0 (((I 18 0 5) - 1).toNatClampNeg)) + 1), J, G, fm_P pa (1, 0)))) rfl) ?_
    refine fm_zb O rfl (fun h => ?_) (fun h => ?_)
    · have h2 : 20 < (I 7 ((I 22 0 (((I 18 0 5) - 1).toNatClampNeg)).toNatClampNeg) ((I 23 0 (((I 18 0 5) - 1).toNatClampNeg)).toNatClampNeg)) := h
      have he := he.trans (if_pos h2)
      have hp := hp.1 h2
      refine fm_zl (fun nn ZZ => fm_gr O 4 (C' := (115, [(5, .inl ((I 18 0 6) + (I 9 ((I 22 0 (((I 18 0 5) - 1).toNatClampNeg)).toNatClampNeg) ((I 23 0 (((I 18 0 5) - 1).toNatClampNeg)).toNatClampNeg)))), (4, .inl (I 8 ((I 22 0 (((I 18 0 5) - 1).toNatClampNeg)).toNatClampNeg) ((I 23 0 (((I 18 0 5) - 1).toNatClampNeg)).toNatClampNeg))), (3, .inl (I 7 ((I 22 0 (((I 18 0 5) - 1).toNatClampNeg)).toNatClampNeg) ((I 23 0 (((I 18 0 5) - 1).toNatClampNeg)).toNatClampNeg))), (2, .inl (I 23 0 (((I 18 0 5) - 1).toNatClampNeg))), (1, .inr (.inr (.inr (.inr (6, (I 22 0 (((I 18 0 5) - 1).toNatClampNeg)).toNatClampNeg))))), (0, .inr (.inr (.inr (.inr (18, 0)))))], [.inl ((I 18 0 6) + (I 9 ((I 22 0 (((I 18 0 5) - 1).toNatClampNeg)).toNatClampNeg) ((I 23 0 (((I 18 0 5) - 1).toNatClampNeg)).toNatClampNeg))), .inl (I 23 0 (((I 18 0 5) - 1).toNatClampNeg)), .inr (.inr (.inr (.inr (6, (I 22 0 (((I 18 0 5) - 1).toNatClampNeg)).toNatClampNeg)))), .inr (.inr (.inr (.inr (18, 0))))], (fm_u I 23 0 (((I 18 0 5) - 1).toNatClampNeg) ((I 23 0 (((I 18 0 5) - 1).toNatClampNeg)) + 1), J, G, fm_P pa (1, 0)))) rfl) ?_
      have K := fmM_goOnElsewhere_c (d := d + 5) hl (by omega) (fm_u I 23 0 (((I 18 0 5) - 1).toNatClampNeg) ((I 23 0 (((I 18 0 5) - 1).toNatClampNeg)) + 1)) J G pa ((I 22 0 (((I 18 0 5) - 1).toNatClampNeg)).toNatClampNeg) (I 23 0 (((I 18 0 5) - 1).toNatClampNeg)) ((I 18 0 6) + (I 9 ((I 22 0 (((I 18 0 5) - 1).toNatClampNeg)).toNatClampNeg) ((I 23 0 (((I 18 0 5) - 1).toNatClampNeg)).toNatClampNeg))) hp
      generalize er1 : fmM_goOnElsewhere_f (fm_u I 23 0 (((I 18 0 5) - 1).toNatClampNeg) ((I 23 0 (((I 18 0 5) - 1).toNatClampNeg)) + 1)) J G pa ((I 22 0 (((I 18 0 5) - 1).toNatClampNeg)).toNatClampNeg) (I 23 0 (((I 18 0 5) - 1).toNatClampNeg)) ((I 18 0 6) + (I 9 ((I 22 0 (((I 18 0 5) - 1).toNatClampNeg)).toNatClampNeg) ((I 23 0 (((I 18 0 5) - 1).toNatClampNeg)).toNatClampNeg))) = r1 at he
      have he := he.trans (fm_letE _ _)
      rw [er1] at K
      refine fm_zV O fmM_goOnElsewhere_o (by decide) (i := 0) (as := [.inr (.inr (.inr (.inr (6, (I 22 0 (((I 18 0 5) - 1).toNatClampNeg)).toNatClampNeg)))), .inl (I 23 0 (((I 18 0 5) - 1).toNatClampNeg)), .inl ((I 18 0 6) + (I 9 ((I 22 0 (((I 18 0 5) - 1).toNatClampNeg)).toNatClampNeg) ((I 23 0 (((I 18 0 5) - 1).toNatClampNeg)).toNatClampNeg)))]) (rest := []) (v := none) rfl fk_5_119 rfl (by decide) fn_M_goOnElsewhere (Nat.le_of_ble_eq_true rfl) K ?_ ?_
      · intro h3
        have he := he.trans (if_pos h3)
        exact fm_zR O rfl trivial (by first | (rw [he]; done) | (rw [he]; rfl) | rfl) (by first | (rw [he]; done) | (rw [he]; rfl) | rfl) (by first | (rw [he]; done) | (rw [he]; rfl) | rfl)
      · intro h3
        have he := he.trans (if_neg h3)
        exact ⟨by rw [he], by first | (rw [he]; done) | (rw [he]; rfl) | rfl⟩
    · have h2 : ¬ 20 < (I 7 ((I 22 0 (((I 18 0 5) - 1).toNatClampNeg)).toNatClampNeg) ((I 23 0 (((I 18 0 5) - 1).toNatClampNeg)).toNatClampNeg)) := h
      have he := he.trans (if_neg h2)
      have hp := hp.2 h2
      refine fm_zl (fun nn ZZ => fm_gr O 4 (C' := (104, [(5, .inl ((I 18 0 6) + (I 9 ((I 22 0 (((I 18 0 5) - 1).toNatClampNeg)).toNatClampNeg) ((I 23 0 (((I 18 0 5) - 1).toNatClampNeg)).toNatClampNeg)))), (4, .inl (I 8 ((I 22 0 (((I 18 0 5) - 1).toNatClampNeg)).toNatClampNeg) ((I 23 0 (((I 18 0 5) - 1).toNatClampNeg)).toNatClampNeg))), (3, .inl (I 7 ((I 22 0 (((I 18 0 5) - 1).toNatClampNeg)).toNatClampNeg) ((I 23 0 (((I 18 0 5) - 1).toNatClampNeg)).toNatClampNeg))), (2, .inl (I 23 0 (((I 18 0 5) - 1).toNatClampNeg))), (1, .inr (.inr (.inr (.inr (6, (I 22 0 (((I 18 0 5) - 1).toNatClampNeg)).toNatClampNeg))))), (0, .inr (.inr (.inr (.inr (18, 0)))))], [.inl ((I 18 0 6) + (I 9 ((I 22 0 (((I 18 0 5) - 1).toNatClampNeg)).toNatClampNeg) ((I 23 0 (((I 18 0 5) - 1).toNatClampNeg)).toNatClampNeg))), .inl (I 8 ((I 22 0 (((I 18 0 5) - 1).toNatClampNeg)).toNatClampNeg) ((I 23 0 (((I 18 0 5) - 1).toNatClampNeg)).toNatClampNeg)), .inl (I 7 ((I 22 0 (((I 18 0 5) - 1).toNatClampNeg)).toNatClampNeg) ((I 23 0 (((I 18 0 5) - 1).toNatClampNeg)).toNatClampNeg)), .inr (.inr (.inr (.inr (18, 0))))], (fm_u I 23 0 (((I 18 0 5) - 1).toNatClampNeg) ((I 23 0 (((I 18 0 5) - 1).toNatClampNeg)) + 1), J, G, fm_P pa (1, 0)))) rfl) ?_
      have K := fmM_compute_c (d := d + 5) hl (by omega) (fm_u I 23 0 (((I 18 0 5) - 1).toNatClampNeg) ((I 23 0 (((I 18 0 5) - 1).toNatClampNeg)) + 1)) J G pa (I 7 ((I 22 0 (((I 18 0 5) - 1).toNatClampNeg)).toNatClampNeg) ((I 23 0 (((I 18 0 5) - 1).toNatClampNeg)).toNatClampNeg)) (I 8 ((I 22 0 (((I 18 0 5) - 1).toNatClampNeg)).toNatClampNeg) ((I 23 0 (((I 18 0 5) - 1).toNatClampNeg)).toNatClampNeg)) ((I 18 0 6) + (I 9 ((I 22 0 (((I 18 0 5) - 1).toNatClampNeg)).toNatClampNeg) ((I 23 0 (((I 18 0 5) - 1).toNatClampNeg)).toNatClampNeg))) hp
      generalize er2 : fmM_compute_f J G (I 7 ((I 22 0 (((I 18 0 5) - 1).toNatClampNeg)).toNatClampNeg) ((I 23 0 (((I 18 0 5) - 1).toNatClampNeg)).toNatClampNeg)) (I 8 ((I 22 0 (((I 18 0 5) - 1).toNatClampNeg)).toNatClampNeg) ((I 23 0 (((I 18 0 5) - 1).toNatClampNeg)).toNatClampNeg)) ((I 18 0 6) + (I 9 ((I 22 0 (((I 18 0 5) - 1).toNatClampNeg)).toNatClampNeg) ((I 23 0 (((I 18 0 5) - 1).toNatClampNeg)).toNatClampNeg))) = r2 at he
      have he := he.trans (fm_letE _ _)
      rw [er2] at K
      refine fm_zV O fmM_compute_o (by decide) (i := 0) (as := [.inl (I 7 ((I 22 0 (((I 18 0 5) - 1).toNatClampNeg)).toNatClampNeg) ((I 23 0 (((I 18 0 5) - 1).toNatClampNeg)).toNatClampNeg)), .inl (I 8 ((I 22 0 (((I 18 0 5) - 1).toNatClampNeg)).toNatClampNeg) ((I 23 0 (((I 18 0 5) - 1).toNatClampNeg)).toNatClampNeg)), .inl ((I 18 0 6) + (I 9 ((I 22 0 (((I 18 0 5) - 1).toNatClampNeg)).toNatClampNeg) ((I 23 0 (((I 18 0 5) - 1).toNatClampNeg)).toNatClampNeg)))]) (rest := []) (v := none) rfl fk_5_116 rfl (by decide) fn_M_compute (Nat.le_of_ble_eq_true rfl) K ?_ ?_
      · intro h3
        have he := he.trans (if_pos h3)
        refine fm_zl (fun nn ZZ => fm_gr O 1 (C' := (118, [(5, .inl ((I 18 0 6) + (I 9 ((I 22 0 (((I 18 0 5) - 1).toNatClampNeg)).toNatClampNeg) ((I 23 0 (((I 18 0 5) - 1).toNatClampNeg)).toNatClampNeg)))), (4, .inl (I 8 ((I 22 0 (((I 18 0 5) - 1).toNatClampNeg)).toNatClampNeg) ((I 23 0 (((I 18 0 5) - 1).toNatClampNeg)).toNatClampNeg))), (3, .inl (I 7 ((I 22 0 (((I 18 0 5) - 1).toNatClampNeg)).toNatClampNeg) ((I 23 0 (((I 18 0 5) - 1).toNatClampNeg)).toNatClampNeg))), (2, .inl (I 23 0 (((I 18 0 5) - 1).toNatClampNeg))), (1, .inr (.inr (.inr (.inr (6, (I 22 0 (((I 18 0 5) - 1).toNatClampNeg)).toNatClampNeg))))), (0, .inr (.inr (.inr (.inr (18, 0)))))], [], (fm_u I 23 0 (((I 18 0 5) - 1).toNatClampNeg) ((I 23 0 (((I 18 0 5) - 1).toNatClampNeg)) + 1), r2.2.1, r2.2.2, fm_P pa (1, 0)))) rfl) ?_
        exact fm_zR O rfl trivial (by first | (rw [he]; done) | (rw [he]; rfl) | rfl) (by first | (rw [he]; done) | (rw [he]; rfl) | rfl) (by first | (rw [he]; done) | (rw [he]; rfl) | rfl)
      · intro h3
        have he := he.trans (if_neg h3)
        exact ⟨by rw [he], by first | (rw [he]; done) | (rw [he]; rfl) | rfl⟩
  · have h1 : ¬ 10 < (I 7 ((I 22 0 (((I 18 0 5) - 1).toNatClampNeg)).toNatClampNeg) ((I 23 0 (((I 18 0 5) - 1).toNatClampNeg)).toNatClampNeg)) := h
    have he := he.trans (if_neg h1)
    have hp := hp.2 h1
    refine fm_zl (fun nn ZZ => fm_gr O 4 (C' := (86, [(5, .inl ((I 18 0 6) + (I 9 ((I 22 0 (((I 18 0 5) - 1).toNatClampNeg)).toNatClampNeg) ((I 23 0 (((I 18 0 5) - 1).toNatClampNeg)).toNatClampNeg)))), (4, .inl (I 8 ((I 22 0 (((I 18 0 5) - 1).toNatClampNeg)).toNatClampNeg) ((I 23 0 (((I 18 0 5) - 1).toNatClampNeg)).toNatClampNeg))), (3, .inl (I 7 ((I 22 0 (((I 18 0 5) - 1).toNatClampNeg)).toNatClampNeg) ((I 23 0 (((I 18 0 5) - 1).toNatClampNeg)).toNatClampNeg))), (2, .inl (I 23 0 (((I 18 0 5) - 1).toNatClampNeg))), (1, .inr (.inr (.inr (.inr (6, (I 22 0 (((I 18 0 5) - 1).toNatClampNeg)).toNatClampNeg))))), (0, .inr (.inr (.inr (.inr (18, 0)))))], [.inl ((I 18 0 6) + (I 9 ((I 22 0 (((I 18 0 5) - 1).toNatClampNeg)).toNatClampNeg) ((I 23 0 (((I 18 0 5) - 1).toNatClampNeg)).toNatClampNeg))), .inl (I 8 ((I 22 0 (((I 18 0 5) - 1).toNatClampNeg)).toNatClampNeg) ((I 23 0 (((I 18 0 5) - 1).toNatClampNeg)).toNatClampNeg)), .inl (I 7 ((I 22 0 (((I 18 0 5) - 1).toNatClampNeg)).toNatClampNeg) ((I 23 0 (((I 18 0 5) - 1).toNatClampNeg)).toNatClampNeg)), .inr (.inr (.inr (.inr (18, 0))))], (fm_u I 23 0 (((I 18 0 5) - 1).toNatClampNeg) ((I 23 0 (((I 18 0 5) - 1).toNatClampNeg)) + 1), J, G, fm_P pa (1, 0)))) rfl) ?_
    have K := fmM_moveValues_c (d := d + 5) hl (by omega) (fm_u I 23 0 (((I 18 0 5) - 1).toNatClampNeg) ((I 23 0 (((I 18 0 5) - 1).toNatClampNeg)) + 1)) J G pa (I 7 ((I 22 0 (((I 18 0 5) - 1).toNatClampNeg)).toNatClampNeg) ((I 23 0 (((I 18 0 5) - 1).toNatClampNeg)).toNatClampNeg)) (I 8 ((I 22 0 (((I 18 0 5) - 1).toNatClampNeg)).toNatClampNeg) ((I 23 0 (((I 18 0 5) - 1).toNatClampNeg)).toNatClampNeg)) ((I 18 0 6) + (I 9 ((I 22 0 (((I 18 0 5) - 1).toNatClampNeg)).toNatClampNeg) ((I 23 0 (((I 18 0 5) - 1).toNatClampNeg)).toNatClampNeg))) hp
    generalize er3 : fmM_moveValues_f (fm_u I 23 0 (((I 18 0 5) - 1).toNatClampNeg) ((I 23 0 (((I 18 0 5) - 1).toNatClampNeg)) + 1)) J G (I 7 ((I 22 0 (((I 18 0 5) - 1).toNatClampNeg)).toNatClampNeg) ((I 23 0 (((I 18 0 5) - 1).toNatClampNeg)).toNatClampNeg)) (I 8 ((I 22 0 (((I 18 0 5) - 1).toNatClampNeg)).toNatClampNeg) ((I 23 0 (((I 18 0 5) - 1).toNatClampNeg)).toNatClampNeg)) ((I 18 0 6) + (I 9 ((I 22 0 (((I 18 0 5) - 1).toNatClampNeg)).toNatClampNeg) ((I 23 0 (((I 18 0 5) - 1).toNatClampNeg)).toNatClampNeg))) = r3 at he
    have he := he.trans (fm_letE _ _)
    rw [er3] at K
    refine fm_zl (fun nn ZZ => fm_cV0 O fmM_moveValues_o (i := 0) (as := [.inl (I 7 ((I 22 0 (((I 18 0 5) - 1).toNatClampNeg)).toNatClampNeg) ((I 23 0 (((I 18 0 5) - 1).toNatClampNeg)).toNatClampNeg)), .inl (I 8 ((I 22 0 (((I 18 0 5) - 1).toNatClampNeg)).toNatClampNeg) ((I 23 0 (((I 18 0 5) - 1).toNatClampNeg)).toNatClampNeg)), .inl ((I 18 0 6) + (I 9 ((I 22 0 (((I 18 0 5) - 1).toNatClampNeg)).toNatClampNeg) ((I 23 0 (((I 18 0 5) - 1).toNatClampNeg)).toNatClampNeg)))]) (rest := []) (v := none) rfl fk_5_112 rfl (by decide) fn_M_moveValues (Nat.le_of_ble_eq_true rfl) (K)) ?_
    refine fm_zl (fun nn ZZ => fm_gr O 1 (C' := (118, [(5, .inl ((I 18 0 6) + (I 9 ((I 22 0 (((I 18 0 5) - 1).toNatClampNeg)).toNatClampNeg) ((I 23 0 (((I 18 0 5) - 1).toNatClampNeg)).toNatClampNeg)))), (4, .inl (I 8 ((I 22 0 (((I 18 0 5) - 1).toNatClampNeg)).toNatClampNeg) ((I 23 0 (((I 18 0 5) - 1).toNatClampNeg)).toNatClampNeg))), (3, .inl (I 7 ((I 22 0 (((I 18 0 5) - 1).toNatClampNeg)).toNatClampNeg) ((I 23 0 (((I 18 0 5) - 1).toNatClampNeg)).toNatClampNeg))), (2, .inl (I 23 0 (((I 18 0 5) - 1).toNatClampNeg))), (1, .inr (.inr (.inr (.inr (6, (I 22 0 (((I 18 0 5) - 1).toNatClampNeg)).toNatClampNeg))))), (0, .inr (.inr (.inr (.inr (18, 0)))))], [], (fm_u I 23 0 (((I 18 0 5) - 1).toNatClampNeg) ((I 23 0 (((I 18 0 5) - 1).toNatClampNeg)) + 1), r3.1, r3.2, fm_P pa (1, 0)))) rfl) ?_
    exact fm_zR O rfl trivial (by first | (rw [he]; done) | (rw [he]; rfl) | rfl) (by first | (rw [he]; done) | (rw [he]; rfl) | rfl) (by first | (rw [he]; done) | (rw [he]; rfl) | rfl)
def fmM_work_L4_f : Nat → fm_MI → fm_MJ → fm_MG → (Nat × Nat) → Int32 → Nat × fm_MI × fm_MJ × fm_MG
  | 0, I, J, G, pa, y1 => (0, I, J, G)
  | n + 1, I, J, G, pa, y1 => if (I 18 0 5) ≤ 0 then ((0, I, J, G)) else (if y1 ≤ (I 18 0 0) then ((2, I, J, G)) else (fm_let (fmM_step_f (fm_u I 18 0 0 ((I 18 0 0) + 1)) J G pa) (fun (r2 : Nat × fm_MI × fm_MJ × fm_MG) => if r2.1 = 0 then (fm_let (fmM_leaveWhatHasEnded_f r2.2.1 r2.2.2.1 r2.2.2.2 pa) (fun (r3 : fm_MI × fm_MJ × fm_MG) => fmM_work_L4_f n r3.1 r3.2.1 r3.2.2 pa y1)) else ((r2.1, r2.2.1, r2.2.2.1, r2.2.2.2)))))
theorem fmM_work_L4_e (n : Nat) (I : fm_MI) (J : fm_MJ) (G : fm_MG) (pa : Nat × Nat) (y1 : Int32) : fmM_work_L4_f (n + 1) I J G pa y1 = if (I 18 0 5) ≤ 0 then ((0, I, J, G)) else (if y1 ≤ (I 18 0 0) then ((2, I, J, G)) else (fm_let (fmM_step_f (fm_u I 18 0 0 ((I 18 0 0) + 1)) J G pa) (fun (r2 : Nat × fm_MI × fm_MJ × fm_MG) => if r2.1 = 0 then (fm_let (fmM_leaveWhatHasEnded_f r2.2.1 r2.2.2.1 r2.2.2.2 pa) (fun (r3 : fm_MI × fm_MJ × fm_MG) => fmM_work_L4_f n r3.1 r3.2.1 r3.2.2 pa y1)) else ((r2.1, r2.2.1, r2.2.2.1, r2.2.2.2))))) := rfl
def fmM_work_L4_p : Nat → fm_MI → fm_MJ → fm_MG → (Nat × Nat) → Int32 → Prop
  | 0, I, J, G, pa, y1 => False
  | n + 1, I, J, G, pa, y1 => ((I 18 0 5) ≤ 0 → True) ∧ (¬ (I 18 0 5) ≤ 0 → (y1 ≤ (I 18 0 0) → True) ∧ (¬ y1 ≤ (I 18 0 0) → fmM_step_p (fm_u I 18 0 0 ((I 18 0 0) + 1)) J G pa ∧ (fm_let (fmM_step_f (fm_u I 18 0 0 ((I 18 0 0) + 1)) J G pa) (fun (r2 : Nat × fm_MI × fm_MJ × fm_MG) => (r2.1 = 0 → fmM_leaveWhatHasEnded_p r2.2.1 r2.2.2.1 r2.2.2.2 pa ∧ (fm_let (fmM_leaveWhatHasEnded_f r2.2.1 r2.2.2.1 r2.2.2.2 pa) (fun (r3 : fm_MI × fm_MJ × fm_MG) => fmM_work_L4_p n r3.1 r3.2.1 r3.2.2 pa y1)))))))
theorem fmM_work_L4_q (n : Nat) (I : fm_MI) (J : fm_MJ) (G : fm_MG) (pa : Nat × Nat) (y1 : Int32) : fmM_work_L4_p (n + 1) I J G pa y1 = (((I 18 0 5) ≤ 0 → True) ∧ (¬ (I 18 0 5) ≤ 0 → (y1 ≤ (I 18 0 0) → True) ∧ (¬ y1 ≤ (I 18 0 0) → fmM_step_p (fm_u I 18 0 0 ((I 18 0 0) + 1)) J G pa ∧ (fm_let (fmM_step_f (fm_u I 18 0 0 ((I 18 0 0) + 1)) J G pa) (fun (r2 : Nat × fm_MI × fm_MJ × fm_MG) => (r2.1 = 0 → fmM_leaveWhatHasEnded_p r2.2.1 r2.2.2.1 r2.2.2.2 pa ∧ (fm_let (fmM_leaveWhatHasEnded_f r2.2.1 r2.2.2.1 r2.2.2.2 pa) (fun (r3 : fm_MI × fm_MJ × fm_MG) => fmM_work_L4_p n r3.1 r3.2.1 r3.2.2 pa y1)))))))) := rfl
set_option maxRecDepth 100000 in
set_option maxHeartbeats 4000000 in
theorem fmM_work_L4_c {E : fm_Ev} (hl : E.1.stackTraces = false) {d : Nat} (hd : 11 ≤ d + 6) (n : Nat) : ∀ (I : fm_MI) (J : fm_MJ) (G : fm_MG) (pa : Nat × Nat) (y1 : Int32), fmM_work_L4_p n I J G pa y1 → fm_Gz E (d + 6) fmM_work (4, [(0, .inr (.inr (.inr (.inr (18, 0))))), (1, .inl y1)], [], (I, J, G, fm_P pa (1, 0))) ((fmM_work_L4_f n I J G pa y1).1) none ((fmM_work_L4_f n I J G pa y1).2.1, (fmM_work_L4_f n I J G pa y1).2.2.1, (fmM_work_L4_f n I J G pa y1).2.2.2, fm_P pa (1, 0)) := by
  have O := fmM_work_o.1
  induction n with
  | zero => intro I J G pa y1 hp; exact hp.elim
  | succ n ih =>
    intro I J G pa y1 hp
    rw [fmM_work_L4_q] at hp
    have he := fmM_work_L4_e n I J G pa y1
    refine fm_zl (fun nn ZZ => fm_gr O 2 (C' := (8, [(0, .inr (.inr (.inr (.inr (18, 0))))), (1, .inl y1)], [.inl (I 18 0 5)], (I, J, G, fm_P pa (1, 0)))) rfl) ?_
    refine fm_zb O rfl (fun h => ?_) (fun h => ?_)
    · have h1 : (I 18 0 5) ≤ 0 := h
      have he := he.trans (if_pos h1)
      refine fm_zl (fun nn ZZ => fm_gr O 2 (C' := (44, [(0, .inr (.inr (.inr (.inr (18, 0))))), (1, .inl y1)], [.inl (I 18 0 5)], (I, J, G, fm_P pa (1, 0)))) rfl) ?_
      refine fm_zb O rfl (fun h => ?_) (fun h => ?_)
      rotate_left
      · exact absurd h1 h
      · exact fm_zR O rfl trivial (by first | (rw [he]; done) | (rw [he]; rfl) | rfl) (by first | (rw [he]; done) | (rw [he]; rfl) | rfl) (by first | (rw [he]; done) | (rw [he]; rfl) | rfl)
    · have h1 : ¬ (I 18 0 5) ≤ 0 := h
      have he := he.trans (if_neg h1)
      have hp := hp.2 h1
      refine fm_zl (fun nn ZZ => fm_gr O 3 (C' := (16, [(0, .inr (.inr (.inr (.inr (18, 0))))), (1, .inl y1)], [.inl y1, .inl (I 18 0 0)], (I, J, G, fm_P pa (1, 0)))) rfl) ?_
      refine fm_zb O rfl (fun h => ?_) (fun h => ?_)
      · have h2 : y1 ≤ (I 18 0 0) := h
        have he := he.trans (if_pos h2)
        refine fm_zl (fun nn ZZ => fm_gr O 2 (C' := (44, [(0, .inr (.inr (.inr (.inr (18, 0))))), (1, .inl y1)], [.inl (I 18 0 5)], (I, J, G, fm_P pa (1, 0)))) rfl) ?_
        refine fm_zb O rfl (fun h => ?_) (fun h => ?_)
        · exact absurd h h1
        · exact fm_zT (k := 1) O (by decide) fm_atMS rfl rfl rfl rfl (Nat.le_of_ble_eq_true rfl) (by rw [he]) (by first | (rw [he]; done) | (rw [he]; rfl) | rfl)
      · have h2 : ¬ y1 ≤ (I 18 0 0) := h
        have he := he.trans (if_neg h2)
        have hp := hp.2 h2
        refine fm_zl (fun nn ZZ => fm_gr O 7 (C' := (30, [(0, .inr (.inr (.inr (.inr (18, 0))))), (1, .inl y1)], [.inr (.inr (.inr (.inr (18, 0))))], (fm_u I 18 0 0 ((I 18 0 0) + 1), J, G, fm_P pa (1, 0)))) rfl) ?_
        have hc := hp.1
        have hp := hp.2
        have K := fmM_step_c (d := d + 5) hl (by omega) (fm_u I 18 0 0 ((I 18 0 0) + 1)) J G pa hc
        generalize er2 : fmM_step_f (fm_u I 18 0 0 ((I 18 0 0) + 1)) J G pa = r2 at he hp
        have he := he.trans (fm_letE _ _)
        have hp := fm_letP hp
        rw [er2] at K
        refine fm_zV O fmM_step_o (by decide) (i := 0) (as := []) (rest := []) (v := none) rfl fk_5_61 rfl (by decide) fn_M_step (Nat.le_of_ble_eq_true rfl) K ?_ ?_
        · intro h3
          have he := he.trans (if_pos h3)
          have hp := hp h3
          refine fm_zl (fun nn ZZ => fm_gr O 1 (C' := (34, [(0, .inr (.inr (.inr (.inr (18, 0))))), (1, .inl y1)], [.inr (.inr (.inr (.inr (18, 0))))], (r2.2.1, r2.2.2.1, r2.2.2.2, fm_P pa (1, 0)))) rfl) ?_
          have hc := hp.1
          have hp := hp.2
          have K := fmM_leaveWhatHasEnded_c (d := d + 5) hl (by omega) r2.2.1 r2.2.2.1 r2.2.2.2 pa hc
          generalize er3 : fmM_leaveWhatHasEnded_f r2.2.1 r2.2.2.1 r2.2.2.2 pa = r3 at he hp
          have he := he.trans (fm_letE _ _)
          have hp := fm_letP hp
          rw [er3] at K
          refine fm_zl (fun nn ZZ => fm_cV0 O fmM_leaveWhatHasEnded_o (i := 0) (as := []) (rest := []) (v := none) rfl fk_5_58 rfl (by decide) fn_M_leaveWhatHasEnded (Nat.le_of_ble_eq_true rfl) (K)) ?_
          refine fm_zl (fun nn ZZ => fm_gr O 1 (C' := (4, [(0, .inr (.inr (.inr (.inr (18, 0))))), (1, .inl y1)], [], (r3.1, r3.2.1, r3.2.2, fm_P pa (1, 0)))) rfl) ?_
          refine fm_zl (fun nn ZZ => fm_gL O [0, 1] rfl) ?_
          rw [he]
          exact ih r3.1 r3.2.1 r3.2.2 pa y1 hp
        · intro h3
          have he := he.trans (if_neg h3)
          exact ⟨by rw [he], by first | (rw [he]; done) | (rw [he]; rfl) | rfl⟩
def fmM_work_f (I : fm_MI) (J : fm_MJ) (G : fm_MG) (pa : Nat × Nat) (fu : Int32) : Nat × fm_MI × fm_MJ × fm_MG :=
  fm_let (fmM_leaveWhatHasEnded_f I J G pa) (fun (r1 : fm_MI × fm_MJ × fm_MG) => fmM_work_L4_f 302 r1.1 r1.2.1 r1.2.2 pa fu)
theorem fmM_work_e (I : fm_MI) (J : fm_MJ) (G : fm_MG) (pa : Nat × Nat) (fu : Int32) : fmM_work_f I J G pa fu = fm_let (fmM_leaveWhatHasEnded_f I J G pa) (fun (r1 : fm_MI × fm_MJ × fm_MG) => fmM_work_L4_f 302 r1.1 r1.2.1 r1.2.2 pa fu) := rfl
def fmM_work_p (I : fm_MI) (J : fm_MJ) (G : fm_MG) (pa : Nat × Nat) (fu : Int32) : Prop :=
  fmM_leaveWhatHasEnded_p I J G pa ∧ (fm_let (fmM_leaveWhatHasEnded_f I J G pa) (fun (r1 : fm_MI × fm_MJ × fm_MG) => fmM_work_L4_p 302 r1.1 r1.2.1 r1.2.2 pa fu))
set_option maxRecDepth 100000 in
set_option maxHeartbeats 4000000 in
theorem fmM_work_c {E : fm_Ev} (hl : E.1.stackTraces = false) {d : Nat} (hd : 11 ≤ d) (I : fm_MI) (J : fm_MJ) (G : fm_MG) (pa : Nat × Nat) (fu : Int32) (hp : fmM_work_p I J G pa fu) : fm_Cz E d fmM_work [.inr (.inr (.inr (.inr (18, 0)))), .inl fu] (I, J, G, fm_P pa (1, 0)) ((fmM_work_f I J G pa fu).1) none ((fmM_work_f I J G pa fu).2.1, (fmM_work_f I J G pa fu).2.2.1, (fmM_work_f I J G pa fu).2.2.2, fm_P pa (1, 0)) := by
  obtain ⟨d, rfl⟩ : ∃ d', d = d' + 6 := ⟨d - 6, by omega⟩
  refine fm_zc fmM_work_o hl (Nat.le_of_ble_eq_true rfl) ?_
  have O := fmM_work_o.1
  unfold fmM_work_p at hp
  have he := fmM_work_e I J G pa fu
  refine fm_zl (fun nn ZZ => fm_gr O 1 (C' := (1, [(0, .inr (.inr (.inr (.inr (18, 0))))), (1, .inl fu)], [.inr (.inr (.inr (.inr (18, 0))))], (I, J, G, fm_P pa (1, 0)))) rfl) ?_
  have hc := hp.1
  have hp := hp.2
  have K := fmM_leaveWhatHasEnded_c (d := d + 5) hl (by omega) I J G pa hc
  generalize er1 : fmM_leaveWhatHasEnded_f I J G pa = r1 at he hp
  have he := he.trans (fm_letE _ _)
  have hp := fm_letP hp
  rw [er1] at K
  refine fm_zl (fun nn ZZ => fm_cV0 O fmM_leaveWhatHasEnded_o (i := 0) (as := []) (rest := []) (v := none) rfl fk_5_58 rfl (by decide) fn_M_leaveWhatHasEnded (Nat.le_of_ble_eq_true rfl) (K)) ?_
  refine fm_zl (fun nn ZZ => fm_gL O [0, 1] rfl) ?_
  rw [he]
  exact fmM_work_L4_c hl hd 302 r1.1 r1.2.1 r1.2.2 pa fu hp
def fmF_function_f (I : fm_MI) (J : fm_MJ) (G : fm_MG) (pa : Nat × Nat) (pb : Nat × Nat) (f : Int32) (n : Int32) (m : Int32) (tp : Int32) (rs : Int32) : Nat × fm_MI :=
  fm_let (fmF_isWithin_f f 3) (fun (r1 : Int32) => if r1 = 0 then ((1, I)) else (fm_let (fmF_isWithin_f n 3) (fun (r2 : Int32) => if r2 = 0 then ((1, I)) else (fm_let (fmF_isWithin_f m 3) (fun (r3 : Int32) => if r3 = 0 then ((1, I)) else (fm_let (fmF_isWithin_f rs 4) (fun (r4 : Int32) => if r4 = 0 then ((1, I)) else (fm_let (fmU_declare_f I J G pa pb f.toNatClampNeg n m tp rs) (fun (r5 : fm_MI) => (0, fm_u r5 0 0 3 0))))))))))
theorem fmF_function_e (I : fm_MI) (J : fm_MJ) (G : fm_MG) (pa : Nat × Nat) (pb : Nat × Nat) (f : Int32) (n : Int32) (m : Int32) (tp : Int32) (rs : Int32) : fmF_function_f I J G pa pb f n m tp rs = fm_let (fmF_isWithin_f f 3) (fun (r1 : Int32) => if r1 = 0 then ((1, I)) else (fm_let (fmF_isWithin_f n 3) (fun (r2 : Int32) => if r2 = 0 then ((1, I)) else (fm_let (fmF_isWithin_f m 3) (fun (r3 : Int32) => if r3 = 0 then ((1, I)) else (fm_let (fmF_isWithin_f rs 4) (fun (r4 : Int32) => if r4 = 0 then ((1, I)) else (fm_let (fmU_declare_f I J G pa pb f.toNatClampNeg n m tp rs) (fun (r5 : fm_MI) => (0, fm_u r5 0 0 3 0)))))))))) := rfl
def fmF_function_p (I : fm_MI) (J : fm_MJ) (G : fm_MG) (pa : Nat × Nat) (pb : Nat × Nat) (f : Int32) (n : Int32) (m : Int32) (tp : Int32) (rs : Int32) : Prop :=
  fm_let (fmF_isWithin_f f 3) (fun (r1 : Int32) => (r1 = 0 → True) ∧ (¬ r1 = 0 → fm_let (fmF_isWithin_f n 3) (fun (r2 : Int32) => (r2 = 0 → True) ∧ (¬ r2 = 0 → fm_let (fmF_isWithin_f m 3) (fun (r3 : Int32) => (r3 = 0 → True) ∧ (¬ r3 = 0 → fm_let (fmF_isWithin_f rs 4) (fun (r4 : Int32) => (r4 = 0 → True) ∧ (¬ r4 = 0 → (vp_in f 4) ∧ (fmU_declare_p I J G pa pb f.toNatClampNeg n m tp rs)))))))))
set_option maxRecDepth 100000 in
set_option maxHeartbeats 4000000 in
theorem fmF_function_c {E : fm_Ev} (hl : E.1.stackTraces = false) {d : Nat} (hd : 6 ≤ d) (I : fm_MI) (J : fm_MJ) (G : fm_MG) (pa : Nat × Nat) (pb : Nat × Nat) (f : Int32) (n : Int32) (m : Int32) (tp : Int32) (rs : Int32) (hp : fmF_function_p I J G pa pb f n m tp rs) : fm_Cz E d fmF_function [.inr (.inr (.inr (.inr (0, 0)))), .inl f, .inl n, .inl m, .inl tp, .inl rs] (I, J, G, fm_P pa pb) ((fmF_function_f I J G pa pb f n m tp rs).1) none ((fmF_function_f I J G pa pb f n m tp rs).2, J, G, fm_P pa pb) := by
  obtain ⟨d, rfl⟩ : ∃ d', d = d' + 6 := ⟨d - 6, by omega⟩
  refine fm_zc fmF_function_o hl (Nat.le_of_ble_eq_true rfl) ?_
  have O := fmF_function_o.1
  unfold fmF_function_p at hp
  have he := fmF_function_e I J G pa pb f n m tp rs
  refine fm_zl (fun nn ZZ => fm_gr O 2 (C' := (2, [(0, .inr (.inr (.inr (.inr (0, 0))))), (1, .inl f), (2, .inl n), (3, .inl m), (4, .inl tp), (5, .inl rs)], [.inl 3, .inl f], (I, J, G, fm_P pa pb))) rfl) ?_
  have K := fmF_isWithin_c (d := d + 5) hl (by omega) I J G pa pb f 3
  generalize er1 : fmF_isWithin_f f 3 = r1 at he hp
  have he := he.trans (fm_letE _ _)
  have hp := fm_letP hp
  rw [er1] at K
  refine fm_zl (fun nn ZZ => fm_cS0 O fmF_isWithin_o (as := [.inl f, .inl 3]) (rest := []) (v := some (.inl r1)) rfl fk_0_30 fn_F_isWithin (Nat.le_of_ble_eq_true rfl) (K)) ?_
  refine fm_zb O rfl (fun h => ?_) (fun h => ?_)
  · have h1 : r1 = 0 := h
    have he := he.trans (if_pos h1)
    exact fm_zT (k := 0) O (by decide) fm_atFI rfl rfl rfl rfl (Nat.le_of_ble_eq_true rfl) (by rw [he]) (by first | (rw [he]; done) | (rw [he]; rfl) | rfl)
  · have h1 : ¬ r1 = 0 := h
    have he := he.trans (if_neg h1)
    have hp := hp.2 h1
    refine fm_zl (fun nn ZZ => fm_gr O 2 (C' := (10, [(0, .inr (.inr (.inr (.inr (0, 0))))), (1, .inl f), (2, .inl n), (3, .inl m), (4, .inl tp), (5, .inl rs)], [.inl 3, .inl n], (I, J, G, fm_P pa pb))) rfl) ?_
    have K := fmF_isWithin_c (d := d + 5) hl (by omega) I J G pa pb n 3
    generalize er2 : fmF_isWithin_f n 3 = r2 at he hp
    have he := he.trans (fm_letE _ _)
    have hp := fm_letP hp
    rw [er2] at K
    refine fm_zl (fun nn ZZ => fm_cS0 O fmF_isWithin_o (as := [.inl n, .inl 3]) (rest := []) (v := some (.inl r2)) rfl fk_0_30 fn_F_isWithin (Nat.le_of_ble_eq_true rfl) (K)) ?_
    refine fm_zb O rfl (fun h => ?_) (fun h => ?_)
    · have h2 : r2 = 0 := h
      have he := he.trans (if_pos h2)
      exact fm_zT (k := 0) O (by decide) fm_atFI rfl rfl rfl rfl (Nat.le_of_ble_eq_true rfl) (by rw [he]) (by first | (rw [he]; done) | (rw [he]; rfl) | rfl)
    · have h2 : ¬ r2 = 0 := h
      have he := he.trans (if_neg h2)
      have hp := hp.2 h2
      refine fm_zl (fun nn ZZ => fm_gr O 2 (C' := (18, [(0, .inr (.inr (.inr (.inr (0, 0))))), (1, .inl f), (2, .inl n), (3, .inl m), (4, .inl tp), (5, .inl rs)], [.inl 3, .inl m], (I, J, G, fm_P pa pb))) rfl) ?_
      have K := fmF_isWithin_c (d := d + 5) hl (by omega) I J G pa pb m 3
      generalize er3 : fmF_isWithin_f m 3 = r3 at he hp
      have he := he.trans (fm_letE _ _)
      have hp := fm_letP hp
      rw [er3] at K
      refine fm_zl (fun nn ZZ => fm_cS0 O fmF_isWithin_o (as := [.inl m, .inl 3]) (rest := []) (v := some (.inl r3)) rfl fk_0_30 fn_F_isWithin (Nat.le_of_ble_eq_true rfl) (K)) ?_
      refine fm_zb O rfl (fun h => ?_) (fun h => ?_)
      · have h3 : r3 = 0 := h
        have he := he.trans (if_pos h3)
        exact fm_zT (k := 0) O (by decide) fm_atFI rfl rfl rfl rfl (Nat.le_of_ble_eq_true rfl) (by rw [he]) (by first | (rw [he]; done) | (rw [he]; rfl) | rfl)
      · have h3 : ¬ r3 = 0 := h
        have he := he.trans (if_neg h3)
        have hp := hp.2 h3
        refine fm_zl (fun nn ZZ => fm_gr O 2 (C' := (27, [(0, .inr (.inr (.inr (.inr (0, 0))))), (1, .inl f), (2, .inl n), (3, .inl m), (4, .inl tp), (5, .inl rs)], [.inl 4, .inl rs], (I, J, G, fm_P pa pb))) rfl) ?_
        have K := fmF_isWithin_c (d := d + 5) hl (by omega) I J G pa pb rs 4
        generalize er4 : fmF_isWithin_f rs 4 = r4 at he hp
        have he := he.trans (fm_letE _ _)
        have hp := fm_letP hp
        rw [er4] at K
        refine fm_zl (fun nn ZZ => fm_cS0 O fmF_isWithin_o (as := [.inl rs, .inl 4]) (rest := []) (v := some (.inl r4)) rfl fk_0_30 fn_F_isWithin (Nat.le_of_ble_eq_true rfl) (K)) ?_
        refine fm_zb O rfl (fun h => ?_) (fun h => ?_)
        · have h4 : r4 = 0 := h
          have he := he.trans (if_pos h4)
          exact fm_zT (k := 0) O (by decide) fm_atFI rfl rfl rfl rfl (Nat.le_of_ble_eq_true rfl) (by rw [he]) (by first | (rw [he]; done) | (rw [he]; rfl) | rfl)
        · have h4 : ¬ r4 = 0 := h
          have he := he.trans (if_neg h4)
          have hp := hp.2 h4
          refine fm_zl (fun nn ZZ => fm_gr O 3 (C' := (46, [(0, .inr (.inr (.inr (.inr (0, 0))))), (1, .inl f), (2, .inl n), (3, .inl m), (4, .inl tp), (5, .inl rs)], [.inl f, .inr (.inr (.inr (.inr (1, 0))))], (I, J, G, fm_P pa pb))) rfl) ?_
          refine fm_zl (fun nn ZZ => fm_gg O rfl hp.1) ?_
          have hp := hp.2
          refine fm_zl (fun nn ZZ => fm_gr O 4 (C' := (53, [(0, .inr (.inr (.inr (.inr (0, 0))))), (1, .inl f), (2, .inl n), (3, .inl m), (4, .inl tp), (5, .inl rs)], [.inl rs, .inl tp, .inl m, .inl n, .inr (.inr (.inr (.inr (2, f.toNatClampNeg))))], (I, J, G, fm_P pa pb))) rfl) ?_
          have K := fmU_declare_c (d := d + 5) hl (by omega) I J G pa pb f.toNatClampNeg n m tp rs hp
          generalize er5 : fmU_declare_f I J G pa pb f.toNatClampNeg n m tp rs = r5 at he
          have he := he.trans (fm_letE _ _)
          rw [er5] at K
          refine fm_zl (fun nn ZZ => fm_cV0 O fmU_declare_o (i := f.toNatClampNeg) (as := [.inl n, .inl m, .inl tp, .inl rs]) (rest := []) (v := none) rfl fk_0_37 rfl (by decide) fn_U_declare (Nat.le_of_ble_eq_true rfl) (K)) ?_
          refine fm_zl (fun nn ZZ => fm_gr O 2 (C' := (58, [(0, .inr (.inr (.inr (.inr (0, 0))))), (1, .inl f), (2, .inl n), (3, .inl m), (4, .inl tp), (5, .inl rs)], [.inl 0, .inr (.inr (.inr (.inr (0, 0))))], (r5, J, G, fm_P pa pb))) rfl) ?_
          refine fm_zl (fun nn ZZ => fm_gg O rfl (Or.inl rfl)) ?_
          exact fm_zR O rfl trivial (by first | (rw [he]; done) | (rw [he]; rfl) | rfl) (by first | (rw [he]; done) | (rw [he]; rfl) | rfl) (by first | (rw [he]; done) | (rw [he]; rfl) | rfl)
def fmF_emit_f (I : fm_MI) (f : Int32) (op : Int32) (aa : Int32) : Nat × Int32 × fm_MI :=
  fm_let (fmF_isThere_f I f) (fun (r1 : Int32) => if r1 = 0 then ((1, 0, I)) else (fm_let (fmF_isWithin_f op 30) (fun (r2 : Int32) => if r2 = 0 then ((1, 0, I)) else (if (I 2 f.toNatClampNeg 4) < 40 then (fm_let (fmU_append_f I f.toNatClampNeg op aa) (fun (r3 : fm_MI) => (0, r3 2 f.toNatClampNeg 4, fm_u r3 0 0 3 0))) else ((2, 0, I))))))
theorem fmF_emit_e (I : fm_MI) (f : Int32) (op : Int32) (aa : Int32) : fmF_emit_f I f op aa = fm_let (fmF_isThere_f I f) (fun (r1 : Int32) => if r1 = 0 then ((1, 0, I)) else (fm_let (fmF_isWithin_f op 30) (fun (r2 : Int32) => if r2 = 0 then ((1, 0, I)) else (if (I 2 f.toNatClampNeg 4) < 40 then (fm_let (fmU_append_f I f.toNatClampNeg op aa) (fun (r3 : fm_MI) => (0, r3 2 f.toNatClampNeg 4, fm_u r3 0 0 3 0))) else ((2, 0, I)))))) := rfl
def fmF_emit_p (I : fm_MI) (f : Int32) (op : Int32) (aa : Int32) : Prop :=
  fmF_isThere_p f ∧ (fm_let (fmF_isThere_f I f) (fun (r1 : Int32) => (r1 = 0 → True) ∧ (¬ r1 = 0 → fm_let (fmF_isWithin_f op 30) (fun (r2 : Int32) => (r2 = 0 → True) ∧ (¬ r2 = 0 → (vp_in f 4) ∧ (((I 2 f.toNatClampNeg 4) < 40 → (vp_in f 4) ∧ (fmU_append_p I f.toNatClampNeg ∧ (fm_let (fmU_append_f I f.toNatClampNeg op aa) (fun (r3 : fm_MI) => vp_in f 4)))) ∧ (¬ (I 2 f.toNatClampNeg 4) < 40 → True)))))))
set_option maxRecDepth 100000 in
set_option maxHeartbeats 4000000 in
theorem fmF_emit_c {E : fm_Ev} (hl : E.1.stackTraces = false) {d : Nat} (hd : 6 ≤ d) (I : fm_MI) (J : fm_MJ) (G : fm_MG) (pa : Nat × Nat) (pb : Nat × Nat) (f : Int32) (op : Int32) (aa : Int32) (hp : fmF_emit_p I f op aa) : fm_Cz E d fmF_emit [.inr (.inr (.inr (.inr (0, 0)))), .inl f, .inl op, .inl aa] (I, J, G, fm_P pa pb) ((fmF_emit_f I f op aa).1) (some (.inl ((fmF_emit_f I f op aa).2.1))) ((fmF_emit_f I f op aa).2.2, J, G, fm_P pa pb) := by
  obtain ⟨d, rfl⟩ : ∃ d', d = d' + 6 := ⟨d - 6, by omega⟩
  refine fm_zc fmF_emit_o hl (Nat.le_of_ble_eq_true rfl) ?_
  have O := fmF_emit_o.1
  unfold fmF_emit_p at hp
  have he := fmF_emit_e I f op aa
  refine fm_zl (fun nn ZZ => fm_gr O 2 (C' := (2, [(0, .inr (.inr (.inr (.inr (0, 0))))), (1, .inl f), (2, .inl op), (3, .inl aa)], [.inl f, .inr (.inr (.inr (.inr (0, 0))))], (I, J, G, fm_P pa pb))) rfl) ?_
  have hc := hp.1
  have hp := hp.2
  have K := fmF_isThere_c (d := d + 5) hl (by omega) I J G pa pb f hc
  generalize er1 : fmF_isThere_f I f = r1 at he hp
  have he := he.trans (fm_letE _ _)
  have hp := fm_letP hp
  rw [er1] at K
  refine fm_zl (fun nn ZZ => fm_cV0 O fmF_isThere_o (i := 0) (as := [.inl f]) (rest := []) (v := some (.inl r1)) rfl fk_0_45 rfl (by decide) fn_F_isThere (Nat.le_of_ble_eq_true rfl) (K)) ?_
  refine fm_zb O rfl (fun h => ?_) (fun h => ?_)
  · have h1 : r1 = 0 := h
    have he := he.trans (if_pos h1)
    exact fm_zT (k := 0) O (by decide) fm_atFI rfl rfl rfl rfl (Nat.le_of_ble_eq_true rfl) (by rw [he]) (by first | (rw [he]; done) | (rw [he]; rfl) | rfl)
  · have h1 : ¬ r1 = 0 := h
    have he := he.trans (if_neg h1)
    have hp := hp.2 h1
    refine fm_zl (fun nn ZZ => fm_gr O 2 (C' := (11, [(0, .inr (.inr (.inr (.inr (0, 0))))), (1, .inl f), (2, .inl op), (3, .inl aa)], [.inl 30, .inl op], (I, J, G, fm_P pa pb))) rfl) ?_
    have K := fmF_isWithin_c (d := d + 5) hl (by omega) I J G pa pb op 30
    generalize er2 : fmF_isWithin_f op 30 = r2 at he hp
    have he := he.trans (fm_letE _ _)
    have hp := fm_letP hp
    rw [er2] at K
    refine fm_zl (fun nn ZZ => fm_cS0 O fmF_isWithin_o (as := [.inl op, .inl 30]) (rest := []) (v := some (.inl r2)) rfl fk_0_30 fn_F_isWithin (Nat.le_of_ble_eq_true rfl) (K)) ?_
    refine fm_zb O rfl (fun h => ?_) (fun h => ?_)
    · have h2 : r2 = 0 := h
      have he := he.trans (if_pos h2)
      exact fm_zT (k := 0) O (by decide) fm_atFI rfl rfl rfl rfl (Nat.le_of_ble_eq_true rfl) (by rw [he]) (by first | (rw [he]; done) | (rw [he]; rfl) | rfl)
    · have h2 : ¬ r2 = 0 := h
      have he := he.trans (if_neg h2)
      have hp := hp.2 h2
      refine fm_zl (fun nn ZZ => fm_gr O 3 (C' := (30, [(0, .inr (.inr (.inr (.inr (0, 0))))), (1, .inl f), (2, .inl op), (3, .inl aa)], [.inl f, .inr (.inr (.inr (.inr (1, 0))))], (I, J, G, fm_P pa pb))) rfl) ?_
      refine fm_zl (fun nn ZZ => fm_gg O rfl hp.1) ?_
      have hp := hp.2
      refine fm_zl (fun nn ZZ => fm_gr O 2 (C' := (36, [(0, .inr (.inr (.inr (.inr (0, 0))))), (1, .inl f), (2, .inl op), (3, .inl aa)], [.inl 40, .inl (I 2 f.toNatClampNeg 4)], (I, J, G, fm_P pa pb))) rfl) ?_
      refine fm_zb O rfl (fun h => ?_) (fun h => ?_)
      · have h3 : (I 2 f.toNatClampNeg 4) < 40 := h
        have he := he.trans (if_pos h3)
        have hp := hp.1 h3
        refine fm_zl (fun nn ZZ => fm_gr O 3 (C' := (52, [(0, .inr (.inr (.inr (.inr (0, 0))))), (1, .inl f), (2, .inl op), (3, .inl aa)], [.inl f, .inr (.inr (.inr (.inr (1, 0))))], (I, J, G, fm_P pa pb))) rfl) ?_
        refine fm_zl (fun nn ZZ => fm_gg O rfl hp.1) ?_
        have hp := hp.2
        refine fm_zl (fun nn ZZ => fm_gr O 2 (C' := (55, [(0, .inr (.inr (.inr (.inr (0, 0))))), (1, .inl f), (2, .inl op), (3, .inl aa)], [.inl aa, .inl op, .inr (.inr (.inr (.inr (2, f.toNatClampNeg))))], (I, J, G, fm_P pa pb))) rfl) ?_
        have hc := hp.1
        have hp := hp.2
        have K := fmU_append_c (d := d + 5) hl (by omega) I J G pa pb f.toNatClampNeg op aa hc
        generalize er3 : fmU_append_f I f.toNatClampNeg op aa = r3 at he hp
        have he := he.trans (fm_letE _ _)
        have hp := fm_letP hp
        rw [er3] at K
        refine fm_zl (fun nn ZZ => fm_cV0 O fmU_append_o (i := f.toNatClampNeg) (as := [.inl op, .inl aa]) (rest := []) (v := none) rfl fk_0_56 rfl (by decide) fn_U_append (Nat.le_of_ble_eq_true rfl) (K)) ?_
        refine fm_zl (fun nn ZZ => fm_gr O 2 (C' := (60, [(0, .inr (.inr (.inr (.inr (0, 0))))), (1, .inl f), (2, .inl op), (3, .inl aa)], [.inl 0, .inr (.inr (.inr (.inr (0, 0))))], (r3, J, G, fm_P pa pb))) rfl) ?_
        refine fm_zl (fun nn ZZ => fm_gg O rfl (Or.inl rfl)) ?_
        refine fm_zl (fun nn ZZ => fm_gr O 3 (C' := (68, [(0, .inr (.inr (.inr (.inr (0, 0))))), (1, .inl f), (2, .inl op), (3, .inl aa)], [.inl f, .inr (.inr (.inr (.inr (1, 0))))], (fm_u r3 0 0 3 0, J, G, fm_P pa pb))) rfl) ?_
        refine fm_zl (fun nn ZZ => fm_gg O rfl hp) ?_
        refine fm_zl (fun nn ZZ => fm_gr O 1 (C' := (72, [(0, .inr (.inr (.inr (.inr (0, 0))))), (1, .inl f), (2, .inl op), (3, .inl aa)], [.inl (r3 2 f.toNatClampNeg 4)], (fm_u r3 0 0 3 0, J, G, fm_P pa pb))) rfl) ?_
        exact fm_zR O rfl trivial (by first | (rw [he]; done) | (rw [he]; rfl) | rfl) (by first | (rw [he]; done) | (rw [he]; rfl) | rfl) (by first | (rw [he]; done) | (rw [he]; rfl) | rfl)
      · have h3 : ¬ (I 2 f.toNatClampNeg 4) < 40 := h
        have he := he.trans (if_neg h3)
        exact fm_zT (k := 1) O (by decide) fm_atFS rfl rfl rfl rfl (Nat.le_of_ble_eq_true rfl) (by rw [he]) (by first | (rw [he]; done) | (rw [he]; rfl) | rfl)
def fmF_erase_f (I : fm_MI) (f : Int32) : Nat × fm_MI :=
  fm_let (fmF_isThere_f I f) (fun (r1 : Int32) => if r1 = 0 then ((1, I)) else ((0, fm_u (fm_u I 2 f.toNatClampNeg 4 0) 0 0 3 0)))
theorem fmF_erase_e (I : fm_MI) (f : Int32) : fmF_erase_f I f = fm_let (fmF_isThere_f I f) (fun (r1 : Int32) => if r1 = 0 then ((1, I)) else ((0, fm_u (fm_u I 2 f.toNatClampNeg 4 0) 0 0 3 0))) := rfl
def fmF_erase_p (I : fm_MI) (f : Int32) : Prop :=
  fmF_isThere_p f ∧ (fm_let (fmF_isThere_f I f) (fun (r1 : Int32) => (r1 = 0 → True) ∧ (¬ r1 = 0 → vp_in f 4)))
set_option maxRecDepth 100000 in
set_option maxHeartbeats 4000000 in
theorem fmF_erase_c {E : fm_Ev} (hl : E.1.stackTraces = false) {d : Nat} (hd : 6 ≤ d) (I : fm_MI) (J : fm_MJ) (G : fm_MG) (pa : Nat × Nat) (pb : Nat × Nat) (f : Int32) (hp : fmF_erase_p I f) : fm_Cz E d fmF_erase [.inr (.inr (.inr (.inr (0, 0)))), .inl f] (I, J, G, fm_P pa pb) ((fmF_erase_f I f).1) none ((fmF_erase_f I f).2, J, G, fm_P pa pb) := by
  obtain ⟨d, rfl⟩ : ∃ d', d = d' + 6 := ⟨d - 6, by omega⟩
  refine fm_zc fmF_erase_o hl (Nat.le_of_ble_eq_true rfl) ?_
  have O := fmF_erase_o.1
  unfold fmF_erase_p at hp
  have he := fmF_erase_e I f
  refine fm_zl (fun nn ZZ => fm_gr O 2 (C' := (2, [(0, .inr (.inr (.inr (.inr (0, 0))))), (1, .inl f)], [.inl f, .inr (.inr (.inr (.inr (0, 0))))], (I, J, G, fm_P pa pb))) rfl) ?_
  have hc := hp.1
  have hp := hp.2
  have K := fmF_isThere_c (d := d + 5) hl (by omega) I J G pa pb f hc
  generalize er1 : fmF_isThere_f I f = r1 at he hp
  have he := he.trans (fm_letE _ _)
  have hp := fm_letP hp
  rw [er1] at K
  refine fm_zl (fun nn ZZ => fm_cV0 O fmF_isThere_o (i := 0) (as := [.inl f]) (rest := []) (v := some (.inl r1)) rfl fk_0_45 rfl (by decide) fn_F_isThere (Nat.le_of_ble_eq_true rfl) (K)) ?_
  refine fm_zb O rfl (fun h => ?_) (fun h => ?_)
  · have h1 : r1 = 0 := h
    have he := he.trans (if_pos h1)
    exact fm_zT (k := 0) O (by decide) fm_atFI rfl rfl rfl rfl (Nat.le_of_ble_eq_true rfl) (by rw [he]) (by first | (rw [he]; done) | (rw [he]; rfl) | rfl)
  · have h1 : ¬ r1 = 0 := h
    have he := he.trans (if_neg h1)
    have hp := hp.2 h1
    refine fm_zl (fun nn ZZ => fm_gr O 3 (C' := (21, [(0, .inr (.inr (.inr (.inr (0, 0))))), (1, .inl f)], [.inl f, .inr (.inr (.inr (.inr (1, 0))))], (I, J, G, fm_P pa pb))) rfl) ?_
    refine fm_zl (fun nn ZZ => fm_gg O rfl hp) ?_
    refine fm_zl (fun nn ZZ => fm_gr O 4 (C' := (28, [(0, .inr (.inr (.inr (.inr (0, 0))))), (1, .inl f)], [.inl 0, .inr (.inr (.inr (.inr (0, 0))))], (fm_u I 2 f.toNatClampNeg 4 0, J, G, fm_P pa pb))) rfl) ?_
    refine fm_zl (fun nn ZZ => fm_gg O rfl (Or.inl rfl)) ?_
    exact fm_zR O rfl trivial (by first | (rw [he]; done) | (rw [he]; rfl) | rfl) (by first | (rw [he]; done) | (rw [he]; rfl) | rfl) (by first | (rw [he]; done) | (rw [he]; rfl) | rfl)
def fmF_global_f (J : fm_MJ) (G : fm_MG) (g : Int32) : Nat × UInt64 :=
  fm_let (fmF_isWithin_f g 3) (fun (r1 : Int32) => if r1 = 0 then ((1, FP.dconst0)) else (fm_let (fmM_valueOfGlobal_f J G g) (fun (r2 : UInt64) => (0, r2))))
theorem fmF_global_e (J : fm_MJ) (G : fm_MG) (g : Int32) : fmF_global_f J G g = fm_let (fmF_isWithin_f g 3) (fun (r1 : Int32) => if r1 = 0 then ((1, FP.dconst0)) else (fm_let (fmM_valueOfGlobal_f J G g) (fun (r2 : UInt64) => (0, r2)))) := rfl
def fmF_global_p (g : Int32) : Prop :=
  fm_let (fmF_isWithin_f g 3) (fun (r1 : Int32) => (r1 = 0 → True) ∧ (¬ r1 = 0 → fmM_valueOfGlobal_p g))
set_option maxRecDepth 100000 in
set_option maxHeartbeats 4000000 in
theorem fmF_global_c {E : fm_Ev} (hl : E.1.stackTraces = false) {d : Nat} (hd : 6 ≤ d) (I : fm_MI) (J : fm_MJ) (G : fm_MG) (pa : Nat × Nat) (pb : Nat × Nat) (g : Int32) (hp : fmF_global_p g) : fm_Cz E d fmF_global [.inr (.inr (.inr (.inr (0, 0)))), .inl g] (I, J, G, fm_P pa pb) ((fmF_global_f J G g).1) (some (.inr (.inr (.inr (.inl ((fmF_global_f J G g).2)))))) (I, J, G, fm_P pa pb) := by
  obtain ⟨d, rfl⟩ : ∃ d', d = d' + 6 := ⟨d - 6, by omega⟩
  refine fm_zc fmF_global_o hl (Nat.le_of_ble_eq_true rfl) ?_
  have O := fmF_global_o.1
  unfold fmF_global_p at hp
  have he := fmF_global_e J G g
  refine fm_zl (fun nn ZZ => fm_gr O 2 (C' := (2, [(0, .inr (.inr (.inr (.inr (0, 0))))), (1, .inl g)], [.inl 3, .inl g], (I, J, G, fm_P pa pb))) rfl) ?_
  have K := fmF_isWithin_c (d := d + 5) hl (by omega) I J G pa pb g 3
  generalize er1 : fmF_isWithin_f g 3 = r1 at he hp
  have he := he.trans (fm_letE _ _)
  have hp := fm_letP hp
  rw [er1] at K
  refine fm_zl (fun nn ZZ => fm_cS0 O fmF_isWithin_o (as := [.inl g, .inl 3]) (rest := []) (v := some (.inl r1)) rfl fk_0_30 fn_F_isWithin (Nat.le_of_ble_eq_true rfl) (K)) ?_
  refine fm_zb O rfl (fun h => ?_) (fun h => ?_)
  · have h1 : r1 = 0 := h
    have he := he.trans (if_pos h1)
    exact fm_zT (k := 0) O (by decide) fm_atFI rfl rfl rfl rfl (Nat.le_of_ble_eq_true rfl) (by rw [he]) (by first | (rw [he]; done) | (rw [he]; rfl) | rfl)
  · have h1 : ¬ r1 = 0 := h
    have he := he.trans (if_neg h1)
    have hp := hp.2 h1
    refine fm_zl (fun nn ZZ => fm_gr O 3 (C' := (21, [(0, .inr (.inr (.inr (.inr (0, 0))))), (1, .inl g)], [.inl g, .inr (.inr (.inr (.inr (18, 0))))], (I, J, G, fm_P pa pb))) rfl) ?_
    have K := fmM_valueOfGlobal_c (d := d + 5) hl (by omega) I J G pa pb g hp
    generalize er2 : fmM_valueOfGlobal_f J G g = r2 at he
    have he := he.trans (fm_letE _ _)
    rw [er2] at K
    refine fm_zl (fun nn ZZ => fm_cV0 O fmM_valueOfGlobal_o (i := 0) (as := [.inl g]) (rest := []) (v := some (.inr (.inr (.inr (.inl r2))))) rfl fk_0_83 rfl (by decide) fn_M_valueOfGlobal (Nat.le_of_ble_eq_true rfl) (K)) ?_
    exact fm_zR O rfl trivial (by first | (rw [he]; done) | (rw [he]; rfl) | rfl) (by first | (rw [he]; done) | (rw [he]; rfl) | rfl) (by first | (rw [he]; done) | (rw [he]; rfl) | rfl)
def fmF_run_f (I : fm_MI) (J : fm_MJ) (G : fm_MG) (pa : Nat × Nat) (pb : Nat × Nat) (f : Int32) (x : UInt64) (y : UInt64) (z : UInt64) (fu : Int32) : Nat × UInt64 × fm_MI × fm_MJ × fm_MG × (Nat × Nat) :=
  fm_let (fmF_isThere_f I f) (fun (r1 : Int32) => if r1 = 0 then ((1, FP.dconst0, I, J, G, pb)) else (if fu < 1 then ((1, FP.dconst0, I, J, G, pb)) else (if fu ≤ 300 then (if (I 0 0 3) = 0 then ((2, FP.dconst0, I, J, G, pb)) else (fm_let (fmM_begin_f I J G pa f) (fun (r2 : fm_MI × fm_MJ × fm_MG) => fm_let (fmM_pass_f r2.1 r2.2.1 r2.2.2 0 x) (fun (r3 : fm_MJ × fm_MG) => fm_let (fmM_pass_f r2.1 r3.1 r3.2 1 y) (fun (r4 : fm_MJ × fm_MG) => fm_let (fmM_pass_f r2.1 r4.1 r4.2 2 z) (fun (r5 : fm_MJ × fm_MG) => fm_let (fmM_work_f r2.1 r5.1 r5.2 pa fu) (fun (r6 : Nat × fm_MI × fm_MJ × fm_MG) => if r6.1 = 0 then (fm_let (fmM_result_f r6.2.1 r6.2.2.1 r6.2.2.2 f.toNatClampNeg) (fun (r7 : UInt64) => (0, r7, r6.2.1, r6.2.2.1, r6.2.2.2, (1, 0)))) else ((r6.1, FP.dconst0, r6.2.1, r6.2.2.1, r6.2.2.2, (1, 0)))))))))) else ((1, FP.dconst0, I, J, G, pb)))))
theorem fmF_run_e (I : fm_MI) (J : fm_MJ) (G : fm_MG) (pa : Nat × Nat) (pb : Nat × Nat) (f : Int32) (x : UInt64) (y : UInt64) (z : UInt64) (fu : Int32) : fmF_run_f I J G pa pb f x y z fu = fm_let (fmF_isThere_f I f) (fun (r1 : Int32) => if r1 = 0 then ((1, FP.dconst0, I, J, G, pb)) else (if fu < 1 then ((1, FP.dconst0, I, J, G, pb)) else (if fu ≤ 300 then (if (I 0 0 3) = 0 then ((2, FP.dconst0, I, J, G, pb)) else (fm_let (fmM_begin_f I J G pa f) (fun (r2 : fm_MI × fm_MJ × fm_MG) => fm_let (fmM_pass_f r2.1 r2.2.1 r2.2.2 0 x) (fun (r3 : fm_MJ × fm_MG) => fm_let (fmM_pass_f r2.1 r3.1 r3.2 1 y) (fun (r4 : fm_MJ × fm_MG) => fm_let (fmM_pass_f r2.1 r4.1 r4.2 2 z) (fun (r5 : fm_MJ × fm_MG) => fm_let (fmM_work_f r2.1 r5.1 r5.2 pa fu) (fun (r6 : Nat × fm_MI × fm_MJ × fm_MG) => if r6.1 = 0 then (fm_let (fmM_result_f r6.2.1 r6.2.2.1 r6.2.2.2 f.toNatClampNeg) (fun (r7 : UInt64) => (0, r7, r6.2.1, r6.2.2.1, r6.2.2.2, (1, 0)))) else ((r6.1, FP.dconst0, r6.2.1, r6.2.2.1, r6.2.2.2, (1, 0)))))))))) else ((1, FP.dconst0, I, J, G, pb))))) := rfl
def fmF_run_p (I : fm_MI) (J : fm_MJ) (G : fm_MG) (pa : Nat × Nat) (f : Int32) (x : UInt64) (y : UInt64) (z : UInt64) (fu : Int32) : Prop :=
  fmF_isThere_p f ∧ (fm_let (fmF_isThere_f I f) (fun (r1 : Int32) => (r1 = 0 → True) ∧ (¬ r1 = 0 → (fu < 1 → True) ∧ (¬ fu < 1 → (fu ≤ 300 → ((I 0 0 3) = 0 → True) ∧ (¬ (I 0 0 3) = 0 → fmM_begin_p I J G pa f ∧ (fm_let (fmM_begin_f I J G pa f) (fun (r2 : fm_MI × fm_MJ × fm_MG) => fmM_pass_p r2.1 0 x ∧ (fm_let (fmM_pass_f r2.1 r2.2.1 r2.2.2 0 x) (fun (r3 : fm_MJ × fm_MG) => fmM_pass_p r2.1 1 y ∧ (fm_let (fmM_pass_f r2.1 r3.1 r3.2 1 y) (fun (r4 : fm_MJ × fm_MG) => fmM_pass_p r2.1 2 z ∧ (fm_let (fmM_pass_f r2.1 r4.1 r4.2 2 z) (fun (r5 : fm_MJ × fm_MG) => fmM_work_p r2.1 r5.1 r5.2 pa fu ∧ (fm_let (fmM_work_f r2.1 r5.1 r5.2 pa fu) (fun (r6 : Nat × fm_MI × fm_MJ × fm_MG) => (r6.1 = 0 → (vp_in f 4) ∧ (fmM_result_p r6.2.1 f.toNatClampNeg)))))))))))))) ∧ (¬ fu ≤ 300 → True)))))
set_option maxRecDepth 100000 in
set_option maxHeartbeats 4000000 in
theorem fmF_run_c {E : fm_Ev} (hl : E.1.stackTraces = false) {d : Nat} (hd : 12 ≤ d) (I : fm_MI) (J : fm_MJ) (G : fm_MG) (pa : Nat × Nat) (pb : Nat × Nat) (f : Int32) (x : UInt64) (y : UInt64) (z : UInt64) (fu : Int32) (hp : fmF_run_p I J G pa f x y z fu) : fm_Cz E d fmF_run [.inr (.inr (.inr (.inr (0, 0)))), .inl f, .inr (.inr (.inr (.inl x))), .inr (.inr (.inr (.inl y))), .inr (.inr (.inr (.inl z))), .inl fu] (I, J, G, fm_P pa pb) ((fmF_run_f I J G pa pb f x y z fu).1) (some (.inr (.inr (.inr (.inl ((fmF_run_f I J G pa pb f x y z fu).2.1)))))) ((fmF_run_f I J G pa pb f x y z fu).2.2.1, (fmF_run_f I J G pa pb f x y z fu).2.2.2.1, (fmF_run_f I J G pa pb f x y z fu).2.2.2.2.1, fm_P pa ((fmF_run_f I J G pa pb f x y z fu).2.2.2.2.2)) := by
  obtain ⟨d, rfl⟩ : ∃ d', d = d' + 6 := ⟨d - 6, by omega⟩
  refine fm_zc fmF_run_o hl (Nat.le_of_ble_eq_true rfl) ?_
  have O := fmF_run_o.1
  unfold fmF_run_p at hp
  have he := fmF_run_e I J G pa pb f x y z fu
  refine fm_zl (fun nn ZZ => fm_gr O 2 (C' := (2, [(0, .inr (.inr (.inr (.inr (0, 0))))), (1, .inl f), (2, .inr (.inr (.inr (.inl x)))), (4, .inr (.inr (.inr (.inl y)))), (6, .inr (.inr (.inr (.inl z)))), (8, .inl fu)], [.inl f, .inr (.inr (.inr (.inr (0, 0))))], (I, J, G, fm_P pa pb))) rfl) ?_
  have hc := hp.1
  have hp := hp.2
  have K := fmF_isThere_c (d := d + 5) hl (by omega) I J G pa pb f hc
  generalize er1 : fmF_isThere_f I f = r1 at he hp
  have he := he.trans (fm_letE _ _)
  have hp := fm_letP hp
  rw [er1] at K
  refine fm_zl (fun nn ZZ => fm_cV0 O fmF_isThere_o (i := 0) (as := [.inl f]) (rest := []) (v := some (.inl r1)) rfl fk_0_45 rfl (by decide) fn_F_isThere (Nat.le_of_ble_eq_true rfl) (K)) ?_
  refine fm_zb O rfl (fun h => ?_) (fun h => ?_)
  · have h1 : r1 = 0 := h
    have he := he.trans (if_pos h1)
    exact fm_zT (k := 0) O (by decide) fm_atFI rfl rfl rfl rfl (Nat.le_of_ble_eq_true rfl) (by rw [he]) (by first | (rw [he]; done) | (rw [he]; rfl) | rfl)
  · have h1 : ¬ r1 = 0 := h
    have he := he.trans (if_neg h1)
    have hp := hp.2 h1
    refine fm_zl (fun nn ZZ => fm_gr O 2 (C' := (11, [(0, .inr (.inr (.inr (.inr (0, 0))))), (1, .inl f), (2, .inr (.inr (.inr (.inl x)))), (4, .inr (.inr (.inr (.inl y)))), (6, .inr (.inr (.inr (.inl z)))), (8, .inl fu)], [.inl 1, .inl fu], (I, J, G, fm_P pa pb))) rfl) ?_
    refine fm_zb O rfl (fun h => ?_) (fun h => ?_)
    · have h2 : fu < 1 := h
      have he := he.trans (if_pos h2)
      exact fm_zT (k := 0) O (by decide) fm_atFI rfl rfl rfl rfl (Nat.le_of_ble_eq_true rfl) (by rw [he]) (by first | (rw [he]; done) | (rw [he]; rfl) | rfl)
    · have h2 : ¬ fu < 1 := h
      have he := he.trans (if_neg h2)
      have hp := hp.2 h2
      refine fm_zl (fun nn ZZ => fm_gr O 2 (C' := (19, [(0, .inr (.inr (.inr (.inr (0, 0))))), (1, .inl f), (2, .inr (.inr (.inr (.inl x)))), (4, .inr (.inr (.inr (.inl y)))), (6, .inr (.inr (.inr (.inl z)))), (8, .inl fu)], [.inl 300, .inl fu], (I, J, G, fm_P pa pb))) rfl) ?_
      refine fm_zb O rfl (fun h => ?_) (fun h => ?_)
      · have h3 : fu ≤ 300 := h
        have he := he.trans (if_pos h3)
        have hp := hp.1 h3
        refine fm_zl (fun nn ZZ => fm_gr O 2 (C' := (34, [(0, .inr (.inr (.inr (.inr (0, 0))))), (1, .inl f), (2, .inr (.inr (.inr (.inl x)))), (4, .inr (.inr (.inr (.inl y)))), (6, .inr (.inr (.inr (.inl z)))), (8, .inl fu)], [.inl (I 0 0 3)], (I, J, G, fm_P pa pb))) rfl) ?_
        refine fm_zb O rfl (fun h => ?_) (fun h => ?_)
        · have h4 : (I 0 0 3) = 0 := h
          have he := he.trans (if_pos h4)
          exact fm_zT (k := 1) O (by decide) fm_atFS rfl rfl rfl rfl (Nat.le_of_ble_eq_true rfl) (by rw [he]) (by first | (rw [he]; done) | (rw [he]; rfl) | rfl)
        · have h4 : ¬ (I 0 0 3) = 0 := h
          have he := he.trans (if_neg h4)
          have hp := hp.2 h4
          refine fm_zl (fun nn ZZ => fm_gr O 5 (C' := (54, [(0, .inr (.inr (.inr (.inr (0, 0))))), (1, .inl f), (2, .inr (.inr (.inr (.inl x)))), (4, .inr (.inr (.inr (.inl y)))), (6, .inr (.inr (.inr (.inl z)))), (8, .inl fu)], [.inl f, .inr (.inr (.inr (.inr (1, 0)))), .inr (.inr (.inr (.inr (18, 0))))], (I, J, G, fm_P pa pb))) rfl) ?_
          have hc := hp.1
          have hp := hp.2
          have K := fmM_begin_c (d := d + 5) hl (by omega) I J G pa pb f hc
          generalize er2 : fmM_begin_f I J G pa f = r2 at he hp
          have he := he.trans (fm_letE _ _)
          have hp := fm_letP hp
          rw [er2] at K
          refine fm_zl (fun nn ZZ => fm_cV0 O fmM_begin_o (i := 0) (as := [.inr (.inr (.inr (.inr (1, 0)))), .inl f]) (rest := []) (v := none) rfl fk_0_67 rfl (by decide) fn_M_begin (Nat.le_of_ble_eq_true rfl) (K)) ?_
          refine fm_zl (fun nn ZZ => fm_gr O 4 (C' := (63, [(0, .inr (.inr (.inr (.inr (0, 0))))), (1, .inl f), (2, .inr (.inr (.inr (.inl x)))), (4, .inr (.inr (.inr (.inl y)))), (6, .inr (.inr (.inr (.inl z)))), (8, .inl fu)], [.inr (.inr (.inr (.inl x))), .inl 0, .inr (.inr (.inr (.inr (18, 0))))], (r2.1, r2.2.1, r2.2.2, fm_P pa (1, 0)))) rfl) ?_
          have hc := hp.1
          have hp := hp.2
          have K := fmM_pass_c (d := d + 5) hl (by omega) r2.1 r2.2.1 r2.2.2 pa 0 x hc
          generalize er3 : fmM_pass_f r2.1 r2.2.1 r2.2.2 0 x = r3 at he hp
          have he := he.trans (fm_letE _ _)
          have hp := fm_letP hp
          rw [er3] at K
          refine fm_zl (fun nn ZZ => fm_cV0 O fmM_pass_o (i := 0) (as := [.inl 0, .inr (.inr (.inr (.inl x)))]) (rest := []) (v := none) rfl fk_0_71 rfl (by decide) fn_M_pass (Nat.le_of_ble_eq_true rfl) (K)) ?_
          refine fm_zl (fun nn ZZ => fm_gr O 4 (C' := (73, [(0, .inr (.inr (.inr (.inr (0, 0))))), (1, .inl f), (2, .inr (.inr (.inr (.inl x)))), (4, .inr (.inr (.inr (.inl y)))), (6, .inr (.inr (.inr (.inl z)))), (8, .inl fu)], [.inr (.inr (.inr (.inl y))), .inl 1, .inr (.inr (.inr (.inr (18, 0))))], (r2.1, r3.1, r3.2, fm_P pa (1, 0)))) rfl) ?_
          have hc := hp.1
          have hp := hp.2
          have K := fmM_pass_c (d := d + 5) hl (by omega) r2.1 r3.1 r3.2 pa 1 y hc
          generalize er4 : fmM_pass_f r2.1 r3.1 r3.2 1 y = r4 at he hp
          have he := he.trans (fm_letE _ _)
          have hp := fm_letP hp
          rw [er4] at K
          refine fm_zl (fun nn ZZ => fm_cV0 O fmM_pass_o (i := 0) (as := [.inl 1, .inr (.inr (.inr (.inl y)))]) (rest := []) (v := none) rfl fk_0_71 rfl (by decide) fn_M_pass (Nat.le_of_ble_eq_true rfl) (K)) ?_
          refine fm_zl (fun nn ZZ => fm_gr O 4 (C' := (83, [(0, .inr (.inr (.inr (.inr (0, 0))))), (1, .inl f), (2, .inr (.inr (.inr (.inl x)))), (4, .inr (.inr (.inr (.inl y)))), (6, .inr (.inr (.inr (.inl z)))), (8, .inl fu)], [.inr (.inr (.inr (.inl z))), .inl 2, .inr (.inr (.inr (.inr (18, 0))))], (r2.1, r4.1, r4.2, fm_P pa (1, 0)))) rfl) ?_
          have hc := hp.1
          have hp := hp.2
          have K := fmM_pass_c (d := d + 5) hl (by omega) r2.1 r4.1 r4.2 pa 2 z hc
          generalize er5 : fmM_pass_f r2.1 r4.1 r4.2 2 z = r5 at he hp
          have he := he.trans (fm_letE _ _)
          have hp := fm_letP hp
          rw [er5] at K
          refine fm_zl (fun nn ZZ => fm_cV0 O fmM_pass_o (i := 0) (as := [.inl 2, .inr (.inr (.inr (.inl z)))]) (rest := []) (v := none) rfl fk_0_71 rfl (by decide) fn_M_pass (Nat.le_of_ble_eq_true rfl) (K)) ?_
          refine fm_zl (fun nn ZZ => fm_gr O 3 (C' := (92, [(0, .inr (.inr (.inr (.inr (0, 0))))), (1, .inl f), (2, .inr (.inr (.inr (.inl x)))), (4, .inr (.inr (.inr (.inl y)))), (6, .inr (.inr (.inr (.inl z)))), (8, .inl fu)], [.inl fu, .inr (.inr (.inr (.inr (18, 0))))], (r2.1, r5.1, r5.2, fm_P pa (1, 0)))) rfl) ?_
          have hc := hp.1
          have hp := hp.2
          have K := fmM_work_c (d := d + 5) hl (by omega) r2.1 r5.1 r5.2 pa fu hc
          generalize er6 : fmM_work_f r2.1 r5.1 r5.2 pa fu = r6 at he hp
          have he := he.trans (fm_letE _ _)
          have hp := fm_letP hp
          rw [er6] at K
          refine fm_zV O fmM_work_o (by decide) (i := 0) (as := [.inl fu]) (rest := []) (v := none) rfl fk_0_75 rfl (by decide) fn_M_work (Nat.le_of_ble_eq_true rfl) K ?_ ?_
          · intro h5
            have he := he.trans (if_pos h5)
            have hp := hp h5
            refine fm_zl (fun nn ZZ => fm_gr O 5 (C' := (104, [(0, .inr (.inr (.inr (.inr (0, 0))))), (1, .inl f), (2, .inr (.inr (.inr (.inl x)))), (4, .inr (.inr (.inr (.inl y)))), (6, .inr (.inr (.inr (.inl z)))), (8, .inl fu)], [.inl f, .inr (.inr (.inr (.inr (1, 0)))), .inr (.inr (.inr (.inr (18, 0))))], (r6.2.1, r6.2.2.1, r6.2.2.2, fm_P pa (1, 0)))) rfl) ?_
            refine fm_zl (fun nn ZZ => fm_gg O rfl hp.1) ?_
            have hp := hp.2
            have K := fmM_result_c (d := d + 5) hl (by omega) r6.2.1 r6.2.2.1 r6.2.2.2 pa f.toNatClampNeg hp
            generalize er7 : fmM_result_f r6.2.1 r6.2.2.1 r6.2.2.2 f.toNatClampNeg = r7 at he
            have he := he.trans (fm_letE _ _)
            rw [er7] at K
            refine fm_zl (fun nn ZZ => fm_cV0 O fmM_result_o (i := 0) (as := [.inr (.inr (.inr (.inr (2, f.toNatClampNeg))))]) (rest := []) (v := some (.inr (.inr (.inr (.inl r7))))) rfl fk_0_79 rfl (by decide) fn_M_result (Nat.le_of_ble_eq_true rfl) (K)) ?_
            exact fm_zR O rfl trivial (by first | (rw [he]; done) | (rw [he]; rfl) | rfl) (by first | (rw [he]; done) | (rw [he]; rfl) | rfl) (by first | (rw [he]; done) | (rw [he]; rfl) | rfl)
          · intro h5
            have he := he.trans (if_neg h5)
            exact ⟨by rw [he], by first | (rw [he]; done) | (rw [he]; rfl) | rfl⟩
      · have h3 : ¬ fu ≤ 300 := h
        have he := he.trans (if_neg h3)
        exact fm_zT (k := 0) O (by decide) fm_atFI rfl rfl rfl rfl (Nat.le_of_ble_eq_true rfl) (by rw [he]) (by first | (rw [he]; done) | (rw [he]; rfl) | rfl)
