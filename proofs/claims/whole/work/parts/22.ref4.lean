/-! THE REFERENCE, by program (wip/tools/walk.py, gen_c3.py) -/
def fmD_openFrame_f (I : fm_MI) (ati : Int32) : fm_MI :=
  fm_u (fm_u (fm_u I 45 0 ((I 24 0 30).toNatClampNeg) ati) 46 0 ((I 24 0 30).toNatClampNeg) (I 24 0 28)) 24 0 30 ((I 24 0 30) + 1)
theorem fmD_openFrame_e (I : fm_MI) (ati : Int32) : fmD_openFrame_f I ati = fm_u (fm_u (fm_u I 45 0 ((I 24 0 30).toNatClampNeg) ati) 46 0 ((I 24 0 30).toNatClampNeg) (I 24 0 28)) 24 0 30 ((I 24 0 30) + 1) := rfl
def fmD_openFrame_p (I : fm_MI) : Prop :=
  (vp_in (I 24 0 30) 90) ∧ (vp_in (I 24 0 30) 90)
set_option maxRecDepth 100000 in
set_option maxHeartbeats 4000000 in
theorem fmD_openFrame_c {E : fm_Ev} (hl : E.1.stackTraces = false) {d : Nat} (hd : 0 ≤ d) (I : fm_MI) (J : fm_MJ) (G : fm_MG) (pa : Nat × Nat) (pb : Nat × Nat) (ati : Int32) (hp : fmD_openFrame_p I) : fm_Ct E d fmD_openFrame 0 [.inr (.inr (.inr (.inr (24, 0)))), .inl ati] (I, J, G, fm_P pa pb) none (fmD_openFrame_f I ati, J, G, fm_P pa pb) := by
  refine fm_ct fmD_openFrame_o hl (Nat.le_of_ble_eq_true rfl) ?_
  have O := fmD_openFrame_o.1
  unfold fmD_openFrame_p at hp
  have he := fmD_openFrame_e I ati
  refine fm_gr O 5 (C' := (9, [(0, .inr (.inr (.inr (.inr (24, 0))))), (1, .inl ati)], [.inl ati, .inl (I 24 0 30), .inr (.inr (.inr (.inr (45, 0))))], (I, J, G, fm_P pa pb))) rfl ?_
  refine fm_gg O rfl hp.1 ?_
  have hp := hp.2
  refine fm_gr O 6 (C' := (22, [(0, .inr (.inr (.inr (.inr (24, 0))))), (1, .inl ati)], [.inl (I 24 0 28), .inl (I 24 0 30), .inr (.inr (.inr (.inr (46, 0))))], (fm_u I 45 0 ((I 24 0 30).toNatClampNeg) ati, J, G, fm_P pa pb))) rfl ?_
  refine fm_gg O rfl hp ?_
  refine fm_gr O 6 (C' := (33, [(0, .inr (.inr (.inr (.inr (24, 0))))), (1, .inl ati)], [], (fm_u (fm_u (fm_u I 45 0 ((I 24 0 30).toNatClampNeg) ati) 46 0 ((I 24 0 30).toNatClampNeg) (I 24 0 28)) 24 0 30 ((I 24 0 30) + 1), J, G, fm_P pa pb))) rfl ?_
  exact fm_gRe O rfl trivial (by first | (rw [he]; done) | (rw [he]; rfl) | rfl) (by first | (rw [he]; done) | (rw [he]; rfl) | rfl)
def fmD_keep_f (I : fm_MI) (J : fm_MJ) (G : fm_MG) (one : Int32) (hg : Int32) : fm_MI × fm_MJ × fm_MG :=
  if one = 0 then ((fm_u I 24 0 28 (hg + 0), J, G)) else ((fm_u I 24 0 28 (hg + 1), fm_u J 40 0 hg.toNatClampNeg (J 40 0 (((I 24 0 28) - 1).toNatClampNeg)), fm_u G 41 0 hg.toNatClampNeg (G 41 0 (((I 24 0 28) - 1).toNatClampNeg))))
theorem fmD_keep_e (I : fm_MI) (J : fm_MJ) (G : fm_MG) (one : Int32) (hg : Int32) : fmD_keep_f I J G one hg = if one = 0 then ((fm_u I 24 0 28 (hg + 0), J, G)) else ((fm_u I 24 0 28 (hg + 1), fm_u J 40 0 hg.toNatClampNeg (J 40 0 (((I 24 0 28) - 1).toNatClampNeg)), fm_u G 41 0 hg.toNatClampNeg (G 41 0 (((I 24 0 28) - 1).toNatClampNeg)))) := rfl
def fmD_keep_p (I : fm_MI) (one : Int32) (hg : Int32) : Prop :=
  (one = 0 → True) ∧ (¬ one = 0 → (vp_in ((I 24 0 28) - 1) 260) ∧ ((vp_in hg 260) ∧ ((vp_in ((I 24 0 28) - 1) 260) ∧ (vp_in hg 260))))
set_option maxRecDepth 100000 in
set_option maxHeartbeats 4000000 in
theorem fmD_keep_c {E : fm_Ev} (hl : E.1.stackTraces = false) {d : Nat} (hd : 0 ≤ d) (I : fm_MI) (J : fm_MJ) (G : fm_MG) (pa : Nat × Nat) (pb : Nat × Nat) (one : Int32) (hg : Int32) (hp : fmD_keep_p I one hg) : fm_Ct E d fmD_keep 0 [.inr (.inr (.inr (.inr (24, 0)))), .inl one, .inl hg] (I, J, G, fm_P pa pb) none ((fmD_keep_f I J G one hg).1, (fmD_keep_f I J G one hg).2.1, (fmD_keep_f I J G one hg).2.2, fm_P pa pb) := by
  refine fm_ct fmD_keep_o hl (Nat.le_of_ble_eq_true rfl) ?_
  have O := fmD_keep_o.1
  unfold fmD_keep_p at hp
  have he := fmD_keep_e I J G one hg
  refine fm_gr O 1 (C' := (1, [(0, .inr (.inr (.inr (.inr (24, 0))))), (1, .inl one), (2, .inl hg)], [.inl one], (I, J, G, fm_P pa pb))) rfl ?_
  refine fm_gb O rfl (fun h => ?_) (fun h => ?_)
  · have h1 : one = 0 := h
    have he := he.trans (if_pos h1)
    refine fm_gr O 3 (C' := (41, [(0, .inr (.inr (.inr (.inr (24, 0))))), (1, .inl one), (2, .inl hg)], [.inl one, .inl hg, .inr (.inr (.inr (.inr (24, 0))))], (I, J, G, fm_P pa pb))) rfl ?_
    refine fm_gb O rfl (fun h => ?_) (fun h => ?_)
    rotate_left
    · exact absurd h1 h
    · refine fm_gr O 3 (C' := (53, [(0, .inr (.inr (.inr (.inr (24, 0))))), (1, .inl one), (2, .inl hg)], [], (fm_u I 24 0 28 (hg + 0), J, G, fm_P pa pb))) rfl ?_
      exact fm_gRe O rfl trivial (by first | (rw [he]; done) | (rw [he]; rfl) | rfl) (by first | (rw [he]; done) | (rw [he]; rfl) | rfl)
  · have h1 : ¬ one = 0 := h
    have he := he.trans (if_neg h1)
    have hp := hp.2 h1
    refine fm_gr O 9 (C' := (19, [(0, .inr (.inr (.inr (.inr (24, 0))))), (1, .inl one), (2, .inl hg)], [.inl ((I 24 0 28) - 1), .inr (.inr (.inr (.inr (40, 0)))), .inl hg, .inr (.inr (.inr (.inr (40, 0))))], (I, J, G, fm_P pa pb))) rfl ?_
    refine fm_gg O rfl hp.1 ?_
    have hp := hp.2
    refine fm_gg O rfl hp.1 ?_
    have hp := hp.2
    refine fm_gr O 9 (C' := (36, [(0, .inr (.inr (.inr (.inr (24, 0))))), (1, .inl one), (2, .inl hg)], [.inl ((I 24 0 28) - 1), .inr (.inr (.inr (.inr (41, 0)))), .inl hg, .inr (.inr (.inr (.inr (41, 0))))], (I, fm_u J 40 0 hg.toNatClampNeg (J 40 0 (((I 24 0 28) - 1).toNatClampNeg)), G, fm_P pa pb))) rfl ?_
    refine fm_gg O rfl hp.1 ?_
    have hp := hp.2
    refine fm_gg O rfl hp ?_
    refine fm_gr O 3 (C' := (41, [(0, .inr (.inr (.inr (.inr (24, 0))))), (1, .inl one), (2, .inl hg)], [.inl one, .inl hg, .inr (.inr (.inr (.inr (24, 0))))], (I, fm_u J 40 0 hg.toNatClampNeg (J 40 0 (((I 24 0 28) - 1).toNatClampNeg)), fm_u G 41 0 hg.toNatClampNeg (G 41 0 (((I 24 0 28) - 1).toNatClampNeg)), fm_P pa pb))) rfl ?_
    refine fm_gb O rfl (fun h => ?_) (fun h => ?_)
    · exact absurd h h1
    · refine fm_gr O 4 (C' := (53, [(0, .inr (.inr (.inr (.inr (24, 0))))), (1, .inl one), (2, .inl hg)], [], (fm_u I 24 0 28 (hg + 1), fm_u J 40 0 hg.toNatClampNeg (J 40 0 (((I 24 0 28) - 1).toNatClampNeg)), fm_u G 41 0 hg.toNatClampNeg (G 41 0 (((I 24 0 28) - 1).toNatClampNeg)), fm_P pa pb))) rfl ?_
      exact fm_gRe O rfl trivial (by first | (rw [he]; done) | (rw [he]; rfl) | rfl) (by first | (rw [he]; done) | (rw [he]; rfl) | rfl)
def fmD_leave_f (I : fm_MI) (J : fm_MJ) (G : fm_MG) (f : Int32) : fm_MI × fm_MJ × fm_MG :=
  if (I 31 0 f.toNatClampNeg) = 4 then (fm_let (fmD_keep_f I J G 0 (I 44 0 (((I 24 0 29) - 1).toNatClampNeg))) (fun (r1 : fm_MI × fm_MJ × fm_MG) => (fm_u (fm_u r1.1 24 0 30 (r1.1 47 0 (((r1.1 24 0 29) - 1).toNatClampNeg))) 24 0 29 ((r1.1 24 0 29) - 1), r1.2.1, r1.2.2))) else (fm_let (fmD_keep_f I J G 1 (I 44 0 (((I 24 0 29) - 1).toNatClampNeg))) (fun (r2 : fm_MI × fm_MJ × fm_MG) => (fm_u (fm_u r2.1 24 0 30 (r2.1 47 0 (((r2.1 24 0 29) - 1).toNatClampNeg))) 24 0 29 ((r2.1 24 0 29) - 1), r2.2.1, r2.2.2)))
theorem fmD_leave_e (I : fm_MI) (J : fm_MJ) (G : fm_MG) (f : Int32) : fmD_leave_f I J G f = if (I 31 0 f.toNatClampNeg) = 4 then (fm_let (fmD_keep_f I J G 0 (I 44 0 (((I 24 0 29) - 1).toNatClampNeg))) (fun (r1 : fm_MI × fm_MJ × fm_MG) => (fm_u (fm_u r1.1 24 0 30 (r1.1 47 0 (((r1.1 24 0 29) - 1).toNatClampNeg))) 24 0 29 ((r1.1 24 0 29) - 1), r1.2.1, r1.2.2))) else (fm_let (fmD_keep_f I J G 1 (I 44 0 (((I 24 0 29) - 1).toNatClampNeg))) (fun (r2 : fm_MI × fm_MJ × fm_MG) => (fm_u (fm_u r2.1 24 0 30 (r2.1 47 0 (((r2.1 24 0 29) - 1).toNatClampNeg))) 24 0 29 ((r2.1 24 0 29) - 1), r2.2.1, r2.2.2))) := rfl
def fmD_leave_p (I : fm_MI) (J : fm_MJ) (G : fm_MG) (f : Int32) : Prop :=
  (vp_in f 4) ∧ (((I 31 0 f.toNatClampNeg) = 4 → (vp_in ((I 24 0 29) - 1) 10) ∧ (fmD_keep_p I 0 (I 44 0 (((I 24 0 29) - 1).toNatClampNeg)) ∧ (fm_let (fmD_keep_f I J G 0 (I 44 0 (((I 24 0 29) - 1).toNatClampNeg))) (fun (r1 : fm_MI × fm_MJ × fm_MG) => vp_in ((r1.1 24 0 29) - 1) 10)))) ∧ (¬ (I 31 0 f.toNatClampNeg) = 4 → (vp_in ((I 24 0 29) - 1) 10) ∧ (fmD_keep_p I 1 (I 44 0 (((I 24 0 29) - 1).toNatClampNeg)) ∧ (fm_let (fmD_keep_f I J G 1 (I 44 0 (((I 24 0 29) - 1).toNatClampNeg))) (fun (r2 : fm_MI × fm_MJ × fm_MG) => vp_in ((r2.1 24 0 29) - 1) 10)))))
set_option maxRecDepth 100000 in
set_option maxHeartbeats 4000000 in
theorem fmD_leave_c {E : fm_Ev} (hl : E.1.stackTraces = false) {d : Nat} (hd : 1 ≤ d) (I : fm_MI) (J : fm_MJ) (G : fm_MG) (pa : Nat × Nat) (pb : Nat × Nat) (f : Int32) (hp : fmD_leave_p I J G f) : fm_Ct E d fmD_leave 0 [.inr (.inr (.inr (.inr (24, 0)))), .inl f] (I, J, G, fm_P pa pb) none ((fmD_leave_f I J G f).1, (fmD_leave_f I J G f).2.1, (fmD_leave_f I J G f).2.2, fm_P pa pb) := by
  obtain ⟨d, rfl⟩ : ∃ d', d = d' + 1 := ⟨d - 1, by omega⟩
  refine fm_ct fmD_leave_o hl (Nat.le_of_ble_eq_true rfl) ?_
  have O := fmD_leave_o.1
  unfold fmD_leave_p at hp
  have he := fmD_leave_e I J G f
  refine fm_gr O 3 (C' := (5, [(0, .inr (.inr (.inr (.inr (24, 0))))), (1, .inl f)], [.inl f, .inr (.inr (.inr (.inr (31, 0))))], (I, J, G, fm_P pa pb))) rfl ?_
  refine fm_gg O rfl hp.1 ?_
  have hp := hp.2
  refine fm_gr O 1 (C' := (7, [(0, .inr (.inr (.inr (.inr (24, 0))))), (1, .inl f)], [.inl 4, .inl (I 31 0 f.toNatClampNeg)], (I, J, G, fm_P pa pb))) rfl ?_
  refine fm_gb O rfl (fun h => ?_) (fun h => ?_)
  · have h1 : (I 31 0 f.toNatClampNeg) = 4 := h
    have he := he.trans (if_pos h1)
    have hp := hp.1 h1
    refine fm_gr O 10 (C' := (28, [(2, .inl 0), (0, .inr (.inr (.inr (.inr (24, 0))))), (1, .inl f)], [.inl ((I 24 0 29) - 1), .inr (.inr (.inr (.inr (44, 0)))), .inl 0, .inr (.inr (.inr (.inr (24, 0))))], (I, J, G, fm_P pa pb))) rfl ?_
    refine fm_gg O rfl hp.1 ?_
    have hp := hp.2
    have hc := hp.1
    have hp := hp.2
    have K := fmD_keep_c (d := d) hl (by omega) I J G pa pb 0 (I 44 0 (((I 24 0 29) - 1).toNatClampNeg)) hc
    generalize er1 : fmD_keep_f I J G 0 (I 44 0 (((I 24 0 29) - 1).toNatClampNeg)) = r1 at he hp
    have he := he.trans (fm_letE _ _)
    have hp := fm_letP hp
    rw [er1] at K
    refine fm_cV0 O fmD_keep_o (i := 0) (as := [.inl 0, .inl (I 44 0 (((I 24 0 29) - 1).toNatClampNeg))]) (rest := []) (v := none) rfl fk_6_190 rfl (by decide) fn_D_keep (Nat.le_of_ble_eq_true rfl) (K) ?_
    refine fm_gr O 7 (C' := (43, [(2, .inl 0), (0, .inr (.inr (.inr (.inr (24, 0))))), (1, .inl f)], [.inl ((r1.1 24 0 29) - 1), .inr (.inr (.inr (.inr (47, 0)))), .inr (.inr (.inr (.inr (24, 0))))], (r1.1, r1.2.1, r1.2.2, fm_P pa pb))) rfl ?_
    refine fm_gg O rfl hp ?_
    refine fm_gr O 7 (C' := (57, [(2, .inl 0), (0, .inr (.inr (.inr (.inr (24, 0))))), (1, .inl f)], [], (fm_u (fm_u r1.1 24 0 30 (r1.1 47 0 (((r1.1 24 0 29) - 1).toNatClampNeg))) 24 0 29 ((r1.1 24 0 29) - 1), r1.2.1, r1.2.2, fm_P pa pb))) rfl ?_
    exact fm_gRe O rfl trivial (by first | (rw [he]; done) | (rw [he]; rfl) | rfl) (by first | (rw [he]; done) | (rw [he]; rfl) | rfl)
  · have h1 : ¬ (I 31 0 f.toNatClampNeg) = 4 := h
    have he := he.trans (if_neg h1)
    have hp := hp.2 h1
    refine fm_gr O 11 (C' := (28, [(2, .inl 1), (0, .inr (.inr (.inr (.inr (24, 0))))), (1, .inl f)], [.inl ((I 24 0 29) - 1), .inr (.inr (.inr (.inr (44, 0)))), .inl 1, .inr (.inr (.inr (.inr (24, 0))))], (I, J, G, fm_P pa pb))) rfl ?_
    refine fm_gg O rfl hp.1 ?_
    have hp := hp.2
    have hc := hp.1
    have hp := hp.2
    have K := fmD_keep_c (d := d) hl (by omega) I J G pa pb 1 (I 44 0 (((I 24 0 29) - 1).toNatClampNeg)) hc
    generalize er2 : fmD_keep_f I J G 1 (I 44 0 (((I 24 0 29) - 1).toNatClampNeg)) = r2 at he hp
    have he := he.trans (fm_letE _ _)
    have hp := fm_letP hp
    rw [er2] at K
    refine fm_cV0 O fmD_keep_o (i := 0) (as := [.inl 1, .inl (I 44 0 (((I 24 0 29) - 1).toNatClampNeg))]) (rest := []) (v := none) rfl fk_6_190 rfl (by decide) fn_D_keep (Nat.le_of_ble_eq_true rfl) (K) ?_
    refine fm_gr O 7 (C' := (43, [(2, .inl 1), (0, .inr (.inr (.inr (.inr (24, 0))))), (1, .inl f)], [.inl ((r2.1 24 0 29) - 1), .inr (.inr (.inr (.inr (47, 0)))), .inr (.inr (.inr (.inr (24, 0))))], (r2.1, r2.2.1, r2.2.2, fm_P pa pb))) rfl ?_
    refine fm_gg O rfl hp ?_
    refine fm_gr O 7 (C' := (57, [(2, .inl 1), (0, .inr (.inr (.inr (.inr (24, 0))))), (1, .inl f)], [], (fm_u (fm_u r2.1 24 0 30 (r2.1 47 0 (((r2.1 24 0 29) - 1).toNatClampNeg))) 24 0 29 ((r2.1 24 0 29) - 1), r2.2.1, r2.2.2, fm_P pa pb))) rfl ?_
    exact fm_gRe O rfl trivial (by first | (rw [he]; done) | (rw [he]; rfl) | rfl) (by first | (rw [he]; done) | (rw [he]; rfl) | rfl)
def fmD_jumpTo_f (I : fm_MI) (J : fm_MJ) (G : fm_MG) (pa : Nat × Nat) (pb : Nat × Nat) (f : Int32) (aa : Int32) : fm_MI × fm_MJ × fm_MG :=
  if aa = ((I 24 0 30) - (I 47 0 (((I 24 0 29) - 1).toNatClampNeg))) then ((fm_u I 43 0 (((I 24 0 29) - 1).toNatClampNeg) (I 27 0 f.toNatClampNeg), J, G)) else (if (I 25 0 (((f * 40) + (I 45 0 ((((I 24 0 30) - 1) - aa).toNatClampNeg))).toNatClampNeg)) = 22 then ((fm_u (fm_u (fm_u I 24 0 28 (I 46 0 ((((I 24 0 30) - 1) - aa).toNatClampNeg))) 24 0 30 ((((I 24 0 30) - 1) - aa) + 1)) 43 0 (((I 24 0 29) - 1).toNatClampNeg) ((I 45 0 ((((I 24 0 30) - 1) - aa).toNatClampNeg)) + 1), J, G)) else (if (I 26 0 (((f * 40) + (I 45 0 ((((I 24 0 30) - 1) - aa).toNatClampNeg))).toNatClampNeg)) = 4 then (fm_let (fmD_keep_f I J G 0 (I 46 0 ((((I 24 0 30) - 1) - aa).toNatClampNeg))) (fun (r1 : fm_MI × fm_MJ × fm_MG) => fm_let (fmD_endOf_f (fm_u r1.1 24 0 30 (((I 24 0 30) - 1) - aa)) r1.2.1 r1.2.2 pa pb f (I 45 0 ((((I 24 0 30) - 1) - aa).toNatClampNeg)) 0) (fun (r2 : Int32) => (fm_u (fm_u r1.1 24 0 30 (((I 24 0 30) - 1) - aa)) 43 0 (((I 24 0 29) - 1).toNatClampNeg) (r2 + 1), r1.2.1, r1.2.2)))) else (fm_let (fmD_keep_f I J G 1 (I 46 0 ((((I 24 0 30) - 1) - aa).toNatClampNeg))) (fun (r3 : fm_MI × fm_MJ × fm_MG) => fm_let (fmD_endOf_f (fm_u r3.1 24 0 30 (((I 24 0 30) - 1) - aa)) r3.2.1 r3.2.2 pa pb f (I 45 0 ((((I 24 0 30) - 1) - aa).toNatClampNeg)) 0) (fun (r4 : Int32) => (fm_u (fm_u r3.1 24 0 30 (((I 24 0 30) - 1) - aa)) 43 0 (((I 24 0 29) - 1).toNatClampNeg) (r4 + 1), r3.2.1, r3.2.2))))))
theorem fmD_jumpTo_e (I : fm_MI) (J : fm_MJ) (G : fm_MG) (pa : Nat × Nat) (pb : Nat × Nat) (f : Int32) (aa : Int32) : fmD_jumpTo_f I J G pa pb f aa = if aa = ((I 24 0 30) - (I 47 0 (((I 24 0 29) - 1).toNatClampNeg))) then ((fm_u I 43 0 (((I 24 0 29) - 1).toNatClampNeg) (I 27 0 f.toNatClampNeg), J, G)) else (if (I 25 0 (((f * 40) + (I 45 0 ((((I 24 0 30) - 1) - aa).toNatClampNeg))).toNatClampNeg)) = 22 then ((fm_u (fm_u (fm_u I 24 0 28 (I 46 0 ((((I 24 0 30) - 1) - aa).toNatClampNeg))) 24 0 30 ((((I 24 0 30) - 1) - aa) + 1)) 43 0 (((I 24 0 29) - 1).toNatClampNeg) ((I 45 0 ((((I 24 0 30) - 1) - aa).toNatClampNeg)) + 1), J, G)) else (if (I 26 0 (((f * 40) + (I 45 0 ((((I 24 0 30) - 1) - aa).toNatClampNeg))).toNatClampNeg)) = 4 then (fm_let (fmD_keep_f I J G 0 (I 46 0 ((((I 24 0 30) - 1) - aa).toNatClampNeg))) (fun (r1 : fm_MI × fm_MJ × fm_MG) => fm_let (fmD_endOf_f (fm_u r1.1 24 0 30 (((I 24 0 30) - 1) - aa)) r1.2.1 r1.2.2 pa pb f (I 45 0 ((((I 24 0 30) - 1) - aa).toNatClampNeg)) 0) (fun (r2 : Int32) => (fm_u (fm_u r1.1 24 0 30 (((I 24 0 30) - 1) - aa)) 43 0 (((I 24 0 29) - 1).toNatClampNeg) (r2 + 1), r1.2.1, r1.2.2)))) else (fm_let (fmD_keep_f I J G 1 (I 46 0 ((((I 24 0 30) - 1) - aa).toNatClampNeg))) (fun (r3 : fm_MI × fm_MJ × fm_MG) => fm_let (fmD_endOf_f (fm_u r3.1 24 0 30 (((I 24 0 30) - 1) - aa)) r3.2.1 r3.2.2 pa pb f (I 45 0 ((((I 24 0 30) - 1) - aa).toNatClampNeg)) 0) (fun (r4 : Int32) => (fm_u (fm_u r3.1 24 0 30 (((I 24 0 30) - 1) - aa)) 43 0 (((I 24 0 29) - 1).toNatClampNeg) (r4 + 1), r3.2.1, r3.2.2)))))) := rfl
def fmD_jumpTo_p (I : fm_MI) (J : fm_MJ) (G : fm_MG) (pa : Nat × Nat) (pb : Nat × Nat) (f : Int32) (aa : Int32) : Prop :=
  (vp_in ((I 24 0 29) - 1) 10) ∧ ((aa = ((I 24 0 30) - (I 47 0 (((I 24 0 29) - 1).toNatClampNeg))) → (vp_in f 4) ∧ (vp_in ((I 24 0 29) - 1) 10)) ∧ (¬ aa = ((I 24 0 30) - (I 47 0 (((I 24 0 29) - 1).toNatClampNeg))) → (vp_in (((I 24 0 30) - 1) - aa) 90) ∧ ((vp_in ((f * 40) + (I 45 0 ((((I 24 0 30) - 1) - aa).toNatClampNeg))) 160) ∧ (((I 25 0 (((f * 40) + (I 45 0 ((((I 24 0 30) - 1) - aa).toNatClampNeg))).toNatClampNeg)) = 22 → (vp_in (((I 24 0 30) - 1) - aa) 90) ∧ (vp_in ((I 24 0 29) - 1) 10)) ∧ (¬ (I 25 0 (((f * 40) + (I 45 0 ((((I 24 0 30) - 1) - aa).toNatClampNeg))).toNatClampNeg)) = 22 → (vp_in ((f * 40) + (I 45 0 ((((I 24 0 30) - 1) - aa).toNatClampNeg))) 160) ∧ (((I 26 0 (((f * 40) + (I 45 0 ((((I 24 0 30) - 1) - aa).toNatClampNeg))).toNatClampNeg)) = 4 → (vp_in (((I 24 0 30) - 1) - aa) 90) ∧ (fmD_keep_p I 0 (I 46 0 ((((I 24 0 30) - 1) - aa).toNatClampNeg)) ∧ (fm_let (fmD_keep_f I J G 0 (I 46 0 ((((I 24 0 30) - 1) - aa).toNatClampNeg))) (fun (r1 : fm_MI × fm_MJ × fm_MG) => fmD_endOf_p (fm_u r1.1 24 0 30 (((I 24 0 30) - 1) - aa)) r1.2.1 r1.2.2 pa pb f (I 45 0 ((((I 24 0 30) - 1) - aa).toNatClampNeg)) 0 ∧ (fm_let (fmD_endOf_f (fm_u r1.1 24 0 30 (((I 24 0 30) - 1) - aa)) r1.2.1 r1.2.2 pa pb f (I 45 0 ((((I 24 0 30) - 1) - aa).toNatClampNeg)) 0) (fun (r2 : Int32) => vp_in ((I 24 0 29) - 1) 10)))))) ∧ (¬ (I 26 0 (((f * 40) + (I 45 0 ((((I 24 0 30) - 1) - aa).toNatClampNeg))).toNatClampNeg)) = 4 → (vp_in (((I 24 0 30) - 1) - aa) 90) ∧ (fmD_keep_p I 1 (I 46 0 ((((I 24 0 30) - 1) - aa).toNatClampNeg)) ∧ (fm_let (fmD_keep_f I J G 1 (I 46 0 ((((I 24 0 30) - 1) - aa).toNatClampNeg))) (fun (r3 : fm_MI × fm_MJ × fm_MG) => fmD_endOf_p (fm_u r3.1 24 0 30 (((I 24 0 30) - 1) - aa)) r3.2.1 r3.2.2 pa pb f (I 45 0 ((((I 24 0 30) - 1) - aa).toNatClampNeg)) 0 ∧ (fm_let (fmD_endOf_f (fm_u r3.1 24 0 30 (((I 24 0 30) - 1) - aa)) r3.2.1 r3.2.2 pa pb f (I 45 0 ((((I 24 0 30) - 1) - aa).toNatClampNeg)) 0) (fun (r4 : Int32) => vp_in ((I 24 0 29) - 1) 10))))))))))))
set_option maxRecDepth 100000 in
set_option maxHeartbeats 4000000 in
theorem fmD_jumpTo_c {E : fm_Ev} (hl : E.1.stackTraces = false) {d : Nat} (hd : 2 ≤ d) (I : fm_MI) (J : fm_MJ) (G : fm_MG) (pa : Nat × Nat) (pb : Nat × Nat) (f : Int32) (aa : Int32) (hp : fmD_jumpTo_p I J G pa pb f aa) : fm_Ct E d fmD_jumpTo 0 [.inr (.inr (.inr (.inr (24, 0)))), .inl f, .inl aa] (I, J, G, fm_P pa pb) none ((fmD_jumpTo_f I J G pa pb f aa).1, (fmD_jumpTo_f I J G pa pb f aa).2.1, (fmD_jumpTo_f I J G pa pb f aa).2.2, fm_P pa pb) := by
  obtain ⟨d, rfl⟩ : ∃ d', d = d' + 1 := ⟨d - 1, by omega⟩
  refine fm_ct fmD_jumpTo_o hl (Nat.le_of_ble_eq_true rfl) ?_
  have O := fmD_jumpTo_o.1
  unfold fmD_jumpTo_p at hp
  have he := fmD_jumpTo_e I J G pa pb f aa
  refine fm_gr O 11 (C' := (17, [(3, .inl ((I 24 0 29) - 1)), (0, .inr (.inr (.inr (.inr (24, 0))))), (1, .inl f), (2, .inl aa)], [.inl ((I 24 0 29) - 1), .inr (.inr (.inr (.inr (47, 0)))), .inl (I 24 0 30), .inl aa], (I, J, G, fm_P pa pb))) rfl ?_
  refine fm_gg O rfl hp.1 ?_
  have hp := hp.2
  refine fm_gr O 1 (C' := (19, [(3, .inl ((I 24 0 29) - 1)), (0, .inr (.inr (.inr (.inr (24, 0))))), (1, .inl f), (2, .inl aa)], [.inl ((I 24 0 30) - (I 47 0 (((I 24 0 29) - 1).toNatClampNeg))), .inl aa], (I, J, G, fm_P pa pb))) rfl ?_
  refine fm_gb O rfl (fun h => ?_) (fun h => ?_)
  · have h1 : aa = ((I 24 0 30) - (I 47 0 (((I 24 0 29) - 1).toNatClampNeg))) := h
    have he := he.trans (if_pos h1)
    have hp := hp.1 h1
    refine fm_gr O 6 (C' := (32, [(3, .inl ((I 24 0 29) - 1)), (0, .inr (.inr (.inr (.inr (24, 0))))), (1, .inl f), (2, .inl aa)], [.inl f, .inr (.inr (.inr (.inr (27, 0)))), .inl ((I 24 0 29) - 1), .inr (.inr (.inr (.inr (43, 0))))], (I, J, G, fm_P pa pb))) rfl ?_
    refine fm_gg O rfl hp.1 ?_
    have hp := hp.2
    refine fm_gg O rfl hp ?_
    exact fm_gRe O rfl trivial (by first | (rw [he]; done) | (rw [he]; rfl) | rfl) (by first | (rw [he]; done) | (rw [he]; rfl) | rfl)
  · have h1 : ¬ aa = ((I 24 0 30) - (I 47 0 (((I 24 0 29) - 1).toNatClampNeg))) := h
    have he := he.trans (if_neg h1)
    have hp := hp.2 h1
    refine fm_gr O 10 (C' := (51, [(4, .inl (((I 24 0 30) - 1) - aa)), (3, .inl ((I 24 0 29) - 1)), (0, .inr (.inr (.inr (.inr (24, 0))))), (1, .inl f), (2, .inl aa)], [.inl (((I 24 0 30) - 1) - aa), .inr (.inr (.inr (.inr (45, 0))))], (I, J, G, fm_P pa pb))) rfl ?_
    refine fm_gg O rfl hp.1 ?_
    have hp := hp.2
    refine fm_gr O 8 (C' := (65, [(5, .inl (I 45 0 ((((I 24 0 30) - 1) - aa).toNatClampNeg))), (4, .inl (((I 24 0 30) - 1) - aa)), (3, .inl ((I 24 0 29) - 1)), (0, .inr (.inr (.inr (.inr (24, 0))))), (1, .inl f), (2, .inl aa)], [.inl ((f * 40) + (I 45 0 ((((I 24 0 30) - 1) - aa).toNatClampNeg))), .inr (.inr (.inr (.inr (25, 0))))], (I, J, G, fm_P pa pb))) rfl ?_
    refine fm_gg O rfl hp.1 ?_
    have hp := hp.2
    refine fm_gr O 3 (C' := (72, [(6, .inl (I 25 0 (((f * 40) + (I 45 0 ((((I 24 0 30) - 1) - aa).toNatClampNeg))).toNatClampNeg))), (5, .inl (I 45 0 ((((I 24 0 30) - 1) - aa).toNatClampNeg))), (4, .inl (((I 24 0 30) - 1) - aa)), (3, .inl ((I 24 0 29) - 1)), (0, .inr (.inr (.inr (.inr (24, 0))))), (1, .inl f), (2, .inl aa)], [.inl 22, .inl (I 25 0 (((f * 40) + (I 45 0 ((((I 24 0 30) - 1) - aa).toNatClampNeg))).toNatClampNeg))], (I, J, G, fm_P pa pb))) rfl ?_
    refine fm_gb O rfl (fun h => ?_) (fun h => ?_)
    · have h2 : (I 25 0 (((f * 40) + (I 45 0 ((((I 24 0 30) - 1) - aa).toNatClampNeg))).toNatClampNeg)) = 22 := h
      have he := he.trans (if_pos h2)
      have hp := hp.1 h2
      refine fm_gr O 4 (C' := (82, [(6, .inl (I 25 0 (((f * 40) + (I 45 0 ((((I 24 0 30) - 1) - aa).toNatClampNeg))).toNatClampNeg))), (5, .inl (I 45 0 ((((I 24 0 30) - 1) - aa).toNatClampNeg))), (4, .inl (((I 24 0 30) - 1) - aa)), (3, .inl ((I 24 0 29) - 1)), (0, .inr (.inr (.inr (.inr (24, 0))))), (1, .inl f), (2, .inl aa)], [.inl (((I 24 0 30) - 1) - aa), .inr (.inr (.inr (.inr (46, 0)))), .inr (.inr (.inr (.inr (24, 0))))], (I, J, G, fm_P pa pb))) rfl ?_
      refine fm_gg O rfl hp.1 ?_
      have hp := hp.2
      refine fm_gr O 12 (C' := (103, [(6, .inl (I 25 0 (((f * 40) + (I 45 0 ((((I 24 0 30) - 1) - aa).toNatClampNeg))).toNatClampNeg))), (5, .inl (I 45 0 ((((I 24 0 30) - 1) - aa).toNatClampNeg))), (4, .inl (((I 24 0 30) - 1) - aa)), (3, .inl ((I 24 0 29) - 1)), (0, .inr (.inr (.inr (.inr (24, 0))))), (1, .inl f), (2, .inl aa)], [.inl ((I 45 0 ((((I 24 0 30) - 1) - aa).toNatClampNeg)) + 1), .inl ((I 24 0 29) - 1), .inr (.inr (.inr (.inr (43, 0))))], (fm_u (fm_u I 24 0 28 (I 46 0 ((((I 24 0 30) - 1) - aa).toNatClampNeg))) 24 0 30 ((((I 24 0 30) - 1) - aa) + 1), J, G, fm_P pa pb))) rfl ?_
      refine fm_gg O rfl hp ?_
      exact fm_gRe O rfl trivial (by first | (rw [he]; done) | (rw [he]; rfl) | rfl) (by first | (rw [he]; done) | (rw [he]; rfl) | rfl)
    · have h2 : ¬ (I 25 0 (((f * 40) + (I 45 0 ((((I 24 0 30) - 1) - aa).toNatClampNeg))).toNatClampNeg)) = 22 := h
      have he := he.trans (if_neg h2)
      have hp := hp.2 h2
      refine fm_gr O 8 (C' := (117, [(6, .inl (I 25 0 (((f * 40) + (I 45 0 ((((I 24 0 30) - 1) - aa).toNatClampNeg))).toNatClampNeg))), (5, .inl (I 45 0 ((((I 24 0 30) - 1) - aa).toNatClampNeg))), (4, .inl (((I 24 0 30) - 1) - aa)), (3, .inl ((I 24 0 29) - 1)), (0, .inr (.inr (.inr (.inr (24, 0))))), (1, .inl f), (2, .inl aa)], [.inl ((f * 40) + (I 45 0 ((((I 24 0 30) - 1) - aa).toNatClampNeg))), .inr (.inr (.inr (.inr (26, 0)))), .inr (.inr (.inr (.inr (24, 0))))], (I, J, G, fm_P pa pb))) rfl ?_
      refine fm_gg O rfl hp.1 ?_
      have hp := hp.2
      refine fm_gr O 1 (C' := (119, [(6, .inl (I 25 0 (((f * 40) + (I 45 0 ((((I 24 0 30) - 1) - aa).toNatClampNeg))).toNatClampNeg))), (5, .inl (I 45 0 ((((I 24 0 30) - 1) - aa).toNatClampNeg))), (4, .inl (((I 24 0 30) - 1) - aa)), (3, .inl ((I 24 0 29) - 1)), (0, .inr (.inr (.inr (.inr (24, 0))))), (1, .inl f), (2, .inl aa)], [.inl 4, .inl (I 26 0 (((f * 40) + (I 45 0 ((((I 24 0 30) - 1) - aa).toNatClampNeg))).toNatClampNeg)), .inr (.inr (.inr (.inr (24, 0))))], (I, J, G, fm_P pa pb))) rfl ?_
      refine fm_gb O rfl (fun h => ?_) (fun h => ?_)
      · have h3 : (I 26 0 (((f * 40) + (I 45 0 ((((I 24 0 30) - 1) - aa).toNatClampNeg))).toNatClampNeg)) = 4 := h
        have he := he.trans (if_pos h3)
        have hp := hp.1 h3
        refine fm_gr O 4 (C' := (133, [(6, .inl (I 25 0 (((f * 40) + (I 45 0 ((((I 24 0 30) - 1) - aa).toNatClampNeg))).toNatClampNeg))), (5, .inl (I 45 0 ((((I 24 0 30) - 1) - aa).toNatClampNeg))), (4, .inl (((I 24 0 30) - 1) - aa)), (3, .inl ((I 24 0 29) - 1)), (0, .inr (.inr (.inr (.inr (24, 0))))), (1, .inl f), (2, .inl aa)], [.inl (((I 24 0 30) - 1) - aa), .inr (.inr (.inr (.inr (46, 0)))), .inl 0, .inr (.inr (.inr (.inr (24, 0))))], (I, J, G, fm_P pa pb))) rfl ?_
        refine fm_gg O rfl hp.1 ?_
        have hp := hp.2
        have hc := hp.1
        have hp := hp.2
        have K := fmD_keep_c (d := d) hl (by omega) I J G pa pb 0 (I 46 0 ((((I 24 0 30) - 1) - aa).toNatClampNeg)) hc
        generalize er1 : fmD_keep_f I J G 0 (I 46 0 ((((I 24 0 30) - 1) - aa).toNatClampNeg)) = r1 at he hp
        have he := he.trans (fm_letE _ _)
        have hp := fm_letP hp
        rw [er1] at K
        refine fm_cV0 O fmD_keep_o (i := 0) (as := [.inl 0, .inl (I 46 0 ((((I 24 0 30) - 1) - aa).toNatClampNeg))]) (rest := []) (v := none) rfl fk_6_190 rfl (by decide) fn_D_keep (Nat.le_of_ble_eq_true rfl) (K) ?_
        refine fm_gr O 10 (C' := (153, [(6, .inl (I 25 0 (((f * 40) + (I 45 0 ((((I 24 0 30) - 1) - aa).toNatClampNeg))).toNatClampNeg))), (5, .inl (I 45 0 ((((I 24 0 30) - 1) - aa).toNatClampNeg))), (4, .inl (((I 24 0 30) - 1) - aa)), (3, .inl ((I 24 0 29) - 1)), (0, .inr (.inr (.inr (.inr (24, 0))))), (1, .inl f), (2, .inl aa)], [.inl 0, .inl (I 45 0 ((((I 24 0 30) - 1) - aa).toNatClampNeg)), .inl f, .inr (.inr (.inr (.inr (24, 0)))), .inl ((I 24 0 29) - 1), .inr (.inr (.inr (.inr (43, 0))))], (fm_u r1.1 24 0 30 (((I 24 0 30) - 1) - aa), r1.2.1, r1.2.2, fm_P pa pb))) rfl ?_
        have hc := hp.1
        have hp := hp.2
        have K := fmD_endOf_c (d := d) hl (by omega) (fm_u r1.1 24 0 30 (((I 24 0 30) - 1) - aa)) r1.2.1 r1.2.2 pa pb f (I 45 0 ((((I 24 0 30) - 1) - aa).toNatClampNeg)) 0 hc
        generalize er2 : fmD_endOf_f (fm_u r1.1 24 0 30 (((I 24 0 30) - 1) - aa)) r1.2.1 r1.2.2 pa pb f (I 45 0 ((((I 24 0 30) - 1) - aa).toNatClampNeg)) 0 = r2 at he hp
        have he := he.trans (fm_letE _ _)
        have hp := fm_letP hp
        rw [er2] at K
        refine fm_cV0 O fmD_endOf_o (i := 0) (as := [.inl f, .inl (I 45 0 ((((I 24 0 30) - 1) - aa).toNatClampNeg)), .inl 0]) (rest := [.inl ((I 24 0 29) - 1), .inr (.inr (.inr (.inr (43, 0))))]) (v := some (.inl r2)) rfl fk_6_194 rfl (by decide) fn_D_endOf (Nat.le_of_ble_eq_true rfl) (K) ?_
        refine fm_gr O 2 (C' := (158, [(6, .inl (I 25 0 (((f * 40) + (I 45 0 ((((I 24 0 30) - 1) - aa).toNatClampNeg))).toNatClampNeg))), (5, .inl (I 45 0 ((((I 24 0 30) - 1) - aa).toNatClampNeg))), (4, .inl (((I 24 0 30) - 1) - aa)), (3, .inl ((I 24 0 29) - 1)), (0, .inr (.inr (.inr (.inr (24, 0))))), (1, .inl f), (2, .inl aa)], [.inl (r2 + 1), .inl ((I 24 0 29) - 1), .inr (.inr (.inr (.inr (43, 0))))], (fm_u r1.1 24 0 30 (((I 24 0 30) - 1) - aa), r1.2.1, r1.2.2, fm_P pa pb))) rfl ?_
        refine fm_gg O rfl hp ?_
        exact fm_gRe O rfl trivial (by first | (rw [he]; done) | (rw [he]; rfl) | rfl) (by first | (rw [he]; done) | (rw [he]; rfl) | rfl)
      · have h3 : ¬ (I 26 0 (((f * 40) + (I 45 0 ((((I 24 0 30) - 1) - aa).toNatClampNeg))).toNatClampNeg)) = 4 := h
        have he := he.trans (if_neg h3)
        have hp := hp.2 h3
        refine fm_gr O 5 (C' := (133, [(6, .inl (I 25 0 (((f * 40) + (I 45 0 ((((I 24 0 30) - 1) - aa).toNatClampNeg))).toNatClampNeg))), (5, .inl (I 45 0 ((((I 24 0 30) - 1) - aa).toNatClampNeg))), (4, .inl (((I 24 0 30) - 1) - aa)), (3, .inl ((I 24 0 29) - 1)), (0, .inr (.inr (.inr (.inr (24, 0))))), (1, .inl f), (2, .inl aa)], [.inl (((I 24 0 30) - 1) - aa), .inr (.inr (.inr (.inr (46, 0)))), .inl 1, .inr (.inr (.inr (.inr (24, 0))))], (I, J, G, fm_P pa pb))) rfl ?_
        refine fm_gg O rfl hp.1 ?_
        have hp := hp.2
        have hc := hp.1
        have hp := hp.2
        have K := fmD_keep_c (d := d) hl (by omega) I J G pa pb 1 (I 46 0 ((((I 24 0 30) - 1) - aa).toNatClampNeg)) hc
        generalize er3 : fmD_keep_f I J G 1 (I 46 0 ((((I 24 0 30) - 1) - aa).toNatClampNeg)) = r3 at he hp
        have he := he.trans (fm_letE _ _)
        have hp := fm_letP hp
        rw [er3] at K
        refine fm_cV0 O fmD_keep_o (i := 0) (as := [.inl 1, .inl (I 46 0 ((((I 24 0 30) - 1) - aa).toNatClampNeg))]) (rest := []) (v := none) rfl fk_6_190 rfl (by decide) fn_D_keep (Nat.le_of_ble_eq_true rfl) (K) ?_
        refine fm_gr O 10 (C' := (153, [(6, .inl (I 25 0 (((f * 40) + (I 45 0 ((((I 24 0 30) - 1) - aa).toNatClampNeg))).toNatClampNeg))), (5, .inl (I 45 0 ((((I 24 0 30) - 1) - aa).toNatClampNeg))), (4, .inl (((I 24 0 30) - 1) - aa)), (3, .inl ((I 24 0 29) - 1)), (0, .inr (.inr (.inr (.inr (24, 0))))), (1, .inl f), (2, .inl aa)], [.inl 0, .inl (I 45 0 ((((I 24 0 30) - 1) - aa).toNatClampNeg)), .inl f, .inr (.inr (.inr (.inr (24, 0)))), .inl ((I 24 0 29) - 1), .inr (.inr (.inr (.inr (43, 0))))], (fm_u r3.1 24 0 30 (((I 24 0 30) - 1) - aa), r3.2.1, r3.2.2, fm_P pa pb))) rfl ?_
        have hc := hp.1
        have hp := hp.2
        have K := fmD_endOf_c (d := d) hl (by omega) (fm_u r3.1 24 0 30 (((I 24 0 30) - 1) - aa)) r3.2.1 r3.2.2 pa pb f (I 45 0 ((((I 24 0 30) - 1) - aa).toNatClampNeg)) 0 hc
        generalize er4 : fmD_endOf_f (fm_u r3.1 24 0 30 (((I 24 0 30) - 1) - aa)) r3.2.1 r3.2.2 pa pb f (I 45 0 ((((I 24 0 30) - 1) - aa).toNatClampNeg)) 0 = r4 at he hp
        have he := he.trans (fm_letE _ _)
        have hp := fm_letP hp
        rw [er4] at K
        refine fm_cV0 O fmD_endOf_o (i := 0) (as := [.inl f, .inl (I 45 0 ((((I 24 0 30) - 1) - aa).toNatClampNeg)), .inl 0]) (rest := [.inl ((I 24 0 29) - 1), .inr (.inr (.inr (.inr (43, 0))))]) (v := some (.inl r4)) rfl fk_6_194 rfl (by decide) fn_D_endOf (Nat.le_of_ble_eq_true rfl) (K) ?_
        refine fm_gr O 2 (C' := (158, [(6, .inl (I 25 0 (((f * 40) + (I 45 0 ((((I 24 0 30) - 1) - aa).toNatClampNeg))).toNatClampNeg))), (5, .inl (I 45 0 ((((I 24 0 30) - 1) - aa).toNatClampNeg))), (4, .inl (((I 24 0 30) - 1) - aa)), (3, .inl ((I 24 0 29) - 1)), (0, .inr (.inr (.inr (.inr (24, 0))))), (1, .inl f), (2, .inl aa)], [.inl (r4 + 1), .inl ((I 24 0 29) - 1), .inr (.inr (.inr (.inr (43, 0))))], (fm_u r3.1 24 0 30 (((I 24 0 30) - 1) - aa), r3.2.1, r3.2.2, fm_P pa pb))) rfl ?_
        refine fm_gg O rfl hp ?_
        exact fm_gRe O rfl trivial (by first | (rw [he]; done) | (rw [he]; rfl) | rfl) (by first | (rw [he]; done) | (rw [he]; rfl) | rfl)
def fmD_enter_L101_f : Nat → fm_MI → fm_MJ → fm_MG → (Nat × Nat) → (Nat × Nat) → Int32 → Int32 → Int32 → fm_MI × fm_MJ × fm_MG
  | 0, I, J, G, pa, pb, y1, y2, y3 => (I, J, G)
  | n + 1, I, J, G, pa, pb, y1, y2, y3 => if (I 29 0 y1.toNatClampNeg) ≤ y3 then ((I, J, G)) else (fm_let (fmD_push_f I J G (I 30 0 (((y1 * 6) + y3).toNatClampNeg)) 0 FP.dconst0) (fun (r1 : fm_MI × fm_MJ × fm_MG) => fmD_enter_L101_f n r1.1 r1.2.1 r1.2.2 pa pb y1 y2 (y3 + 1)))
theorem fmD_enter_L101_e (n : Nat) (I : fm_MI) (J : fm_MJ) (G : fm_MG) (pa : Nat × Nat) (pb : Nat × Nat) (y1 : Int32) (y2 : Int32) (y3 : Int32) : fmD_enter_L101_f (n + 1) I J G pa pb y1 y2 y3 = if (I 29 0 y1.toNatClampNeg) ≤ y3 then ((I, J, G)) else (fm_let (fmD_push_f I J G (I 30 0 (((y1 * 6) + y3).toNatClampNeg)) 0 FP.dconst0) (fun (r1 : fm_MI × fm_MJ × fm_MG) => fmD_enter_L101_f n r1.1 r1.2.1 r1.2.2 pa pb y1 y2 (y3 + 1))) := rfl
def fmD_enter_L101_p : Nat → fm_MI → fm_MJ → fm_MG → (Nat × Nat) → (Nat × Nat) → Int32 → Int32 → Int32 → Prop
  | 0, I, J, G, pa, pb, y1, y2, y3 => False
  | n + 1, I, J, G, pa, pb, y1, y2, y3 => (vp_in y1 4) ∧ (((I 29 0 y1.toNatClampNeg) ≤ y3 → True) ∧ (¬ (I 29 0 y1.toNatClampNeg) ≤ y3 → (vp_in ((y1 * 6) + y3) 24) ∧ (fmD_push_p I (I 30 0 (((y1 * 6) + y3).toNatClampNeg)) FP.dconst0 ∧ (fm_let (fmD_push_f I J G (I 30 0 (((y1 * 6) + y3).toNatClampNeg)) 0 FP.dconst0) (fun (r1 : fm_MI × fm_MJ × fm_MG) => fmD_enter_L101_p n r1.1 r1.2.1 r1.2.2 pa pb y1 y2 (y3 + 1))))))
theorem fmD_enter_L101_q (n : Nat) (I : fm_MI) (J : fm_MJ) (G : fm_MG) (pa : Nat × Nat) (pb : Nat × Nat) (y1 : Int32) (y2 : Int32) (y3 : Int32) : fmD_enter_L101_p (n + 1) I J G pa pb y1 y2 y3 = ((vp_in y1 4) ∧ (((I 29 0 y1.toNatClampNeg) ≤ y3 → True) ∧ (¬ (I 29 0 y1.toNatClampNeg) ≤ y3 → (vp_in ((y1 * 6) + y3) 24) ∧ (fmD_push_p I (I 30 0 (((y1 * 6) + y3).toNatClampNeg)) FP.dconst0 ∧ (fm_let (fmD_push_f I J G (I 30 0 (((y1 * 6) + y3).toNatClampNeg)) 0 FP.dconst0) (fun (r1 : fm_MI × fm_MJ × fm_MG) => fmD_enter_L101_p n r1.1 r1.2.1 r1.2.2 pa pb y1 y2 (y3 + 1))))))) := rfl
set_option maxRecDepth 100000 in
set_option maxHeartbeats 4000000 in
theorem fmD_enter_L101_c {E : fm_Ev} (hl : E.1.stackTraces = false) {d : Nat} (hd : 1 ≤ d + 1) (n : Nat) : ∀ (I : fm_MI) (J : fm_MJ) (G : fm_MG) (pa : Nat × Nat) (pb : Nat × Nat) (y1 : Int32) (y2 : Int32) (y3 : Int32), fmD_enter_L101_p n I J G pa pb y1 y2 y3 → fm_Go E (d + 1) fmD_enter 0 (101, [(0, .inr (.inr (.inr (.inr (24, 0))))), (1, .inl y1), (2, .inl y2), (3, .inl y3)], [], (I, J, G, fm_P pa pb)) (fm_Zr E none ((fmD_enter_L101_f n I J G pa pb y1 y2 y3).1, (fmD_enter_L101_f n I J G pa pb y1 y2 y3).2.1, (fmD_enter_L101_f n I J G pa pb y1 y2 y3).2.2, fm_P pa pb)) := by
  have O := fmD_enter_o.1
  induction n with
  | zero => intro I J G pa pb y1 y2 y3 hp; exact hp.elim
  | succ n ih =>
    intro I J G pa pb y1 y2 y3 hp
    rw [fmD_enter_L101_q] at hp
    have he := fmD_enter_L101_e n I J G pa pb y1 y2 y3
    refine fm_gr O 4 (C' := (107, [(0, .inr (.inr (.inr (.inr (24, 0))))), (1, .inl y1), (2, .inl y2), (3, .inl y3)], [.inl y1, .inr (.inr (.inr (.inr (29, 0)))), .inl y3], (I, J, G, fm_P pa pb))) rfl ?_
    refine fm_gg O rfl hp.1 ?_
    have hp := hp.2
    refine fm_gb O rfl (fun h => ?_) (fun h => ?_)
    · have h1 : (I 29 0 y1.toNatClampNeg) ≤ y3 := h
      have he := he.trans (if_pos h1)
      exact fm_gRe O rfl trivial (by first | (rw [he]; done) | (rw [he]; rfl) | rfl) (by first | (rw [he]; done) | (rw [he]; rfl) | rfl)
    · have h1 : ¬ (I 29 0 y1.toNatClampNeg) ≤ y3 := h
      have he := he.trans (if_neg h1)
      have hp := hp.2 h1
      refine fm_gr O 8 (C' := (122, [(0, .inr (.inr (.inr (.inr (24, 0))))), (1, .inl y1), (2, .inl y2), (3, .inl y3)], [.inl ((y1 * 6) + y3), .inr (.inr (.inr (.inr (30, 0)))), .inr (.inr (.inr (.inr (24, 0))))], (I, J, G, fm_P pa pb))) rfl ?_
      refine fm_gg O rfl hp.1 ?_
      have hp := hp.2
      refine fm_gr O 2 (C' := (125, [(0, .inr (.inr (.inr (.inr (24, 0))))), (1, .inl y1), (2, .inl y2), (3, .inl y3)], [.inr (.inr (.inr (.inl FP.dconst0))), .inr (.inl 0), .inl (I 30 0 (((y1 * 6) + y3).toNatClampNeg)), .inr (.inr (.inr (.inr (24, 0))))], (I, J, G, fm_P pa pb))) rfl ?_
      have hc := hp.1
      have hp := hp.2
      have K := fmD_push_c (d := d) hl (by omega) I J G pa pb (I 30 0 (((y1 * 6) + y3).toNatClampNeg)) 0 FP.dconst0 hc
      generalize er1 : fmD_push_f I J G (I 30 0 (((y1 * 6) + y3).toNatClampNeg)) 0 FP.dconst0 = r1 at he hp
      have he := he.trans (fm_letE _ _)
      have hp := fm_letP hp
      rw [er1] at K
      refine fm_cV0 O fmD_push_o (i := 0) (as := [.inl (I 30 0 (((y1 * 6) + y3).toNatClampNeg)), .inr (.inl 0), .inr (.inr (.inr (.inl FP.dconst0)))]) (rest := []) (v := none) rfl fk_6_172 rfl (by decide) fn_D_push (Nat.le_of_ble_eq_true rfl) (K) ?_
      refine fm_gr O 2 (C' := (101, [(3, .inl (y3 + 1)), (0, .inr (.inr (.inr (.inr (24, 0))))), (1, .inl y1), (2, .inl y2)], [], (r1.1, r1.2.1, r1.2.2, fm_P pa pb))) rfl ?_
      refine fm_gL O [1, 2, 3, 0] rfl ?_
      rw [he]
      exact ih r1.1 r1.2.1 r1.2.2 pa pb y1 y2 (y3 + 1) hp
def fmD_enter_f (I : fm_MI) (J : fm_MJ) (G : fm_MG) (pa : Nat × Nat) (pb : Nat × Nat) (f : Int32) : fm_MI × fm_MJ × fm_MG :=
  if (I 24 0 29) = 8 then ((fm_u I 24 0 18 2, J, G)) else (if ((I 24 0 29) + 1) ≤ (I 24 0 32) then (fmD_enter_L101_f 7 (fm_u (fm_u (fm_u (fm_u (fm_u I 42 0 ((I 24 0 29).toNatClampNeg) f) 43 0 ((I 24 0 29).toNatClampNeg) 0) 44 0 ((I 24 0 29).toNatClampNeg) ((I 24 0 28) - (I 28 0 f.toNatClampNeg))) 47 0 ((I 24 0 29).toNatClampNeg) (I 24 0 30)) 24 0 29 ((I 24 0 29) + 1)) J G pa pb f (I 28 0 f.toNatClampNeg) (I 28 0 f.toNatClampNeg)) else (fmD_enter_L101_f 7 (fm_u (fm_u (fm_u (fm_u (fm_u (fm_u I 42 0 ((I 24 0 29).toNatClampNeg) f) 43 0 ((I 24 0 29).toNatClampNeg) 0) 44 0 ((I 24 0 29).toNatClampNeg) ((I 24 0 28) - (I 28 0 f.toNatClampNeg))) 47 0 ((I 24 0 29).toNatClampNeg) (I 24 0 30)) 24 0 29 ((I 24 0 29) + 1)) 24 0 32 ((I 24 0 29) + 1)) J G pa pb f (I 28 0 f.toNatClampNeg) (I 28 0 f.toNatClampNeg)))
theorem fmD_enter_e (I : fm_MI) (J : fm_MJ) (G : fm_MG) (pa : Nat × Nat) (pb : Nat × Nat) (f : Int32) : fmD_enter_f I J G pa pb f = if (I 24 0 29) = 8 then ((fm_u I 24 0 18 2, J, G)) else (if ((I 24 0 29) + 1) ≤ (I 24 0 32) then (fmD_enter_L101_f 7 (fm_u (fm_u (fm_u (fm_u (fm_u I 42 0 ((I 24 0 29).toNatClampNeg) f) 43 0 ((I 24 0 29).toNatClampNeg) 0) 44 0 ((I 24 0 29).toNatClampNeg) ((I 24 0 28) - (I 28 0 f.toNatClampNeg))) 47 0 ((I 24 0 29).toNatClampNeg) (I 24 0 30)) 24 0 29 ((I 24 0 29) + 1)) J G pa pb f (I 28 0 f.toNatClampNeg) (I 28 0 f.toNatClampNeg)) else (fmD_enter_L101_f 7 (fm_u (fm_u (fm_u (fm_u (fm_u (fm_u I 42 0 ((I 24 0 29).toNatClampNeg) f) 43 0 ((I 24 0 29).toNatClampNeg) 0) 44 0 ((I 24 0 29).toNatClampNeg) ((I 24 0 28) - (I 28 0 f.toNatClampNeg))) 47 0 ((I 24 0 29).toNatClampNeg) (I 24 0 30)) 24 0 29 ((I 24 0 29) + 1)) 24 0 32 ((I 24 0 29) + 1)) J G pa pb f (I 28 0 f.toNatClampNeg) (I 28 0 f.toNatClampNeg))) := rfl
def fmD_enter_p (I : fm_MI) (J : fm_MJ) (G : fm_MG) (pa : Nat × Nat) (pb : Nat × Nat) (f : Int32) : Prop :=
  ((I 24 0 29) = 8 → True) ∧ (¬ (I 24 0 29) = 8 → (vp_in f 4) ∧ ((vp_in (I 24 0 29) 10) ∧ ((vp_in (I 24 0 29) 10) ∧ ((vp_in (I 24 0 29) 10) ∧ ((vp_in (I 24 0 29) 10) ∧ ((((I 24 0 29) + 1) ≤ (I 24 0 32) → fmD_enter_L101_p 7 (fm_u (fm_u (fm_u (fm_u (fm_u I 42 0 ((I 24 0 29).toNatClampNeg) f) 43 0 ((I 24 0 29).toNatClampNeg) 0) 44 0 ((I 24 0 29).toNatClampNeg) ((I 24 0 28) - (I 28 0 f.toNatClampNeg))) 47 0 ((I 24 0 29).toNatClampNeg) (I 24 0 30)) 24 0 29 ((I 24 0 29) + 1)) J G pa pb f (I 28 0 f.toNatClampNeg) (I 28 0 f.toNatClampNeg)) ∧ (¬ ((I 24 0 29) + 1) ≤ (I 24 0 32) → fmD_enter_L101_p 7 (fm_u (fm_u (fm_u (fm_u (fm_u (fm_u I 42 0 ((I 24 0 29).toNatClampNeg) f) 43 0 ((I 24 0 29).toNatClampNeg) 0) 44 0 ((I 24 0 29).toNatClampNeg) ((I 24 0 28) - (I 28 0 f.toNatClampNeg))) 47 0 ((I 24 0 29).toNatClampNeg) (I 24 0 30)) 24 0 29 ((I 24 0 29) + 1)) 24 0 32 ((I 24 0 29) + 1)) J G pa pb f (I 28 0 f.toNatClampNeg) (I 28 0 f.toNatClampNeg))))))))
set_option maxRecDepth 100000 in
set_option maxHeartbeats 4000000 in
theorem fmD_enter_c {E : fm_Ev} (hl : E.1.stackTraces = false) {d : Nat} (hd : 1 ≤ d) (I : fm_MI) (J : fm_MJ) (G : fm_MG) (pa : Nat × Nat) (pb : Nat × Nat) (f : Int32) (hp : fmD_enter_p I J G pa pb f) : fm_Ct E d fmD_enter 0 [.inr (.inr (.inr (.inr (24, 0)))), .inl f] (I, J, G, fm_P pa pb) none ((fmD_enter_f I J G pa pb f).1, (fmD_enter_f I J G pa pb f).2.1, (fmD_enter_f I J G pa pb f).2.2, fm_P pa pb) := by
  obtain ⟨d, rfl⟩ : ∃ d', d = d' + 1 := ⟨d - 1, by omega⟩
  refine fm_ct fmD_enter_o hl (Nat.le_of_ble_eq_true rfl) ?_
  have O := fmD_enter_o.1
  unfold fmD_enter_p at hp
  have he := fmD_enter_e I J G pa pb f
  refine fm_gr O 3 (C' := (6, [(0, .inr (.inr (.inr (.inr (24, 0))))), (1, .inl f)], [.inl 8, .inl (I 24 0 29)], (I, J, G, fm_P pa pb))) rfl ?_
  refine fm_gb O rfl (fun h => ?_) (fun h => ?_)
  · have h1 : (I 24 0 29) = 8 := h
    have he := he.trans (if_pos h1)
    refine fm_gr O 3 (C' := (14, [(0, .inr (.inr (.inr (.inr (24, 0))))), (1, .inl f)], [], (fm_u I 24 0 18 2, J, G, fm_P pa pb))) rfl ?_
    exact fm_gRe O rfl trivial (by first | (rw [he]; done) | (rw [he]; rfl) | rfl) (by first | (rw [he]; done) | (rw [he]; rfl) | rfl)
  · have h1 : ¬ (I 24 0 29) = 8 := h
    have he := he.trans (if_neg h1)
    have hp := hp.2 h1
    refine fm_gr O 3 (C' := (20, [(0, .inr (.inr (.inr (.inr (24, 0))))), (1, .inl f)], [.inl f, .inr (.inr (.inr (.inr (28, 0))))], (I, J, G, fm_P pa pb))) rfl ?_
    refine fm_gg O rfl hp.1 ?_
    have hp := hp.2
    refine fm_gr O 6 (C' := (31, [(2, .inl (I 28 0 f.toNatClampNeg)), (0, .inr (.inr (.inr (.inr (24, 0))))), (1, .inl f)], [.inl f, .inl (I 24 0 29), .inr (.inr (.inr (.inr (42, 0))))], (I, J, G, fm_P pa pb))) rfl ?_
    refine fm_gg O rfl hp.1 ?_
    have hp := hp.2
    refine fm_gr O 5 (C' := (41, [(2, .inl (I 28 0 f.toNatClampNeg)), (0, .inr (.inr (.inr (.inr (24, 0))))), (1, .inl f)], [.inl 0, .inl (I 24 0 29), .inr (.inr (.inr (.inr (43, 0))))], (fm_u I 42 0 ((I 24 0 29).toNatClampNeg) f, J, G, fm_P pa pb))) rfl ?_
    refine fm_gg O rfl hp.1 ?_
    have hp := hp.2
    refine fm_gr O 8 (C' := (56, [(2, .inl (I 28 0 f.toNatClampNeg)), (0, .inr (.inr (.inr (.inr (24, 0))))), (1, .inl f)], [.inl ((I 24 0 28) - (I 28 0 f.toNatClampNeg)), .inl (I 24 0 29), .inr (.inr (.inr (.inr (44, 0))))], (fm_u (fm_u I 42 0 ((I 24 0 29).toNatClampNeg) f) 43 0 ((I 24 0 29).toNatClampNeg) 0, J, G, fm_P pa pb))) rfl ?_
    refine fm_gg O rfl hp.1 ?_
    have hp := hp.2
    refine fm_gr O 6 (C' := (69, [(2, .inl (I 28 0 f.toNatClampNeg)), (0, .inr (.inr (.inr (.inr (24, 0))))), (1, .inl f)], [.inl (I 24 0 30), .inl (I 24 0 29), .inr (.inr (.inr (.inr (47, 0))))], (fm_u (fm_u (fm_u I 42 0 ((I 24 0 29).toNatClampNeg) f) 43 0 ((I 24 0 29).toNatClampNeg) 0) 44 0 ((I 24 0 29).toNatClampNeg) ((I 24 0 28) - (I 28 0 f.toNatClampNeg)), J, G, fm_P pa pb))) rfl ?_
    refine fm_gg O rfl hp.1 ?_
    have hp := hp.2
    refine fm_gr O 10 (C' := (88, [(2, .inl (I 28 0 f.toNatClampNeg)), (0, .inr (.inr (.inr (.inr (24, 0))))), (1, .inl f)], [.inl (I 24 0 32), .inl ((I 24 0 29) + 1)], (fm_u (fm_u (fm_u (fm_u (fm_u I 42 0 ((I 24 0 29).toNatClampNeg) f) 43 0 ((I 24 0 29).toNatClampNeg) 0) 44 0 ((I 24 0 29).toNatClampNeg) ((I 24 0 28) - (I 28 0 f.toNatClampNeg))) 47 0 ((I 24 0 29).toNatClampNeg) (I 24 0 30)) 24 0 29 ((I 24 0 29) + 1), J, G, fm_P pa pb))) rfl ?_
    refine fm_gb O rfl (fun h => ?_) (fun h => ?_)
    · have h2 : ((I 24 0 29) + 1) ≤ (I 24 0 32) := h
      have he := he.trans (if_pos h2)
      have hp := hp.1 h2
      refine fm_gr O 2 (C' := (101, [(3, .inl (I 28 0 f.toNatClampNeg)), (2, .inl (I 28 0 f.toNatClampNeg)), (0, .inr (.inr (.inr (.inr (24, 0))))), (1, .inl f)], [], (fm_u (fm_u (fm_u (fm_u (fm_u I 42 0 ((I 24 0 29).toNatClampNeg) f) 43 0 ((I 24 0 29).toNatClampNeg) 0) 44 0 ((I 24 0 29).toNatClampNeg) ((I 24 0 28) - (I 28 0 f.toNatClampNeg))) 47 0 ((I 24 0 29).toNatClampNeg) (I 24 0 30)) 24 0 29 ((I 24 0 29) + 1), J, G, fm_P pa pb))) rfl ?_
      refine fm_gL O [2, 3, 1, 0] rfl ?_
      rw [he]
      exact fmD_enter_L101_c hl hd 7 (fm_u (fm_u (fm_u (fm_u (fm_u I 42 0 ((I 24 0 29).toNatClampNeg) f) 43 0 ((I 24 0 29).toNatClampNeg) 0) 44 0 ((I 24 0 29).toNatClampNeg) ((I 24 0 28) - (I 28 0 f.toNatClampNeg))) 47 0 ((I 24 0 29).toNatClampNeg) (I 24 0 30)) 24 0 29 ((I 24 0 29) + 1)) J G pa pb f (I 28 0 f.toNatClampNeg) (I 28 0 f.toNatClampNeg) hp
    · have h2 : ¬ ((I 24 0 29) + 1) ≤ (I 24 0 32) := h
      have he := he.trans (if_neg h2)
      have hp := hp.2 h2
      refine fm_gr O 6 (C' := (101, [(3, .inl (I 28 0 f.toNatClampNeg)), (2, .inl (I 28 0 f.toNatClampNeg)), (0, .inr (.inr (.inr (.inr (24, 0))))), (1, .inl f)], [], (fm_u (fm_u (fm_u (fm_u (fm_u (fm_u I 42 0 ((I 24 0 29).toNatClampNeg) f) 43 0 ((I 24 0 29).toNatClampNeg) 0) 44 0 ((I 24 0 29).toNatClampNeg) ((I 24 0 28) - (I 28 0 f.toNatClampNeg))) 47 0 ((I 24 0 29).toNatClampNeg) (I 24 0 30)) 24 0 29 ((I 24 0 29) + 1)) 24 0 32 ((I 24 0 29) + 1), J, G, fm_P pa pb))) rfl ?_
      refine fm_gL O [2, 3, 1, 0] rfl ?_
      rw [he]
      exact fmD_enter_L101_c hl hd 7 (fm_u (fm_u (fm_u (fm_u (fm_u (fm_u I 42 0 ((I 24 0 29).toNatClampNeg) f) 43 0 ((I 24 0 29).toNatClampNeg) 0) 44 0 ((I 24 0 29).toNatClampNeg) ((I 24 0 28) - (I 28 0 f.toNatClampNeg))) 47 0 ((I 24 0 29).toNatClampNeg) (I 24 0 30)) 24 0 29 ((I 24 0 29) + 1)) 24 0 32 ((I 24 0 29) + 1)) J G pa pb f (I 28 0 f.toNatClampNeg) (I 28 0 f.toNatClampNeg) hp
def fmD_choice_f (I : fm_MI) (J : fm_MJ) (G : fm_MG) : fm_MI × fm_MJ × fm_MG :=
  if (lg_cmp (J 40 0 ((((I 24 0 28) - 3) + 2).toNatClampNeg)) 0) = 0 then ((fm_u (fm_u I 24 0 28 ((I 24 0 28) - 3)) 24 0 28 (((I 24 0 28) - 3) + 1), fm_u J 40 0 (((I 24 0 28) - 3).toNatClampNeg) (J 40 0 ((((I 24 0 28) - 3) + 1).toNatClampNeg)), fm_u G 41 0 (((I 24 0 28) - 3).toNatClampNeg) (G 41 0 ((((I 24 0 28) - 3) + 1).toNatClampNeg)))) else ((fm_u (fm_u I 24 0 28 ((I 24 0 28) - 3)) 24 0 28 (((I 24 0 28) - 3) + 1), J, G))
theorem fmD_choice_e (I : fm_MI) (J : fm_MJ) (G : fm_MG) : fmD_choice_f I J G = if (lg_cmp (J 40 0 ((((I 24 0 28) - 3) + 2).toNatClampNeg)) 0) = 0 then ((fm_u (fm_u I 24 0 28 ((I 24 0 28) - 3)) 24 0 28 (((I 24 0 28) - 3) + 1), fm_u J 40 0 (((I 24 0 28) - 3).toNatClampNeg) (J 40 0 ((((I 24 0 28) - 3) + 1).toNatClampNeg)), fm_u G 41 0 (((I 24 0 28) - 3).toNatClampNeg) (G 41 0 ((((I 24 0 28) - 3) + 1).toNatClampNeg)))) else ((fm_u (fm_u I 24 0 28 ((I 24 0 28) - 3)) 24 0 28 (((I 24 0 28) - 3) + 1), J, G)) := rfl
def fmD_choice_p (I : fm_MI) (J : fm_MJ) : Prop :=
  (vp_in (((I 24 0 28) - 3) + 2) 260) ∧ (((lg_cmp (J 40 0 ((((I 24 0 28) - 3) + 2).toNatClampNeg)) 0) = 0 → (vp_in (((I 24 0 28) - 3) + 1) 260) ∧ ((vp_in ((I 24 0 28) - 3) 260) ∧ ((vp_in (((I 24 0 28) - 3) + 1) 260) ∧ (vp_in ((I 24 0 28) - 3) 260)))) ∧ (¬ (lg_cmp (J 40 0 ((((I 24 0 28) - 3) + 2).toNatClampNeg)) 0) = 0 → True))
set_option maxRecDepth 100000 in
set_option maxHeartbeats 4000000 in
theorem fmD_choice_c {E : fm_Ev} (hl : E.1.stackTraces = false) {d : Nat} (hd : 0 ≤ d) (I : fm_MI) (J : fm_MJ) (G : fm_MG) (pa : Nat × Nat) (pb : Nat × Nat) (hp : fmD_choice_p I J) : fm_Ct E d fmD_choice 0 [.inr (.inr (.inr (.inr (24, 0))))] (I, J, G, fm_P pa pb) none ((fmD_choice_f I J G).1, (fmD_choice_f I J G).2.1, (fmD_choice_f I J G).2.2, fm_P pa pb) := by
  refine fm_ct fmD_choice_o hl (Nat.le_of_ble_eq_true rfl) ?_
  have O := fmD_choice_o.1
  unfold fmD_choice_p at hp
  have he := fmD_choice_e I J G
  refine fm_gr O 12 (C' := (20, [(0, .inr (.inr (.inr (.inr (24, 0)))))], [.inl (((I 24 0 28) - 3) + 2), .inr (.inr (.inr (.inr (40, 0))))], (fm_u I 24 0 28 ((I 24 0 28) - 3), J, G, fm_P pa pb))) rfl ?_
  refine fm_gg O rfl hp.1 ?_
  have hp := hp.2
  refine fm_gr O 2 (C' := (23, [(0, .inr (.inr (.inr (.inr (24, 0)))))], [.inl (lg_cmp (J 40 0 ((((I 24 0 28) - 3) + 2).toNatClampNeg)) 0)], (fm_u I 24 0 28 ((I 24 0 28) - 3), J, G, fm_P pa pb))) rfl ?_
  refine fm_gb O rfl (fun h => ?_) (fun h => ?_)
  · have h1 : (lg_cmp (J 40 0 ((((I 24 0 28) - 3) + 2).toNatClampNeg)) 0) = 0 := h
    have he := he.trans (if_pos h1)
    have hp := hp.1 h1
    refine fm_gr O 10 (C' := (44, [(0, .inr (.inr (.inr (.inr (24, 0)))))], [.inl (((I 24 0 28) - 3) + 1), .inr (.inr (.inr (.inr (40, 0)))), .inl ((I 24 0 28) - 3), .inr (.inr (.inr (.inr (40, 0))))], (fm_u I 24 0 28 ((I 24 0 28) - 3), J, G, fm_P pa pb))) rfl ?_
    refine fm_gg O rfl hp.1 ?_
    have hp := hp.2
    refine fm_gg O rfl hp.1 ?_
    have hp := hp.2
    refine fm_gr O 10 (C' := (64, [(0, .inr (.inr (.inr (.inr (24, 0)))))], [.inl (((I 24 0 28) - 3) + 1), .inr (.inr (.inr (.inr (41, 0)))), .inl ((I 24 0 28) - 3), .inr (.inr (.inr (.inr (41, 0))))], (fm_u I 24 0 28 ((I 24 0 28) - 3), fm_u J 40 0 (((I 24 0 28) - 3).toNatClampNeg) (J 40 0 ((((I 24 0 28) - 3) + 1).toNatClampNeg)), G, fm_P pa pb))) rfl ?_
    refine fm_gg O rfl hp.1 ?_
    have hp := hp.2
    refine fm_gg O rfl hp ?_
    refine fm_gr O 6 (C' := (76, [(0, .inr (.inr (.inr (.inr (24, 0)))))], [], (fm_u (fm_u I 24 0 28 ((I 24 0 28) - 3)) 24 0 28 (((I 24 0 28) - 3) + 1), fm_u J 40 0 (((I 24 0 28) - 3).toNatClampNeg) (J 40 0 ((((I 24 0 28) - 3) + 1).toNatClampNeg)), fm_u G 41 0 (((I 24 0 28) - 3).toNatClampNeg) (G 41 0 ((((I 24 0 28) - 3) + 1).toNatClampNeg)), fm_P pa pb))) rfl ?_
    exact fm_gRe O rfl trivial (by first | (rw [he]; done) | (rw [he]; rfl) | rfl) (by first | (rw [he]; done) | (rw [he]; rfl) | rfl)
  · have h1 : ¬ (lg_cmp (J 40 0 ((((I 24 0 28) - 3) + 2).toNatClampNeg)) 0) = 0 := h
    have he := he.trans (if_neg h1)
    refine fm_gr O 6 (C' := (76, [(0, .inr (.inr (.inr (.inr (24, 0)))))], [], (fm_u (fm_u I 24 0 28 ((I 24 0 28) - 3)) 24 0 28 (((I 24 0 28) - 3) + 1), J, G, fm_P pa pb))) rfl ?_
    exact fm_gRe O rfl trivial (by first | (rw [he]; done) | (rw [he]; rfl) | rfl) (by first | (rw [he]; done) | (rw [he]; rfl) | rfl)
