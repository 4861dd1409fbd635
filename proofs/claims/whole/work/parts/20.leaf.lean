/-! LEAVES, by program (wip/tools/walk.py, gen_c1.py) -/
def fmF_isWithin_f (x : Int32) (mo : Int32) : Int32 :=
  if x < 0 then 0 else (if mo < x then 0 else 1)
theorem fmF_isWithin_e (x : Int32) (mo : Int32) : fmF_isWithin_f x mo = if x < 0 then 0 else (if mo < x then 0 else 1) := rfl
set_option maxRecDepth 100000 in
set_option maxHeartbeats 4000000 in
theorem fmF_isWithin_c {E : fm_Ev} (hl : E.1.stackTraces = false) {d : Nat} (hd : 0 ≤ d) (I : fm_MI) (J : fm_MJ) (G : fm_MG) (pa : Nat × Nat) (pb : Nat × Nat) (x : Int32) (mo : Int32) : fm_Ct E d fmF_isWithin 0 [.inl x, .inl mo] (I, J, G, fm_P pa pb) (some (.inl (fmF_isWithin_f x mo))) (I, J, G, fm_P pa pb) := by
  refine fm_ct fmF_isWithin_o hl (Nat.le_of_ble_eq_true rfl) ?_
  have O := fmF_isWithin_o.1
  have he := fmF_isWithin_e x mo
  refine fm_gr O 1 (C' := (1, [(0, .inl x), (1, .inl mo)], [.inl x], (I, J, G, fm_P pa pb))) rfl ?_
  refine fm_gb O rfl (fun h => ?_) (fun h => ?_)
  · have h1 : x < 0 := h
    have he := he.trans (if_pos h1)
    refine fm_gr O 1 (C' := (14, [(0, .inl x), (1, .inl mo)], [.inl 0], (I, J, G, fm_P pa pb))) rfl ?_
    exact fm_gRe O rfl (Or.inl rfl) (by first | (rw [he]; done) | (rw [he]; rfl) | rfl) (by first | (rw [he]; done) | (rw [he]; rfl) | rfl)
  · have h1 : ¬ x < 0 := h
    have he := he.trans (if_neg h1)
    refine fm_gr O 2 (C' := (6, [(0, .inl x), (1, .inl mo)], [.inl mo, .inl x], (I, J, G, fm_P pa pb))) rfl ?_
    refine fm_gb O rfl (fun h => ?_) (fun h => ?_)
    · have h2 : mo < x := h
      have he := he.trans (if_pos h2)
      refine fm_gr O 1 (C' := (14, [(0, .inl x), (1, .inl mo)], [.inl 0], (I, J, G, fm_P pa pb))) rfl ?_
      exact fm_gRe O rfl (Or.inl rfl) (by first | (rw [he]; done) | (rw [he]; rfl) | rfl) (by first | (rw [he]; done) | (rw [he]; rfl) | rfl)
    · have h2 : ¬ mo < x := h
      have he := he.trans (if_neg h2)
      refine fm_gr O 2 (C' := (14, [(0, .inl x), (1, .inl mo)], [.inl 1], (I, J, G, fm_P pa pb))) rfl ?_
      exact fm_gRe O rfl (Or.inr rfl) (by first | (rw [he]; done) | (rw [he]; rfl) | rfl) (by first | (rw [he]; done) | (rw [he]; rfl) | rfl)
def fmK_add_f (I : fm_MI) (f : Nat) (op : Int32) (aa : Int32) (rg : Int32) : Int32 × fm_MI :=
  (I 6 f 0, fm_u (fm_u (fm_u (fm_u (fm_u (fm_u (fm_u I 7 f ((I 6 f 0).toNatClampNeg) op) 8 f ((I 6 f 0).toNatClampNeg) aa) 9 f ((I 6 f 0).toNatClampNeg) rg) 10 f ((I 6 f 0).toNatClampNeg) (-1)) 11 f ((I 6 f 0).toNatClampNeg) (-1)) 12 f ((I 6 f 0).toNatClampNeg) (-1)) 6 f 0 ((I 6 f 0) + 1))
theorem fmK_add_e (I : fm_MI) (f : Nat) (op : Int32) (aa : Int32) (rg : Int32) : fmK_add_f I f op aa rg = (I 6 f 0, fm_u (fm_u (fm_u (fm_u (fm_u (fm_u (fm_u I 7 f ((I 6 f 0).toNatClampNeg) op) 8 f ((I 6 f 0).toNatClampNeg) aa) 9 f ((I 6 f 0).toNatClampNeg) rg) 10 f ((I 6 f 0).toNatClampNeg) (-1)) 11 f ((I 6 f 0).toNatClampNeg) (-1)) 12 f ((I 6 f 0).toNatClampNeg) (-1)) 6 f 0 ((I 6 f 0) + 1)) := rfl
def fmK_add_p (I : fm_MI) (f : Nat) : Prop :=
  (vp_in (I 6 f 0) 40) ∧ ((vp_in (I 6 f 0) 40) ∧ ((vp_in (I 6 f 0) 40) ∧ ((vp_in (I 6 f 0) 40) ∧ ((vp_in (I 6 f 0) 40) ∧ (vp_in (I 6 f 0) 40)))))
set_option maxRecDepth 100000 in
set_option maxHeartbeats 4000000 in
theorem fmK_add_c {E : fm_Ev} (hl : E.1.stackTraces = false) {d : Nat} (hd : 0 ≤ d) (I : fm_MI) (J : fm_MJ) (G : fm_MG) (pa : Nat × Nat) (pb : Nat × Nat) (f : Nat) (op : Int32) (aa : Int32) (rg : Int32) (hp : fmK_add_p I f) : fm_Ct E d fmK_add 0 [.inr (.inr (.inr (.inr (6, f)))), .inl op, .inl aa, .inl rg] (I, J, G, fm_P pa pb) (some (.inl ((fmK_add_f I f op aa rg).1))) ((fmK_add_f I f op aa rg).2, J, G, fm_P pa pb) := by
  refine fm_ct fmK_add_o hl (Nat.le_of_ble_eq_true rfl) ?_
  have O := fmK_add_o.1
  unfold fmK_add_p at hp
  have he := fmK_add_e I f op aa rg
  refine fm_gr O 7 (C' := (13, [(4, .inl (I 6 f 0)), (0, .inr (.inr (.inr (.inr (6, f))))), (1, .inl op), (2, .inl aa), (3, .inl rg)], [.inl op, .inl (I 6 f 0), .inr (.inr (.inr (.inr (7, f))))], (I, J, G, fm_P pa pb))) rfl ?_
  refine fm_gg O rfl hp.1 ?_
  have hp := hp.2
  refine fm_gr O 4 (C' := (21, [(4, .inl (I 6 f 0)), (0, .inr (.inr (.inr (.inr (6, f))))), (1, .inl op), (2, .inl aa), (3, .inl rg)], [.inl aa, .inl (I 6 f 0), .inr (.inr (.inr (.inr (8, f))))], (fm_u I 7 f ((I 6 f 0).toNatClampNeg) op, J, G, fm_P pa pb))) rfl ?_
  refine fm_gg O rfl hp.1 ?_
  have hp := hp.2
  refine fm_gr O 4 (C' := (29, [(4, .inl (I 6 f 0)), (0, .inr (.inr (.inr (.inr (6, f))))), (1, .inl op), (2, .inl aa), (3, .inl rg)], [.inl rg, .inl (I 6 f 0), .inr (.inr (.inr (.inr (9, f))))], (fm_u (fm_u I 7 f ((I 6 f 0).toNatClampNeg) op) 8 f ((I 6 f 0).toNatClampNeg) aa, J, G, fm_P pa pb))) rfl ?_
  refine fm_gg O rfl hp.1 ?_
  have hp := hp.2
  refine fm_gr O 4 (C' := (37, [(4, .inl (I 6 f 0)), (0, .inr (.inr (.inr (.inr (6, f))))), (1, .inl op), (2, .inl aa), (3, .inl rg)], [.inl (-1), .inl (I 6 f 0), .inr (.inr (.inr (.inr (10, f))))], (fm_u (fm_u (fm_u I 7 f ((I 6 f 0).toNatClampNeg) op) 8 f ((I 6 f 0).toNatClampNeg) aa) 9 f ((I 6 f 0).toNatClampNeg) rg, J, G, fm_P pa pb))) rfl ?_
  refine fm_gg O rfl hp.1 ?_
  have hp := hp.2
  refine fm_gr O 4 (C' := (45, [(4, .inl (I 6 f 0)), (0, .inr (.inr (.inr (.inr (6, f))))), (1, .inl op), (2, .inl aa), (3, .inl rg)], [.inl (-1), .inl (I 6 f 0), .inr (.inr (.inr (.inr (11, f))))], (fm_u (fm_u (fm_u (fm_u I 7 f ((I 6 f 0).toNatClampNeg) op) 8 f ((I 6 f 0).toNatClampNeg) aa) 9 f ((I 6 f 0).toNatClampNeg) rg) 10 f ((I 6 f 0).toNatClampNeg) (-1), J, G, fm_P pa pb))) rfl ?_
  refine fm_gg O rfl hp.1 ?_
  have hp := hp.2
  refine fm_gr O 4 (C' := (53, [(4, .inl (I 6 f 0)), (0, .inr (.inr (.inr (.inr (6, f))))), (1, .inl op), (2, .inl aa), (3, .inl rg)], [.inl (-1), .inl (I 6 f 0), .inr (.inr (.inr (.inr (12, f))))], (fm_u (fm_u (fm_u (fm_u (fm_u I 7 f ((I 6 f 0).toNatClampNeg) op) 8 f ((I 6 f 0).toNatClampNeg) aa) 9 f ((I 6 f 0).toNatClampNeg) rg) 10 f ((I 6 f 0).toNatClampNeg) (-1)) 11 f ((I 6 f 0).toNatClampNeg) (-1), J, G, fm_P pa pb))) rfl ?_
  refine fm_gg O rfl hp ?_
  refine fm_gr O 7 (C' := (66, [(4, .inl (I 6 f 0)), (0, .inr (.inr (.inr (.inr (6, f))))), (1, .inl op), (2, .inl aa), (3, .inl rg)], [.inl (I 6 f 0)], (fm_u (fm_u (fm_u (fm_u (fm_u (fm_u (fm_u I 7 f ((I 6 f 0).toNatClampNeg) op) 8 f ((I 6 f 0).toNatClampNeg) aa) 9 f ((I 6 f 0).toNatClampNeg) rg) 10 f ((I 6 f 0).toNatClampNeg) (-1)) 11 f ((I 6 f 0).toNatClampNeg) (-1)) 12 f ((I 6 f 0).toNatClampNeg) (-1)) 6 f 0 ((I 6 f 0) + 1), J, G, fm_P pa pb))) rfl ?_
  exact fm_gRe O rfl trivial (by first | (rw [he]; done) | (rw [he]; rfl) | rfl) (by first | (rw [he]; done) | (rw [he]; rfl) | rfl)
def fmK_sendHere_f (I : fm_MI) (f : Nat) (rw : Int32) : fm_MI :=
  if rw = (-1) then I else (fm_u I 11 f rw.toNatClampNeg (I 6 f 0))
theorem fmK_sendHere_e (I : fm_MI) (f : Nat) (rw : Int32) : fmK_sendHere_f I f rw = if rw = (-1) then I else (fm_u I 11 f rw.toNatClampNeg (I 6 f 0)) := rfl
def fmK_sendHere_p (rw : Int32) : Prop :=
  (rw = (-1) → True) ∧ (¬ rw = (-1) → vp_in rw 40)
set_option maxRecDepth 100000 in
set_option maxHeartbeats 4000000 in
theorem fmK_sendHere_c {E : fm_Ev} (hl : E.1.stackTraces = false) {d : Nat} (hd : 0 ≤ d) (I : fm_MI) (J : fm_MJ) (G : fm_MG) (pa : Nat × Nat) (pb : Nat × Nat) (f : Nat) (rw : Int32) (hp : fmK_sendHere_p rw) : fm_Ct E d fmK_sendHere 0 [.inr (.inr (.inr (.inr (6, f)))), .inl rw] (I, J, G, fm_P pa pb) none (fmK_sendHere_f I f rw, J, G, fm_P pa pb) := by
  refine fm_ct fmK_sendHere_o hl (Nat.le_of_ble_eq_true rfl) ?_
  have O := fmK_sendHere_o.1
  unfold fmK_sendHere_p at hp
  have he := fmK_sendHere_e I f rw
  refine fm_gr O 2 (C' := (2, [(0, .inr (.inr (.inr (.inr (6, f))))), (1, .inl rw)], [.inl (-1), .inl rw], (I, J, G, fm_P pa pb))) rfl ?_
  refine fm_gb O rfl (fun h => ?_) (fun h => ?_)
  · have h1 : rw = (-1) := h
    have he := he.trans (if_pos h1)
    exact fm_gRe O rfl trivial (by first | (rw [he]; done) | (rw [he]; rfl) | rfl) (by first | (rw [he]; done) | (rw [he]; rfl) | rfl)
  · have h1 : ¬ rw = (-1) := h
    have he := he.trans (if_neg h1)
    have hp := hp.2 h1
    refine fm_gr O 5 (C' := (14, [(0, .inr (.inr (.inr (.inr (6, f))))), (1, .inl rw)], [.inl (I 6 f 0), .inl rw, .inr (.inr (.inr (.inr (11, f))))], (I, J, G, fm_P pa pb))) rfl ?_
    refine fm_gg O rfl hp ?_
    exact fm_gRe O rfl trivial (by first | (rw [he]; done) | (rw [he]; rfl) | rfl) (by first | (rw [he]; done) | (rw [he]; rfl) | rfl)
def fmR_open_f (I : fm_MI) (i : Nat) (kd : Int32) (gv : Int32) (hg : Int32) (rw : Int32) (lv : Int32) : fm_MI :=
  fm_u (fm_u (fm_u (fm_u (fm_u (fm_u (fm_u I 17 i 0 kd) 17 i 1 gv) 17 i 2 hg) 17 i 3 rw) 17 i 4 (-1)) 17 i 5 lv) 17 i 6 0
theorem fmR_open_e (I : fm_MI) (i : Nat) (kd : Int32) (gv : Int32) (hg : Int32) (rw : Int32) (lv : Int32) : fmR_open_f I i kd gv hg rw lv = fm_u (fm_u (fm_u (fm_u (fm_u (fm_u (fm_u I 17 i 0 kd) 17 i 1 gv) 17 i 2 hg) 17 i 3 rw) 17 i 4 (-1)) 17 i 5 lv) 17 i 6 0 := rfl
def fmR_open_p (lv : Int32) : Prop :=
  lv = 0 ∨ lv = 1
set_option maxRecDepth 100000 in
set_option maxHeartbeats 4000000 in
theorem fmR_open_c {E : fm_Ev} (hl : E.1.stackTraces = false) {d : Nat} (hd : 0 ≤ d) (I : fm_MI) (J : fm_MJ) (G : fm_MG) (pa : Nat × Nat) (pb : Nat × Nat) (i : Nat) (kd : Int32) (gv : Int32) (hg : Int32) (rw : Int32) (lv : Int32) (hp : fmR_open_p lv) : fm_Ct E d fmR_open 0 [.inr (.inr (.inr (.inr (17, i)))), .inl kd, .inl gv, .inl hg, .inl rw, .inl lv] (I, J, G, fm_P pa pb) none (fmR_open_f I i kd gv hg rw lv, J, G, fm_P pa pb) := by
  refine fm_ct fmR_open_o hl (Nat.le_of_ble_eq_true rfl) ?_
  have O := fmR_open_o.1
  unfold fmR_open_p at hp
  have he := fmR_open_e I i kd gv hg rw lv
  refine fm_gr O 17 (C' := (29, [(0, .inr (.inr (.inr (.inr (17, i))))), (1, .inl kd), (2, .inl gv), (3, .inl hg), (4, .inl rw), (5, .inl lv)], [.inl lv, .inr (.inr (.inr (.inr (17, i))))], (fm_u (fm_u (fm_u (fm_u (fm_u I 17 i 0 kd) 17 i 1 gv) 17 i 2 hg) 17 i 3 rw) 17 i 4 (-1), J, G, fm_P pa pb))) rfl ?_
  refine fm_gg O rfl hp ?_
  refine fm_gr O 2 (C' := (34, [(0, .inr (.inr (.inr (.inr (17, i))))), (1, .inl kd), (2, .inl gv), (3, .inl hg), (4, .inl rw), (5, .inl lv)], [.inl 0, .inr (.inr (.inr (.inr (17, i))))], (fm_u (fm_u (fm_u (fm_u (fm_u (fm_u I 17 i 0 kd) 17 i 1 gv) 17 i 2 hg) 17 i 3 rw) 17 i 4 (-1)) 17 i 5 lv, J, G, fm_P pa pb))) rfl ?_
  refine fm_gg O rfl (Or.inl rfl) ?_
  exact fm_gRe O rfl trivial (by first | (rw [he]; done) | (rw [he]; rfl) | rfl) (by first | (rw [he]; done) | (rw [he]; rfl) | rfl)
def fmR_neededByJump_f (I : fm_MI) (i : Nat) : Int32 :=
  if (I 17 i 0) = 22 then 4 else (I 17 i 1)
theorem fmR_neededByJump_e (I : fm_MI) (i : Nat) : fmR_neededByJump_f I i = if (I 17 i 0) = 22 then 4 else (I 17 i 1) := rfl
set_option maxRecDepth 100000 in
set_option maxHeartbeats 4000000 in
theorem fmR_neededByJump_c {E : fm_Ev} (hl : E.1.stackTraces = false) {d : Nat} (hd : 0 ≤ d) (I : fm_MI) (J : fm_MJ) (G : fm_MG) (pa : Nat × Nat) (pb : Nat × Nat) (i : Nat) : fm_Ct E d fmR_neededByJump 0 [.inr (.inr (.inr (.inr (17, i))))] (I, J, G, fm_P pa pb) (some (.inl (fmR_neededByJump_f I i))) (I, J, G, fm_P pa pb) := by
  refine fm_ct fmR_neededByJump_o hl (Nat.le_of_ble_eq_true rfl) ?_
  have O := fmR_neededByJump_o.1
  have he := fmR_neededByJump_e I i
  refine fm_gr O 3 (C' := (6, [(0, .inr (.inr (.inr (.inr (17, i)))))], [.inl 22, .inl (I 17 i 0)], (I, J, G, fm_P pa pb))) rfl ?_
  refine fm_gb O rfl (fun h => ?_) (fun h => ?_)
  · have h1 : (I 17 i 0) = 22 := h
    have he := he.trans (if_pos h1)
    refine fm_gr O 2 (C' := (17, [(0, .inr (.inr (.inr (.inr (17, i)))))], [.inl 4], (I, J, G, fm_P pa pb))) rfl ?_
    exact fm_gRe O rfl trivial (by first | (rw [he]; done) | (rw [he]; rfl) | rfl) (by first | (rw [he]; done) | (rw [he]; rfl) | rfl)
  · have h1 : ¬ (I 17 i 0) = 22 := h
    have he := he.trans (if_neg h1)
    refine fm_gr O 2 (C' := (17, [(0, .inr (.inr (.inr (.inr (17, i)))))], [.inl (I 17 i 1)], (I, J, G, fm_P pa pb))) rfl ?_
    exact fm_gRe O rfl trivial (by first | (rw [he]; done) | (rw [he]; rfl) | rfl) (by first | (rw [he]; done) | (rw [he]; rfl) | rfl)
def fmU_append_f (I : fm_MI) (f : Nat) (op : Int32) (aa : Int32) : fm_MI :=
  fm_u (fm_u (fm_u I 4 f ((I 2 f 4).toNatClampNeg) op) 5 f ((I 2 f 4).toNatClampNeg) aa) 2 f 4 ((I 2 f 4) + 1)
theorem fmU_append_e (I : fm_MI) (f : Nat) (op : Int32) (aa : Int32) : fmU_append_f I f op aa = fm_u (fm_u (fm_u I 4 f ((I 2 f 4).toNatClampNeg) op) 5 f ((I 2 f 4).toNatClampNeg) aa) 2 f 4 ((I 2 f 4) + 1) := rfl
def fmU_append_p (I : fm_MI) (f : Nat) : Prop :=
  (vp_in (I 2 f 4) 40) ∧ (vp_in (I 2 f 4) 40)
set_option maxRecDepth 100000 in
set_option maxHeartbeats 4000000 in
theorem fmU_append_c {E : fm_Ev} (hl : E.1.stackTraces = false) {d : Nat} (hd : 0 ≤ d) (I : fm_MI) (J : fm_MJ) (G : fm_MG) (pa : Nat × Nat) (pb : Nat × Nat) (f : Nat) (op : Int32) (aa : Int32) (hp : fmU_append_p I f) : fm_Ct E d fmU_append 0 [.inr (.inr (.inr (.inr (2, f)))), .inl op, .inl aa] (I, J, G, fm_P pa pb) none (fmU_append_f I f op aa, J, G, fm_P pa pb) := by
  refine fm_ct fmU_append_o hl (Nat.le_of_ble_eq_true rfl) ?_
  have O := fmU_append_o.1
  unfold fmU_append_p at hp
  have he := fmU_append_e I f op aa
  refine fm_gr O 5 (C' := (9, [(0, .inr (.inr (.inr (.inr (2, f))))), (1, .inl op), (2, .inl aa)], [.inl op, .inl (I 2 f 4), .inr (.inr (.inr (.inr (4, f))))], (I, J, G, fm_P pa pb))) rfl ?_
  refine fm_gg O rfl hp.1 ?_
  have hp := hp.2
  refine fm_gr O 5 (C' := (19, [(0, .inr (.inr (.inr (.inr (2, f))))), (1, .inl op), (2, .inl aa)], [.inl aa, .inl (I 2 f 4), .inr (.inr (.inr (.inr (5, f))))], (fm_u I 4 f ((I 2 f 4).toNatClampNeg) op, J, G, fm_P pa pb))) rfl ?_
  refine fm_gg O rfl hp ?_
  refine fm_gr O 6 (C' := (30, [(0, .inr (.inr (.inr (.inr (2, f))))), (1, .inl op), (2, .inl aa)], [], (fm_u (fm_u (fm_u I 4 f ((I 2 f 4).toNatClampNeg) op) 5 f ((I 2 f 4).toNatClampNeg) aa) 2 f 4 ((I 2 f 4) + 1), J, G, fm_P pa pb))) rfl ?_
  exact fm_gRe O rfl trivial (by first | (rw [he]; done) | (rw [he]; rfl) | rfl) (by first | (rw [he]; done) | (rw [he]; rfl) | rfl)
def fmC_subject_p (I : fm_MI) : Prop :=
  vp_in (I 13 0 1) 4
set_option maxRecDepth 100000 in
set_option maxHeartbeats 4000000 in
theorem fmC_subject_c {E : fm_Ev} (hl : E.1.stackTraces = false) {d : Nat} (hd : 0 ≤ d) (I : fm_MI) (J : fm_MJ) (G : fm_MG) (pb : Nat × Nat) (hp : fmC_subject_p I) : fm_Ct E d fmC_subject 0 [.inr (.inr (.inr (.inr (13, 0))))] (I, J, G, fm_P (1, 0) pb) (some (.inr (.inr (.inr (.inr (2, (I 13 0 1).toNatClampNeg)))))) (I, J, G, fm_P (1, 0) pb) := by
  refine fm_ct fmC_subject_o hl (Nat.le_of_ble_eq_true rfl) ?_
  have O := fmC_subject_o.1
  unfold fmC_subject_p at hp
  have he : True := trivial
  refine fm_gr O 4 (C' := (8, [(0, .inr (.inr (.inr (.inr (13, 0)))))], [.inl (I 13 0 1), .inr (.inr (.inr (.inr (1, 0))))], (I, J, G, fm_P (1, 0) pb))) rfl ?_
  refine fm_gg O rfl hp ?_
  exact fm_gRe O rfl trivial rfl rfl
def fmC_isLive_f (I : fm_MI) : Int32 :=
  if (I 17 ((I 13 0 6).toNatClampNeg) 5) = 0 then 0 else (if (I 17 ((I 13 0 6).toNatClampNeg) 6) = 0 then 1 else 0)
theorem fmC_isLive_e (I : fm_MI) : fmC_isLive_f I = if (I 17 ((I 13 0 6).toNatClampNeg) 5) = 0 then 0 else (if (I 17 ((I 13 0 6).toNatClampNeg) 6) = 0 then 1 else 0) := rfl
def fmC_isLive_p (I : fm_MI) : Prop :=
  (vp_in (I 13 0 6) 9) ∧ (((I 17 ((I 13 0 6).toNatClampNeg) 5) = 0 → True) ∧ (¬ (I 17 ((I 13 0 6).toNatClampNeg) 5) = 0 → vp_in (I 13 0 6) 9))
set_option maxRecDepth 100000 in
set_option maxHeartbeats 4000000 in
theorem fmC_isLive_c {E : fm_Ev} (hl : E.1.stackTraces = false) {d : Nat} (hd : 0 ≤ d) (I : fm_MI) (J : fm_MJ) (G : fm_MG) (pb : Nat × Nat) (hp : fmC_isLive_p I) : fm_Ct E d fmC_isLive 0 [.inr (.inr (.inr (.inr (13, 0))))] (I, J, G, fm_P (1, 0) pb) (some (.inl (fmC_isLive_f I))) (I, J, G, fm_P (1, 0) pb) := by
  refine fm_ct fmC_isLive_o hl (Nat.le_of_ble_eq_true rfl) ?_
  have O := fmC_isLive_o.1
  unfold fmC_isLive_p at hp
  have he := fmC_isLive_e I
  refine fm_gr O 4 (C' := (8, [(0, .inr (.inr (.inr (.inr (13, 0)))))], [.inl (I 13 0 6), .inr (.inr (.inr (.inr (16, 0))))], (I, J, G, fm_P (1, 0) pb))) rfl ?_
  refine fm_gg O rfl hp.1 ?_
  have hp := hp.2
  refine fm_gr O 1 (C' := (12, [(0, .inr (.inr (.inr (.inr (13, 0)))))], [.inl (I 17 ((I 13 0 6).toNatClampNeg) 5)], (I, J, G, fm_P (1, 0) pb))) rfl ?_
  refine fm_gb O rfl (fun h => ?_) (fun h => ?_)
  · have h1 : (I 17 ((I 13 0 6).toNatClampNeg) 5) = 0 := h
    have he := he.trans (if_pos h1)
    refine fm_gr O 1 (C' := (35, [(0, .inr (.inr (.inr (.inr (13, 0)))))], [.inl 0], (I, J, G, fm_P (1, 0) pb))) rfl ?_
    exact fm_gRe O rfl (Or.inl rfl) (by first | (rw [he]; done) | (rw [he]; rfl) | rfl) (by first | (rw [he]; done) | (rw [he]; rfl) | rfl)
  · have h1 : ¬ (I 17 ((I 13 0 6).toNatClampNeg) 5) = 0 := h
    have he := he.trans (if_neg h1)
    have hp := hp.2 h1
    refine fm_gr O 4 (C' := (23, [(0, .inr (.inr (.inr (.inr (13, 0)))))], [.inl (I 13 0 6), .inr (.inr (.inr (.inr (16, 0))))], (I, J, G, fm_P (1, 0) pb))) rfl ?_
    refine fm_gg O rfl hp ?_
    refine fm_gr O 1 (C' := (27, [(0, .inr (.inr (.inr (.inr (13, 0)))))], [.inl (I 17 ((I 13 0 6).toNatClampNeg) 6)], (I, J, G, fm_P (1, 0) pb))) rfl ?_
    refine fm_gb O rfl (fun h => ?_) (fun h => ?_)
    · have h2 : (I 17 ((I 13 0 6).toNatClampNeg) 6) = 0 := h
      have he := he.trans (if_pos h2)
      refine fm_gr O 2 (C' := (35, [(0, .inr (.inr (.inr (.inr (13, 0)))))], [.inl 1], (I, J, G, fm_P (1, 0) pb))) rfl ?_
      exact fm_gRe O rfl (Or.inr rfl) (by first | (rw [he]; done) | (rw [he]; rfl) | rfl) (by first | (rw [he]; done) | (rw [he]; rfl) | rfl)
    · have h2 : ¬ (I 17 ((I 13 0 6).toNatClampNeg) 6) = 0 := h
      have he := he.trans (if_neg h2)
      refine fm_gr O 1 (C' := (35, [(0, .inr (.inr (.inr (.inr (13, 0)))))], [.inl 0], (I, J, G, fm_P (1, 0) pb))) rfl ?_
      exact fm_gRe O rfl (Or.inl rfl) (by first | (rw [he]; done) | (rw [he]; rfl) | rfl) (by first | (rw [he]; done) | (rw [he]; rfl) | rfl)
def fmC_die_f (I : fm_MI) : fm_MI :=
  fm_u (fm_u I 13 0 4 (I 17 ((I 13 0 6).toNatClampNeg) 2)) 17 ((I 13 0 6).toNatClampNeg) 6 1
theorem fmC_die_e (I : fm_MI) : fmC_die_f I = fm_u (fm_u I 13 0 4 (I 17 ((I 13 0 6).toNatClampNeg) 2)) 17 ((I 13 0 6).toNatClampNeg) 6 1 := rfl
def fmC_die_p (I : fm_MI) : Prop :=
  (vp_in (I 13 0 6) 9) ∧ (vp_in (I 13 0 6) 9)
set_option maxRecDepth 100000 in
set_option maxHeartbeats 4000000 in
theorem fmC_die_c {E : fm_Ev} (hl : E.1.stackTraces = false) {d : Nat} (hd : 0 ≤ d) (I : fm_MI) (J : fm_MJ) (G : fm_MG) (pb : Nat × Nat) (hp : fmC_die_p I) : fm_Ct E d fmC_die 0 [.inr (.inr (.inr (.inr (13, 0))))] (I, J, G, fm_P (1, 0) pb) none (fmC_die_f I, J, G, fm_P (1, 0) pb) := by
  refine fm_ct fmC_die_o hl (Nat.le_of_ble_eq_true rfl) ?_
  have O := fmC_die_o.1
  unfold fmC_die_p at hp
  have he := fmC_die_e I
  refine fm_gr O 5 (C' := (9, [(0, .inr (.inr (.inr (.inr (13, 0)))))], [.inl (I 13 0 6), .inr (.inr (.inr (.inr (16, 0)))), .inr (.inr (.inr (.inr (13, 0))))], (I, J, G, fm_P (1, 0) pb))) rfl ?_
  refine fm_gg O rfl hp.1 ?_
  have hp := hp.2
  refine fm_gr O 6 (C' := (24, [(0, .inr (.inr (.inr (.inr (13, 0)))))], [.inl (I 13 0 6), .inr (.inr (.inr (.inr (16, 0))))], (fm_u I 13 0 4 (I 17 ((I 13 0 6).toNatClampNeg) 2), J, G, fm_P (1, 0) pb))) rfl ?_
  refine fm_gg O rfl hp ?_
  refine fm_gr O 1 (C' := (26, [(0, .inr (.inr (.inr (.inr (13, 0)))))], [.inl 1, .inr (.inr (.inr (.inr (17, (I 13 0 6).toNatClampNeg))))], (fm_u I 13 0 4 (I 17 ((I 13 0 6).toNatClampNeg) 2), J, G, fm_P (1, 0) pb))) rfl ?_
  refine fm_gg O rfl (Or.inr rfl) ?_
  exact fm_gRe O rfl trivial (by first | (rw [he]; done) | (rw [he]; rfl) | rfl) (by first | (rw [he]; done) | (rw [he]; rfl) | rfl)
def fmC_take_f (I : fm_MI) (w : Int32) : Int32 × fm_MI :=
  if (I 13 0 2) = 0 then (if w = 4 then ((w, I)) else (if (I 13 0 4) = (I 17 ((I 13 0 6).toNatClampNeg) 2) then (if (I 17 ((I 13 0 6).toNatClampNeg) 6) = 0 then ((w, fm_u I 13 0 2 2)) else ((w, I))) else (if (I 15 0 (((I 13 0 4) - 1).toNatClampNeg)) = 5 then ((w, fm_u I 13 0 4 ((I 13 0 4) - 1))) else (if w = 5 then ((I 15 0 (((I 13 0 4) - 1).toNatClampNeg), fm_u I 13 0 4 ((I 13 0 4) - 1))) else (if w = (I 15 0 (((I 13 0 4) - 1).toNatClampNeg)) then ((I 15 0 (((I 13 0 4) - 1).toNatClampNeg), fm_u I 13 0 4 ((I 13 0 4) - 1))) else ((I 15 0 (((I 13 0 4) - 1).toNatClampNeg), fm_u (fm_u I 13 0 4 ((I 13 0 4) - 1)) 13 0 2 3))))))) else ((w, I))
theorem fmC_take_e (I : fm_MI) (w : Int32) : fmC_take_f I w = if (I 13 0 2) = 0 then (if w = 4 then ((w, I)) else (if (I 13 0 4) = (I 17 ((I 13 0 6).toNatClampNeg) 2) then (if (I 17 ((I 13 0 6).toNatClampNeg) 6) = 0 then ((w, fm_u I 13 0 2 2)) else ((w, I))) else (if (I 15 0 (((I 13 0 4) - 1).toNatClampNeg)) = 5 then ((w, fm_u I 13 0 4 ((I 13 0 4) - 1))) else (if w = 5 then ((I 15 0 (((I 13 0 4) - 1).toNatClampNeg), fm_u I 13 0 4 ((I 13 0 4) - 1))) else (if w = (I 15 0 (((I 13 0 4) - 1).toNatClampNeg)) then ((I 15 0 (((I 13 0 4) - 1).toNatClampNeg), fm_u I 13 0 4 ((I 13 0 4) - 1))) else ((I 15 0 (((I 13 0 4) - 1).toNatClampNeg), fm_u (fm_u I 13 0 4 ((I 13 0 4) - 1)) 13 0 2 3))))))) else ((w, I)) := rfl
def fmC_take_p (I : fm_MI) (w : Int32) : Prop :=
  ((I 13 0 2) = 0 → (w = 4 → True) ∧ (¬ w = 4 → (vp_in (I 13 0 6) 9) ∧ (((I 13 0 4) = (I 17 ((I 13 0 6).toNatClampNeg) 2) → vp_in (I 13 0 6) 9) ∧ (¬ (I 13 0 4) = (I 17 ((I 13 0 6).toNatClampNeg) 2) → vp_in ((I 13 0 4) - 1) 20)))) ∧ (¬ (I 13 0 2) = 0 → True)
set_option maxRecDepth 100000 in
set_option maxHeartbeats 4000000 in
theorem fmC_take_c {E : fm_Ev} (hl : E.1.stackTraces = false) {d : Nat} (hd : 0 ≤ d) (I : fm_MI) (J : fm_MJ) (G : fm_MG) (pb : Nat × Nat) (w : Int32) (hp : fmC_take_p I w) : fm_Ct E d fmC_take 0 [.inr (.inr (.inr (.inr (13, 0)))), .inl w] (I, J, G, fm_P (1, 0) pb) (some (.inl ((fmC_take_f I w).1))) ((fmC_take_f I w).2, J, G, fm_P (1, 0) pb) := by
  refine fm_ct fmC_take_o hl (Nat.le_of_ble_eq_true rfl) ?_
  have O := fmC_take_o.1
  unfold fmC_take_p at hp
  have he := fmC_take_e I w
  refine fm_gr O 2 (C' := (4, [(0, .inr (.inr (.inr (.inr (13, 0))))), (1, .inl w)], [.inl (I 13 0 2)], (I, J, G, fm_P (1, 0) pb))) rfl ?_
  refine fm_gb O rfl (fun h => ?_) (fun h => ?_)
  · have h1 : (I 13 0 2) = 0 := h
    have he := he.trans (if_pos h1)
    have hp := hp.1 h1
    refine fm_gr O 2 (C' := (9, [(0, .inr (.inr (.inr (.inr (13, 0))))), (1, .inl w)], [.inl 4, .inl w], (I, J, G, fm_P (1, 0) pb))) rfl ?_
    refine fm_gb O rfl (fun h => ?_) (fun h => ?_)
    · have h2 : w = 4 := h
      have he := he.trans (if_pos h2)
      refine fm_gr O 1 (C' := (13, [(0, .inr (.inr (.inr (.inr (13, 0))))), (1, .inl w)], [.inl w], (I, J, G, fm_P (1, 0) pb))) rfl ?_
      exact fm_gRe O rfl trivial (by first | (rw [he]; done) | (rw [he]; rfl) | rfl) (by first | (rw [he]; done) | (rw [he]; rfl) | rfl)
    · have h2 : ¬ w = 4 := h
      have he := he.trans (if_neg h2)
      have hp := hp.2 h2
      refine fm_gr O 6 (C' := (26, [(0, .inr (.inr (.inr (.inr (13, 0))))), (1, .inl w)], [.inl (I 13 0 6), .inr (.inr (.inr (.inr (16, 0)))), .inl (I 13 0 4)], (I, J, G, fm_P (1, 0) pb))) rfl ?_
      refine fm_gg O rfl hp.1 ?_
      have hp := hp.2
      refine fm_gr O 1 (C' := (30, [(0, .inr (.inr (.inr (.inr (13, 0))))), (1, .inl w)], [.inl (I 17 ((I 13 0 6).toNatClampNeg) 2), .inl (I 13 0 4)], (I, J, G, fm_P (1, 0) pb))) rfl ?_
      refine fm_gb O rfl (fun h => ?_) (fun h => ?_)
      · have h3 : (I 13 0 4) = (I 17 ((I 13 0 6).toNatClampNeg) 2) := h
        have he := he.trans (if_pos h3)
        have hp := hp.1 h3
        refine fm_gr O 4 (C' := (41, [(0, .inr (.inr (.inr (.inr (13, 0))))), (1, .inl w)], [.inl (I 13 0 6), .inr (.inr (.inr (.inr (16, 0))))], (I, J, G, fm_P (1, 0) pb))) rfl ?_
        refine fm_gg O rfl hp ?_
        refine fm_gr O 1 (C' := (45, [(0, .inr (.inr (.inr (.inr (13, 0))))), (1, .inl w)], [.inl (I 17 ((I 13 0 6).toNatClampNeg) 6)], (I, J, G, fm_P (1, 0) pb))) rfl ?_
        refine fm_gb O rfl (fun h => ?_) (fun h => ?_)
        · have h4 : (I 17 ((I 13 0 6).toNatClampNeg) 6) = 0 := h
          have he := he.trans (if_pos h4)
          refine fm_gr O 4 (C' := (54, [(0, .inr (.inr (.inr (.inr (13, 0))))), (1, .inl w)], [.inl w], (fm_u I 13 0 2 2, J, G, fm_P (1, 0) pb))) rfl ?_
          exact fm_gRe O rfl trivial (by first | (rw [he]; done) | (rw [he]; rfl) | rfl) (by first | (rw [he]; done) | (rw [he]; rfl) | rfl)
        · have h4 : ¬ (I 17 ((I 13 0 6).toNatClampNeg) 6) = 0 := h
          have he := he.trans (if_neg h4)
          refine fm_gr O 1 (C' := (54, [(0, .inr (.inr (.inr (.inr (13, 0))))), (1, .inl w)], [.inl w], (I, J, G, fm_P (1, 0) pb))) rfl ?_
          exact fm_gRe O rfl trivial (by first | (rw [he]; done) | (rw [he]; rfl) | rfl) (by first | (rw [he]; done) | (rw [he]; rfl) | rfl)
      · have h3 : ¬ (I 13 0 4) = (I 17 ((I 13 0 6).toNatClampNeg) 2) := h
        have he := he.trans (if_neg h3)
        have hp := hp.2 h3
        refine fm_gr O 10 (C' := (73, [(0, .inr (.inr (.inr (.inr (13, 0))))), (1, .inl w)], [.inl ((I 13 0 4) - 1), .inr (.inr (.inr (.inr (15, 0))))], (fm_u I 13 0 4 ((I 13 0 4) - 1), J, G, fm_P (1, 0) pb))) rfl ?_
        refine fm_gg O rfl hp ?_
        refine fm_gr O 3 (C' := (77, [(2, .inl (I 15 0 (((I 13 0 4) - 1).toNatClampNeg))), (0, .inr (.inr (.inr (.inr (13, 0))))), (1, .inl w)], [.inl 5, .inl (I 15 0 (((I 13 0 4) - 1).toNatClampNeg))], (fm_u I 13 0 4 ((I 13 0 4) - 1), J, G, fm_P (1, 0) pb))) rfl ?_
        refine fm_gb O rfl (fun h => ?_) (fun h => ?_)
        · have h4 : (I 15 0 (((I 13 0 4) - 1).toNatClampNeg)) = 5 := h
          have he := he.trans (if_pos h4)
          refine fm_gr O 1 (C' := (81, [(2, .inl (I 15 0 (((I 13 0 4) - 1).toNatClampNeg))), (0, .inr (.inr (.inr (.inr (13, 0))))), (1, .inl w)], [.inl w], (fm_u I 13 0 4 ((I 13 0 4) - 1), J, G, fm_P (1, 0) pb))) rfl ?_
          exact fm_gRe O rfl trivial (by first | (rw [he]; done) | (rw [he]; rfl) | rfl) (by first | (rw [he]; done) | (rw [he]; rfl) | rfl)
        · have h4 : ¬ (I 15 0 (((I 13 0 4) - 1).toNatClampNeg)) = 5 := h
          have he := he.trans (if_neg h4)
          refine fm_gr O 2 (C' := (84, [(2, .inl (I 15 0 (((I 13 0 4) - 1).toNatClampNeg))), (0, .inr (.inr (.inr (.inr (13, 0))))), (1, .inl w)], [.inl 5, .inl w], (fm_u I 13 0 4 ((I 13 0 4) - 1), J, G, fm_P (1, 0) pb))) rfl ?_
          refine fm_gb O rfl (fun h => ?_) (fun h => ?_)
          · have h5 : w = 5 := h
            have he := he.trans (if_pos h5)
            refine fm_gr O 1 (C' := (98, [(2, .inl (I 15 0 (((I 13 0 4) - 1).toNatClampNeg))), (0, .inr (.inr (.inr (.inr (13, 0))))), (1, .inl w)], [.inl (I 15 0 (((I 13 0 4) - 1).toNatClampNeg))], (fm_u I 13 0 4 ((I 13 0 4) - 1), J, G, fm_P (1, 0) pb))) rfl ?_
            exact fm_gRe O rfl trivial (by first | (rw [he]; done) | (rw [he]; rfl) | rfl) (by first | (rw [he]; done) | (rw [he]; rfl) | rfl)
          · have h5 : ¬ w = 5 := h
            have he := he.trans (if_neg h5)
            refine fm_gr O 2 (C' := (89, [(2, .inl (I 15 0 (((I 13 0 4) - 1).toNatClampNeg))), (0, .inr (.inr (.inr (.inr (13, 0))))), (1, .inl w)], [.inl (I 15 0 (((I 13 0 4) - 1).toNatClampNeg)), .inl w], (fm_u I 13 0 4 ((I 13 0 4) - 1), J, G, fm_P (1, 0) pb))) rfl ?_
            refine fm_gb O rfl (fun h => ?_) (fun h => ?_)
            · have h6 : w = (I 15 0 (((I 13 0 4) - 1).toNatClampNeg)) := h
              have he := he.trans (if_pos h6)
              refine fm_gr O 1 (C' := (98, [(2, .inl (I 15 0 (((I 13 0 4) - 1).toNatClampNeg))), (0, .inr (.inr (.inr (.inr (13, 0))))), (1, .inl w)], [.inl (I 15 0 (((I 13 0 4) - 1).toNatClampNeg))], (fm_u I 13 0 4 ((I 13 0 4) - 1), J, G, fm_P (1, 0) pb))) rfl ?_
              exact fm_gRe O rfl trivial (by first | (rw [he]; done) | (rw [he]; rfl) | rfl) (by first | (rw [he]; done) | (rw [he]; rfl) | rfl)
            · have h6 : ¬ w = (I 15 0 (((I 13 0 4) - 1).toNatClampNeg)) := h
              have he := he.trans (if_neg h6)
              refine fm_gr O 4 (C' := (98, [(2, .inl (I 15 0 (((I 13 0 4) - 1).toNatClampNeg))), (0, .inr (.inr (.inr (.inr (13, 0))))), (1, .inl w)], [.inl (I 15 0 (((I 13 0 4) - 1).toNatClampNeg))], (fm_u (fm_u I 13 0 4 ((I 13 0 4) - 1)) 13 0 2 3, J, G, fm_P (1, 0) pb))) rfl ?_
              exact fm_gRe O rfl trivial (by first | (rw [he]; done) | (rw [he]; rfl) | rfl) (by first | (rw [he]; done) | (rw [he]; rfl) | rfl)
  · have h1 : ¬ (I 13 0 2) = 0 := h
    have he := he.trans (if_neg h1)
    refine fm_gr O 1 (C' := (13, [(0, .inr (.inr (.inr (.inr (13, 0))))), (1, .inl w)], [.inl w], (I, J, G, fm_P (1, 0) pb))) rfl ?_
    exact fm_gRe O rfl trivial (by first | (rw [he]; done) | (rw [he]; rfl) | rfl) (by first | (rw [he]; done) | (rw [he]; rfl) | rfl)
def fmC_put_f (I : fm_MI) (t : Int32) : fm_MI :=
  if (I 13 0 2) = 0 then (if t = 4 then I else (if (I 13 0 4) = 20 then (fm_u I 13 0 2 7) else (fm_u (fm_u I 15 0 ((I 13 0 4).toNatClampNeg) t) 13 0 4 ((I 13 0 4) + 1)))) else I
theorem fmC_put_e (I : fm_MI) (t : Int32) : fmC_put_f I t = if (I 13 0 2) = 0 then (if t = 4 then I else (if (I 13 0 4) = 20 then (fm_u I 13 0 2 7) else (fm_u (fm_u I 15 0 ((I 13 0 4).toNatClampNeg) t) 13 0 4 ((I 13 0 4) + 1)))) else I := rfl
def fmC_put_p (I : fm_MI) (t : Int32) : Prop :=
  ((I 13 0 2) = 0 → (t = 4 → True) ∧ (¬ t = 4 → ((I 13 0 4) = 20 → True) ∧ (¬ (I 13 0 4) = 20 → vp_in (I 13 0 4) 20))) ∧ (¬ (I 13 0 2) = 0 → True)
set_option maxRecDepth 100000 in
set_option maxHeartbeats 4000000 in
theorem fmC_put_c {E : fm_Ev} (hl : E.1.stackTraces = false) {d : Nat} (hd : 0 ≤ d) (I : fm_MI) (J : fm_MJ) (G : fm_MG) (pb : Nat × Nat) (t : Int32) (hp : fmC_put_p I t) : fm_Ct E d fmC_put 0 [.inr (.inr (.inr (.inr (13, 0)))), .inl t] (I, J, G, fm_P (1, 0) pb) none (fmC_put_f I t, J, G, fm_P (1, 0) pb) := by
  refine fm_ct fmC_put_o hl (Nat.le_of_ble_eq_true rfl) ?_
  have O := fmC_put_o.1
  unfold fmC_put_p at hp
  have he := fmC_put_e I t
  refine fm_gr O 2 (C' := (4, [(0, .inr (.inr (.inr (.inr (13, 0))))), (1, .inl t)], [.inl (I 13 0 2)], (I, J, G, fm_P (1, 0) pb))) rfl ?_
  refine fm_gb O rfl (fun h => ?_) (fun h => ?_)
  · have h1 : (I 13 0 2) = 0 := h
    have he := he.trans (if_pos h1)
    have hp := hp.1 h1
    refine fm_gr O 2 (C' := (9, [(0, .inr (.inr (.inr (.inr (13, 0))))), (1, .inl t)], [.inl 4, .inl t], (I, J, G, fm_P (1, 0) pb))) rfl ?_
    refine fm_gb O rfl (fun h => ?_) (fun h => ?_)
    · have h2 : t = 4 := h
      have he := he.trans (if_pos h2)
      exact fm_gRe O rfl trivial (by first | (rw [he]; done) | (rw [he]; rfl) | rfl) (by first | (rw [he]; done) | (rw [he]; rfl) | rfl)
    · have h2 : ¬ t = 4 := h
      have he := he.trans (if_neg h2)
      have hp := hp.2 h2
      refine fm_gr O 3 (C' := (19, [(0, .inr (.inr (.inr (.inr (13, 0))))), (1, .inl t)], [.inl 20, .inl (I 13 0 4)], (I, J, G, fm_P (1, 0) pb))) rfl ?_
      refine fm_gb O rfl (fun h => ?_) (fun h => ?_)
      · have h3 : (I 13 0 4) = 20 := h
        have he := he.trans (if_pos h3)
        refine fm_gr O 3 (C' := (28, [(0, .inr (.inr (.inr (.inr (13, 0))))), (1, .inl t)], [], (fm_u I 13 0 2 7, J, G, fm_P (1, 0) pb))) rfl ?_
        exact fm_gRe O rfl trivial (by first | (rw [he]; done) | (rw [he]; rfl) | rfl) (by first | (rw [he]; done) | (rw [he]; rfl) | rfl)
      · have h3 : ¬ (I 13 0 4) = 20 := h
        have he := he.trans (if_neg h3)
        have hp := hp.2 h3
        refine fm_gr O 5 (C' := (38, [(0, .inr (.inr (.inr (.inr (13, 0))))), (1, .inl t)], [.inl t, .inl (I 13 0 4), .inr (.inr (.inr (.inr (15, 0))))], (I, J, G, fm_P (1, 0) pb))) rfl ?_
        refine fm_gg O rfl hp ?_
        refine fm_gr O 6 (C' := (49, [(0, .inr (.inr (.inr (.inr (13, 0))))), (1, .inl t)], [], (fm_u (fm_u I 15 0 ((I 13 0 4).toNatClampNeg) t) 13 0 4 ((I 13 0 4) + 1), J, G, fm_P (1, 0) pb))) rfl ?_
        exact fm_gRe O rfl trivial (by first | (rw [he]; done) | (rw [he]; rfl) | rfl) (by first | (rw [he]; done) | (rw [he]; rfl) | rfl)
  · have h1 : ¬ (I 13 0 2) = 0 := h
    have he := he.trans (if_neg h1)
    exact fm_gRe O rfl trivial (by first | (rw [he]; done) | (rw [he]; rfl) | rfl) (by first | (rw [he]; done) | (rw [he]; rfl) | rfl)
def fmC_addRow_f (I : fm_MI) (op : Int32) (aa : Int32) : Int32 × fm_MI :=
  fm_let (fmC_isLive_f I) (fun (r1 : Int32) => if r1 = 0 then ((-1, I)) else (fm_let (fmK_add_f I ((I 13 0 1).toNatClampNeg) op aa ((I 2 ((I 13 0 1).toNatClampNeg) 2) + (I 13 0 4))) (fun (r2 : Int32 × fm_MI) => (r2.1, r2.2))))
theorem fmC_addRow_e (I : fm_MI) (op : Int32) (aa : Int32) : fmC_addRow_f I op aa = fm_let (fmC_isLive_f I) (fun (r1 : Int32) => if r1 = 0 then ((-1, I)) else (fm_let (fmK_add_f I ((I 13 0 1).toNatClampNeg) op aa ((I 2 ((I 13 0 1).toNatClampNeg) 2) + (I 13 0 4))) (fun (r2 : Int32 × fm_MI) => (r2.1, r2.2)))) := rfl
def fmC_addRow_p (I : fm_MI) : Prop :=
  fmC_isLive_p I ∧ (fm_let (fmC_isLive_f I) (fun (r1 : Int32) => (r1 = 0 → True) ∧ (¬ r1 = 0 → fmC_subject_p I ∧ (fmC_subject_p I ∧ (fmK_add_p I ((I 13 0 1).toNatClampNeg))))))
set_option maxRecDepth 100000 in
set_option maxHeartbeats 4000000 in
theorem fmC_addRow_c {E : fm_Ev} (hl : E.1.stackTraces = false) {d : Nat} (hd : 1 ≤ d) (I : fm_MI) (J : fm_MJ) (G : fm_MG) (pb : Nat × Nat) (op : Int32) (aa : Int32) (hp : fmC_addRow_p I) : fm_Ct E d fmC_addRow 0 [.inr (.inr (.inr (.inr (13, 0)))), .inl op, .inl aa] (I, J, G, fm_P (1, 0) pb) (some (.inl ((fmC_addRow_f I op aa).1))) ((fmC_addRow_f I op aa).2, J, G, fm_P (1, 0) pb) := by
  obtain ⟨d, rfl⟩ : ∃ d', d = d' + 1 := ⟨d - 1, by omega⟩
  refine fm_ct fmC_addRow_o hl (Nat.le_of_ble_eq_true rfl) ?_
  have O := fmC_addRow_o.1
  unfold fmC_addRow_p at hp
  have he := fmC_addRow_e I op aa
  refine fm_gr O 1 (C' := (1, [(0, .inr (.inr (.inr (.inr (13, 0))))), (1, .inl op), (2, .inl aa)], [.inr (.inr (.inr (.inr (13, 0))))], (I, J, G, fm_P (1, 0) pb))) rfl ?_
  have hc := hp.1
  have hp := hp.2
  have K := fmC_isLive_c (d := d) hl (by omega) I J G pb hc
  generalize er1 : fmC_isLive_f I = r1 at he hp
  have he := he.trans (fm_letE _ _)
  have hp := fm_letP hp
  rw [er1] at K
  refine fm_cV0 O fmC_isLive_o (i := 0) (as := []) (rest := []) (v := some (.inl r1)) rfl fk_1_125 rfl (by decide) fn_C_isLive (Nat.le_of_ble_eq_true rfl) (K) ?_
  refine fm_gb O rfl (fun h => ?_) (fun h => ?_)
  · have h1 : r1 = 0 := h
    have he := he.trans (if_pos h1)
    refine fm_gr O 1 (C' := (35, [(0, .inr (.inr (.inr (.inr (13, 0))))), (1, .inl op), (2, .inl aa)], [.inl (-1)], (I, J, G, fm_P (1, 0) pb))) rfl ?_
    exact fm_gRe O rfl trivial (by first | (rw [he]; done) | (rw [he]; rfl) | rfl) (by first | (rw [he]; done) | (rw [he]; rfl) | rfl)
  · have h1 : ¬ r1 = 0 := h
    have he := he.trans (if_neg h1)
    have hp := hp.2 h1
    refine fm_gr O 1 (C' := (8, [(0, .inr (.inr (.inr (.inr (13, 0))))), (1, .inl op), (2, .inl aa)], [.inr (.inr (.inr (.inr (13, 0))))], (I, J, G, fm_P (1, 0) pb))) rfl ?_
    have hc := hp.1
    have hp := hp.2
    have K := fmC_subject_c (d := d) hl (by omega) I J G pb hc
    refine fm_cV0 O fmC_subject_o (i := 0) (as := []) (rest := []) (v := some (.inr (.inr (.inr (.inr (2, (I 13 0 1).toNatClampNeg)))))) rfl fk_1_41 rfl (by decide) fn_C_subject (Nat.le_of_ble_eq_true rfl) (K) ?_
    refine fm_gr O 4 (C' := (17, [(0, .inr (.inr (.inr (.inr (13, 0))))), (1, .inl op), (2, .inl aa)], [.inr (.inr (.inr (.inr (13, 0)))), .inl aa, .inl op, .inr (.inr (.inr (.inr (6, (I 13 0 1).toNatClampNeg))))], (I, J, G, fm_P (1, 0) pb))) rfl ?_
    have hc := hp.1
    have hp := hp.2
    have K := fmC_subject_c (d := d) hl (by omega) I J G pb hc
    refine fm_cV0 O fmC_subject_o (i := 0) (as := []) (rest := [.inl aa, .inl op, .inr (.inr (.inr (.inr (6, (I 13 0 1).toNatClampNeg))))]) (v := some (.inr (.inr (.inr (.inr (2, (I 13 0 1).toNatClampNeg)))))) rfl fk_1_41 rfl (by decide) fn_C_subject (Nat.le_of_ble_eq_true rfl) (K) ?_
    refine fm_gr O 4 (C' := (28, [(0, .inr (.inr (.inr (.inr (13, 0))))), (1, .inl op), (2, .inl aa)], [.inl ((I 2 ((I 13 0 1).toNatClampNeg) 2) + (I 13 0 4)), .inl aa, .inl op, .inr (.inr (.inr (.inr (6, (I 13 0 1).toNatClampNeg))))], (I, J, G, fm_P (1, 0) pb))) rfl ?_
    have K := fmK_add_c (d := d) hl (by omega) I J G ((1, 0)) pb ((I 13 0 1).toNatClampNeg) op aa ((I 2 ((I 13 0 1).toNatClampNeg) 2) + (I 13 0 4)) hp
    generalize er2 : fmK_add_f I ((I 13 0 1).toNatClampNeg) op aa ((I 2 ((I 13 0 1).toNatClampNeg) 2) + (I 13 0 4)) = r2 at he
    have he := he.trans (fm_letE _ _)
    rw [er2] at K
    refine fm_cV0 O fmK_add_o (i := (I 13 0 1).toNatClampNeg) (as := [.inl op, .inl aa, .inl ((I 2 ((I 13 0 1).toNatClampNeg) 2) + (I 13 0 4))]) (rest := []) (v := some (.inl r2.1)) rfl fk_1_181 rfl (by decide) fn_K_add (Nat.le_of_ble_eq_true rfl) (K) ?_
    refine fm_gr O 1 (C' := (35, [(0, .inr (.inr (.inr (.inr (13, 0))))), (1, .inl op), (2, .inl aa)], [.inl r2.1], (r2.2, J, G, fm_P (1, 0) pb))) rfl ?_
    exact fm_gRe O rfl trivial (by first | (rw [he]; done) | (rw [he]; rfl) | rfl) (by first | (rw [he]; done) | (rw [he]; rfl) | rfl)
