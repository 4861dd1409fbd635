/-! THE REFERENCE, by program (wip/tools/walk.py, gen_c3.py) -/
def fmD_thrown_f (I : fm_MI) : Int32 :=
  I 24 0 18
theorem fmD_thrown_e (I : fm_MI) : fmD_thrown_f I = I 24 0 18 := rfl
set_option maxRecDepth 100000 in
set_option maxHeartbeats 4000000 in
theorem fmD_thrown_c {E : fm_Ev} (hl : E.1.stackTraces = false) {d : Nat} (hd : 0 ≤ d) (I : fm_MI) (J : fm_MJ) (G : fm_MG) (pa : Nat × Nat) (pb : Nat × Nat) : fm_Ct E d fmD_thrown 0 [.inr (.inr (.inr (.inr (24, 0))))] (I, J, G, fm_P pa pb) (some (.inl (fmD_thrown_f I))) (I, J, G, fm_P pa pb) := by
  refine fm_ct fmD_thrown_o hl (Nat.le_of_ble_eq_true rfl) ?_
  have O := fmD_thrown_o.1
  have he := fmD_thrown_e I
  refine fm_gr O 2 (C' := (4, [(0, .inr (.inr (.inr (.inr (24, 0)))))], [.inl (I 24 0 18)], (I, J, G, fm_P pa pb))) rfl ?_
  exact fm_gRe O rfl trivial (by first | (rw [he]; done) | (rw [he]; rfl) | rfl) (by first | (rw [he]; done) | (rw [he]; rfl) | rfl)
def fmD_in_f (v : Int32) (lo : Int32) (hi : Int32) : Int32 :=
  if v < lo then 0 else (if hi < v then 0 else 1)
theorem fmD_in_e (v : Int32) (lo : Int32) (hi : Int32) : fmD_in_f v lo hi = if v < lo then 0 else (if hi < v then 0 else 1) := rfl
set_option maxRecDepth 100000 in
set_option maxHeartbeats 4000000 in
theorem fmD_in_c {E : fm_Ev} (hl : E.1.stackTraces = false) {d : Nat} (hd : 0 ≤ d) (I : fm_MI) (J : fm_MJ) (G : fm_MG) (pa : Nat × Nat) (pb : Nat × Nat) (v : Int32) (lo : Int32) (hi : Int32) : fm_Ct E d fmD_in 0 [.inl v, .inl lo, .inl hi] (I, J, G, fm_P pa pb) (some (.inl (fmD_in_f v lo hi))) (I, J, G, fm_P pa pb) := by
  refine fm_ct fmD_in_o hl (Nat.le_of_ble_eq_true rfl) ?_
  have O := fmD_in_o.1
  have he := fmD_in_e v lo hi
  refine fm_gr O 2 (C' := (2, [(0, .inl v), (1, .inl lo), (2, .inl hi)], [.inl lo, .inl v], (I, J, G, fm_P pa pb))) rfl ?_
  refine fm_gb O rfl (fun h => ?_) (fun h => ?_)
  · have h1 : v < lo := h
    have he := he.trans (if_pos h1)
    refine fm_gr O 1 (C' := (15, [(0, .inl v), (1, .inl lo), (2, .inl hi)], [.inl 0], (I, J, G, fm_P pa pb))) rfl ?_
    exact fm_gRe O rfl (Or.inl rfl) (by first | (rw [he]; done) | (rw [he]; rfl) | rfl) (by first | (rw [he]; done) | (rw [he]; rfl) | rfl)
  · have h1 : ¬ v < lo := h
    have he := he.trans (if_neg h1)
    refine fm_gr O 2 (C' := (7, [(0, .inl v), (1, .inl lo), (2, .inl hi)], [.inl hi, .inl v], (I, J, G, fm_P pa pb))) rfl ?_
    refine fm_gb O rfl (fun h => ?_) (fun h => ?_)
    · have h2 : hi < v := h
      have he := he.trans (if_pos h2)
      refine fm_gr O 1 (C' := (15, [(0, .inl v), (1, .inl lo), (2, .inl hi)], [.inl 0], (I, J, G, fm_P pa pb))) rfl ?_
      exact fm_gRe O rfl (Or.inl rfl) (by first | (rw [he]; done) | (rw [he]; rfl) | rfl) (by first | (rw [he]; done) | (rw [he]; rfl) | rfl)
    · have h2 : ¬ hi < v := h
      have he := he.trans (if_neg h2)
      refine fm_gr O 2 (C' := (15, [(0, .inl v), (1, .inl lo), (2, .inl hi)], [.inl 1], (I, J, G, fm_P pa pb))) rfl ?_
      exact fm_gRe O rfl (Or.inr rfl) (by first | (rw [he]; done) | (rw [he]; rfl) | rfl) (by first | (rw [he]; done) | (rw [he]; rfl) | rfl)
def fmD_bad_f (I : fm_MI) (fine : Int32) : Int32 × fm_MI :=
  if fine = 0 then ((1, fm_u I 24 0 18 1)) else ((0, fm_u I 24 0 18 0))
theorem fmD_bad_e (I : fm_MI) (fine : Int32) : fmD_bad_f I fine = if fine = 0 then ((1, fm_u I 24 0 18 1)) else ((0, fm_u I 24 0 18 0)) := rfl
set_option maxRecDepth 100000 in
set_option maxHeartbeats 4000000 in
theorem fmD_bad_c {E : fm_Ev} (hl : E.1.stackTraces = false) {d : Nat} (hd : 0 ≤ d) (I : fm_MI) (J : fm_MJ) (G : fm_MG) (pa : Nat × Nat) (pb : Nat × Nat) (fine : Int32) : fm_Ct E d fmD_bad 0 [.inr (.inr (.inr (.inr (24, 0)))), .inl fine] (I, J, G, fm_P pa pb) (some (.inl ((fmD_bad_f I fine).1))) ((fmD_bad_f I fine).2, J, G, fm_P pa pb) := by
  refine fm_ct fmD_bad_o hl (Nat.le_of_ble_eq_true rfl) ?_
  have O := fmD_bad_o.1
  have he := fmD_bad_e I fine
  refine fm_gr O 2 (C' := (2, [(0, .inr (.inr (.inr (.inr (24, 0))))), (1, .inl fine)], [.inl fine, .inr (.inr (.inr (.inr (24, 0))))], (I, J, G, fm_P pa pb))) rfl ?_
  refine fm_gb O rfl (fun h => ?_) (fun h => ?_)
  · have h1 : fine = 0 := h
    have he := he.trans (if_pos h1)
    refine fm_gr O 3 (C' := (14, [(0, .inr (.inr (.inr (.inr (24, 0))))), (1, .inl fine)], [.inl fine], (fm_u I 24 0 18 1, J, G, fm_P pa pb))) rfl ?_
    refine fm_gb O rfl (fun h => ?_) (fun h => ?_)
    rotate_left
    · exact absurd h1 h
    · refine fm_gr O 2 (C' := (22, [(0, .inr (.inr (.inr (.inr (24, 0))))), (1, .inl fine)], [.inl 1], (fm_u I 24 0 18 1, J, G, fm_P pa pb))) rfl ?_
      exact fm_gRe O rfl (Or.inr rfl) (by first | (rw [he]; done) | (rw [he]; rfl) | rfl) (by first | (rw [he]; done) | (rw [he]; rfl) | rfl)
  · have h1 : ¬ fine = 0 := h
    have he := he.trans (if_neg h1)
    refine fm_gr O 4 (C' := (14, [(0, .inr (.inr (.inr (.inr (24, 0))))), (1, .inl fine)], [.inl fine], (fm_u I 24 0 18 0, J, G, fm_P pa pb))) rfl ?_
    refine fm_gb O rfl (fun h => ?_) (fun h => ?_)
    · exact absurd h h1
    · refine fm_gr O 1 (C' := (22, [(0, .inr (.inr (.inr (.inr (24, 0))))), (1, .inl fine)], [.inl 0], (fm_u I 24 0 18 0, J, G, fm_P pa pb))) rfl ?_
      exact fm_gRe O rfl (Or.inl rfl) (by first | (rw [he]; done) | (rw [he]; rfl) | rfl) (by first | (rw [he]; done) | (rw [he]; rfl) | rfl)
def fmD_isFunction_f (I : fm_MI) (f : Int32) : Int32 :=
  fm_let (fmD_in_f f 0 3) (fun (r1 : Int32) => if r1 = 0 then 0 else (if (I 32 0 f.toNatClampNeg) = 0 then 0 else 1))
theorem fmD_isFunction_e (I : fm_MI) (f : Int32) : fmD_isFunction_f I f = fm_let (fmD_in_f f 0 3) (fun (r1 : Int32) => if r1 = 0 then 0 else (if (I 32 0 f.toNatClampNeg) = 0 then 0 else 1)) := rfl
def fmD_isFunction_p (f : Int32) : Prop :=
  fm_let (fmD_in_f f 0 3) (fun (r1 : Int32) => (r1 = 0 → True) ∧ (¬ r1 = 0 → vp_in f 4))
set_option maxRecDepth 100000 in
set_option maxHeartbeats 4000000 in
theorem fmD_isFunction_c {E : fm_Ev} (hl : E.1.stackTraces = false) {d : Nat} (hd : 1 ≤ d) (I : fm_MI) (J : fm_MJ) (G : fm_MG) (pa : Nat × Nat) (pb : Nat × Nat) (f : Int32) (hp : fmD_isFunction_p f) : fm_Ct E d fmD_isFunction 0 [.inr (.inr (.inr (.inr (24, 0)))), .inl f] (I, J, G, fm_P pa pb) (some (.inl (fmD_isFunction_f I f))) (I, J, G, fm_P pa pb) := by
  obtain ⟨d, rfl⟩ : ∃ d', d = d' + 1 := ⟨d - 1, by omega⟩
  refine fm_ct fmD_isFunction_o hl (Nat.le_of_ble_eq_true rfl) ?_
  have O := fmD_isFunction_o.1
  unfold fmD_isFunction_p at hp
  have he := fmD_isFunction_e I f
  refine fm_gr O 3 (C' := (3, [(0, .inr (.inr (.inr (.inr (24, 0))))), (1, .inl f)], [.inl 3, .inl 0, .inl f], (I, J, G, fm_P pa pb))) rfl ?_
  have K := fmD_in_c (d := d) hl (by omega) I J G pa pb f 0 3
  generalize er1 : fmD_in_f f 0 3 = r1 at he hp
  have he := he.trans (fm_letE _ _)
  have hp := fm_letP hp
  rw [er1] at K
  refine fm_cS0 O fmD_in_o (as := [.inl f, .inl 0, .inl 3]) (rest := []) (v := some (.inl r1)) rfl fk_6_86 fn_D_in (Nat.le_of_ble_eq_true rfl) (K) ?_
  refine fm_gb O rfl (fun h => ?_) (fun h => ?_)
  · have h1 : r1 = 0 := h
    have he := he.trans (if_pos h1)
    refine fm_gr O 1 (C' := (23, [(0, .inr (.inr (.inr (.inr (24, 0))))), (1, .inl f)], [.inl 0], (I, J, G, fm_P pa pb))) rfl ?_
    exact fm_gRe O rfl (Or.inl rfl) (by first | (rw [he]; done) | (rw [he]; rfl) | rfl) (by first | (rw [he]; done) | (rw [he]; rfl) | rfl)
  · have h1 : ¬ r1 = 0 := h
    have he := he.trans (if_neg h1)
    have hp := hp.2 h1
    refine fm_gr O 3 (C' := (14, [(0, .inr (.inr (.inr (.inr (24, 0))))), (1, .inl f)], [.inl f, .inr (.inr (.inr (.inr (32, 0))))], (I, J, G, fm_P pa pb))) rfl ?_
    refine fm_gg O rfl hp ?_
    refine fm_gb O rfl (fun h => ?_) (fun h => ?_)
    · have h2 : (I 32 0 f.toNatClampNeg) = 0 := h
      have he := he.trans (if_pos h2)
      refine fm_gr O 1 (C' := (23, [(0, .inr (.inr (.inr (.inr (24, 0))))), (1, .inl f)], [.inl 0], (I, J, G, fm_P pa pb))) rfl ?_
      exact fm_gRe O rfl (Or.inl rfl) (by first | (rw [he]; done) | (rw [he]; rfl) | rfl) (by first | (rw [he]; done) | (rw [he]; rfl) | rfl)
    · have h2 : ¬ (I 32 0 f.toNatClampNeg) = 0 := h
      have he := he.trans (if_neg h2)
      refine fm_gr O 2 (C' := (23, [(0, .inr (.inr (.inr (.inr (24, 0))))), (1, .inl f)], [.inl 1], (I, J, G, fm_P pa pb))) rfl ?_
      exact fm_gRe O rfl (Or.inr rfl) (by first | (rw [he]; done) | (rw [he]; rfl) | rfl) (by first | (rw [he]; done) | (rw [he]; rfl) | rfl)
def fmD_function_L91_f : Nat → fm_MI → fm_MJ → fm_MG → (Nat × Nat) → (Nat × Nat) → Int32 → Int32 → Int32 → Int32 → Int32 → Int32 → fm_MI
  | 0, I, J, G, pa, pb, y1, y2, y3, y4, y5, y6 => I
  | n + 1, I, J, G, pa, pb, y1, y2, y3, y4, y5, y6 => if (y2 + y3) ≤ y6 then (fm_u I 24 0 19 0) else (fmD_function_L91_f n (fm_u I 30 0 (((y1 * 6) + y6).toNatClampNeg) ((y4 >>> ((2 * y6) &&& 31)) &&& 3)) J G pa pb y1 y2 y3 y4 y5 (y6 + 1))
theorem fmD_function_L91_e (n : Nat) (I : fm_MI) (J : fm_MJ) (G : fm_MG) (pa : Nat × Nat) (pb : Nat × Nat) (y1 : Int32) (y2 : Int32) (y3 : Int32) (y4 : Int32) (y5 : Int32) (y6 : Int32) : fmD_function_L91_f (n + 1) I J G pa pb y1 y2 y3 y4 y5 y6 = if (y2 + y3) ≤ y6 then (fm_u I 24 0 19 0) else (fmD_function_L91_f n (fm_u I 30 0 (((y1 * 6) + y6).toNatClampNeg) ((y4 >>> ((2 * y6) &&& 31)) &&& 3)) J G pa pb y1 y2 y3 y4 y5 (y6 + 1)) := rfl
def fmD_function_L91_p : Nat → fm_MI → fm_MJ → fm_MG → (Nat × Nat) → (Nat × Nat) → Int32 → Int32 → Int32 → Int32 → Int32 → Int32 → Prop
  | 0, I, J, G, pa, pb, y1, y2, y3, y4, y5, y6 => False
  | n + 1, I, J, G, pa, pb, y1, y2, y3, y4, y5, y6 => ((y2 + y3) ≤ y6 → True) ∧ (¬ (y2 + y3) ≤ y6 → (vp_in ((y1 * 6) + y6) 24) ∧ (fmD_function_L91_p n (fm_u I 30 0 (((y1 * 6) + y6).toNatClampNeg) ((y4 >>> ((2 * y6) &&& 31)) &&& 3)) J G pa pb y1 y2 y3 y4 y5 (y6 + 1)))
theorem fmD_function_L91_q (n : Nat) (I : fm_MI) (J : fm_MJ) (G : fm_MG) (pa : Nat × Nat) (pb : Nat × Nat) (y1 : Int32) (y2 : Int32) (y3 : Int32) (y4 : Int32) (y5 : Int32) (y6 : Int32) : fmD_function_L91_p (n + 1) I J G pa pb y1 y2 y3 y4 y5 y6 = (((y2 + y3) ≤ y6 → True) ∧ (¬ (y2 + y3) ≤ y6 → (vp_in ((y1 * 6) + y6) 24) ∧ (fmD_function_L91_p n (fm_u I 30 0 (((y1 * 6) + y6).toNatClampNeg) ((y4 >>> ((2 * y6) &&& 31)) &&& 3)) J G pa pb y1 y2 y3 y4 y5 (y6 + 1)))) := rfl
set_option maxRecDepth 100000 in
set_option maxHeartbeats 4000000 in
theorem fmD_function_L91_c {E : fm_Ev} (hl : E.1.stackTraces = false) {d : Nat} (hd : 1 ≤ d + 1) (n : Nat) : ∀ (I : fm_MI) (J : fm_MJ) (G : fm_MG) (pa : Nat × Nat) (pb : Nat × Nat) (y1 : Int32) (y2 : Int32) (y3 : Int32) (y4 : Int32) (y5 : Int32) (y6 : Int32), fmD_function_L91_p n I J G pa pb y1 y2 y3 y4 y5 y6 → fm_Go E (d + 1) fmD_function 0 (91, [(0, .inr (.inr (.inr (.inr (24, 0))))), (1, .inl y1), (2, .inl y2), (3, .inl y3), (4, .inl y4), (5, .inl y5), (6, .inl y6)], [], (I, J, G, fm_P pa pb)) (fm_Zr E none (fmD_function_L91_f n I J G pa pb y1 y2 y3 y4 y5 y6, J, G, fm_P pa pb)) := by
  have O := fmD_function_o.1
  induction n with
  | zero => intro I J G pa pb y1 y2 y3 y4 y5 y6 hp; exact hp.elim
  | succ n ih =>
    intro I J G pa pb y1 y2 y3 y4 y5 y6 hp
    rw [fmD_function_L91_q] at hp
    have he := fmD_function_L91_e n I J G pa pb y1 y2 y3 y4 y5 y6
    refine fm_gr O 4 (C' := (96, [(0, .inr (.inr (.inr (.inr (24, 0))))), (1, .inl y1), (2, .inl y2), (3, .inl y3), (4, .inl y4), (5, .inl y5), (6, .inl y6)], [.inl (y2 + y3), .inl y6], (I, J, G, fm_P pa pb))) rfl ?_
    refine fm_gb O rfl (fun h => ?_) (fun h => ?_)
    · have h1 : (y2 + y3) ≤ y6 := h
      have he := he.trans (if_pos h1)
      refine fm_gr O 2 (C' := (128, [(0, .inr (.inr (.inr (.inr (24, 0))))), (1, .inl y1), (2, .inl y2), (3, .inl y3), (4, .inl y4), (5, .inl y5), (6, .inl y6)], [.inl 0, .inr (.inr (.inr (.inr (24, 0))))], (I, J, G, fm_P pa pb))) rfl ?_
      refine fm_gg O rfl (Or.inl rfl) ?_
      exact fm_gRe O rfl trivial (by first | (rw [he]; done) | (rw [he]; rfl) | rfl) (by first | (rw [he]; done) | (rw [he]; rfl) | rfl)
    · have h1 : ¬ (y2 + y3) ≤ y6 := h
      have he := he.trans (if_neg h1)
      have hp := hp.2 h1
      refine fm_gr O 14 (C' := (119, [(0, .inr (.inr (.inr (.inr (24, 0))))), (1, .inl y1), (2, .inl y2), (3, .inl y3), (4, .inl y4), (5, .inl y5), (6, .inl y6)], [.inl ((y4 >>> ((2 * y6) &&& 31)) &&& 3), .inl ((y1 * 6) + y6), .inr (.inr (.inr (.inr (30, 0))))], (I, J, G, fm_P pa pb))) rfl ?_
      refine fm_gg O rfl hp.1 ?_
      have hp := hp.2
      refine fm_gr O 2 (C' := (91, [(6, .inl (y6 + 1)), (0, .inr (.inr (.inr (.inr (24, 0))))), (1, .inl y1), (2, .inl y2), (3, .inl y3), (4, .inl y4), (5, .inl y5)], [], (fm_u I 30 0 (((y1 * 6) + y6).toNatClampNeg) ((y4 >>> ((2 * y6) &&& 31)) &&& 3), J, G, fm_P pa pb))) rfl ?_
      refine fm_gL O [1, 2, 3, 4, 5, 6, 0] rfl ?_
      rw [he]
      exact ih (fm_u I 30 0 (((y1 * 6) + y6).toNatClampNeg) ((y4 >>> ((2 * y6) &&& 31)) &&& 3)) J G pa pb y1 y2 y3 y4 y5 (y6 + 1) hp
def fmD_function_f (I : fm_MI) (J : fm_MJ) (G : fm_MG) (pa : Nat × Nat) (pb : Nat × Nat) (f : Int32) (n : Int32) (m : Int32) (tp : Int32) (rs : Int32) : fm_MI :=
  fm_let (fmD_in_f f 0 3) (fun (r1 : Int32) => if r1 = 0 then (fm_let (fmD_bad_f I 0) (fun (r2 : Int32 × fm_MI) => if r2.1 = 0 then (fmD_function_L91_f 7 (fm_u (fm_u (fm_u (fm_u (fm_u r2.2 32 0 f.toNatClampNeg 1) 28 0 f.toNatClampNeg n) 29 0 f.toNatClampNeg (n + m)) 27 0 f.toNatClampNeg 0) 31 0 f.toNatClampNeg rs) J G pa pb f n m tp rs 0) else r2.2)) else (fm_let (fmD_in_f n 0 3) (fun (r3 : Int32) => if r3 = 0 then (fm_let (fmD_bad_f I 0) (fun (r4 : Int32 × fm_MI) => if r4.1 = 0 then (fmD_function_L91_f 7 (fm_u (fm_u (fm_u (fm_u (fm_u r4.2 32 0 f.toNatClampNeg 1) 28 0 f.toNatClampNeg n) 29 0 f.toNatClampNeg (n + m)) 27 0 f.toNatClampNeg 0) 31 0 f.toNatClampNeg rs) J G pa pb f n m tp rs 0) else r4.2)) else (fm_let (fmD_in_f m 0 3) (fun (r5 : Int32) => if r5 = 0 then (fm_let (fmD_bad_f I 0) (fun (r6 : Int32 × fm_MI) => if r6.1 = 0 then (fmD_function_L91_f 7 (fm_u (fm_u (fm_u (fm_u (fm_u r6.2 32 0 f.toNatClampNeg 1) 28 0 f.toNatClampNeg n) 29 0 f.toNatClampNeg (n + m)) 27 0 f.toNatClampNeg 0) 31 0 f.toNatClampNeg rs) J G pa pb f n m tp rs 0) else r6.2)) else (fm_let (fmD_in_f rs 0 4) (fun (r7 : Int32) => if r7 = 0 then (fm_let (fmD_bad_f I 0) (fun (r8 : Int32 × fm_MI) => if r8.1 = 0 then (fmD_function_L91_f 7 (fm_u (fm_u (fm_u (fm_u (fm_u r8.2 32 0 f.toNatClampNeg 1) 28 0 f.toNatClampNeg n) 29 0 f.toNatClampNeg (n + m)) 27 0 f.toNatClampNeg 0) 31 0 f.toNatClampNeg rs) J G pa pb f n m tp rs 0) else r8.2)) else (fm_let (fmD_bad_f I 1) (fun (r9 : Int32 × fm_MI) => if r9.1 = 0 then (fmD_function_L91_f 7 (fm_u (fm_u (fm_u (fm_u (fm_u r9.2 32 0 f.toNatClampNeg 1) 28 0 f.toNatClampNeg n) 29 0 f.toNatClampNeg (n + m)) 27 0 f.toNatClampNeg 0) 31 0 f.toNatClampNeg rs) J G pa pb f n m tp rs 0) else r9.2)))))))))
theorem fmD_function_e (I : fm_MI) (J : fm_MJ) (G : fm_MG) (pa : Nat × Nat) (pb : Nat × Nat) (f : Int32) (n : Int32) (m : Int32) (tp : Int32) (rs : Int32) : fmD_function_f I J G pa pb f n m tp rs = fm_let (fmD_in_f f 0 3) (fun (r1 : Int32) => if r1 = 0 then (fm_let (fmD_bad_f I 0) (fun (r2 : Int32 × fm_MI) => if r2.1 = 0 then (fmD_function_L91_f 7 (fm_u (fm_u (fm_u (fm_u (fm_u r2.2 32 0 f.toNatClampNeg 1) 28 0 f.toNatClampNeg n) 29 0 f.toNatClampNeg (n + m)) 27 0 f.toNatClampNeg 0) 31 0 f.toNatClampNeg rs) J G pa pb f n m tp rs 0) else r2.2)) else (fm_let (fmD_in_f n 0 3) (fun (r3 : Int32) => if r3 = 0 then (fm_let (fmD_bad_f I 0) (fun (r4 : Int32 × fm_MI) => if r4.1 = 0 then (fmD_function_L91_f 7 (fm_u (fm_u (fm_u (fm_u (fm_u r4.2 32 0 f.toNatClampNeg 1) 28 0 f.toNatClampNeg n) 29 0 f.toNatClampNeg (n + m)) 27 0 f.toNatClampNeg 0) 31 0 f.toNatClampNeg rs) J G pa pb f n m tp rs 0) else r4.2)) else (fm_let (fmD_in_f m 0 3) (fun (r5 : Int32) => if r5 = 0 then (fm_let (fmD_bad_f I 0) (fun (r6 : Int32 × fm_MI) => if r6.1 = 0 then (fmD_function_L91_f 7 (fm_u (fm_u (fm_u (fm_u (fm_u r6.2 32 0 f.toNatClampNeg 1) 28 0 f.toNatClampNeg n) 29 0 f.toNatClampNeg (n + m)) 27 0 f.toNatClampNeg 0) 31 0 f.toNatClampNeg rs) J G pa pb f n m tp rs 0) else r6.2)) else (fm_let (fmD_in_f rs 0 4) (fun (r7 : Int32) => if r7 = 0 then (fm_let (fmD_bad_f I 0) (fun (r8 : Int32 × fm_MI) => if r8.1 = 0 then (fmD_function_L91_f 7 (fm_u (fm_u (fm_u (fm_u (fm_u r8.2 32 0 f.toNatClampNeg 1) 28 0 f.toNatClampNeg n) 29 0 f.toNatClampNeg (n + m)) 27 0 f.toNatClampNeg 0) 31 0 f.toNatClampNeg rs) J G pa pb f n m tp rs 0) else r8.2)) else (fm_let (fmD_bad_f I 1) (fun (r9 : Int32 × fm_MI) => if r9.1 = 0 then (fmD_function_L91_f 7 (fm_u (fm_u (fm_u (fm_u (fm_u r9.2 32 0 f.toNatClampNeg 1) 28 0 f.toNatClampNeg n) 29 0 f.toNatClampNeg (n + m)) 27 0 f.toNatClampNeg 0) 31 0 f.toNatClampNeg rs) J G pa pb f n m tp rs 0) else r9.2))))))))) := rfl
def fmD_function_p (I : fm_MI) (J : fm_MJ) (G : fm_MG) (pa : Nat × Nat) (pb : Nat × Nat) (f : Int32) (n : Int32) (m : Int32) (tp : Int32) (rs : Int32) : Prop :=
  fm_let (fmD_in_f f 0 3) (fun (r1 : Int32) => (r1 = 0 → fm_let (fmD_bad_f I 0) (fun (r2 : Int32 × fm_MI) => (r2.1 = 0 → (vp_in f 4) ∧ ((vp_in f 4) ∧ ((vp_in f 4) ∧ ((vp_in f 4) ∧ ((vp_in f 4) ∧ (fmD_function_L91_p 7 (fm_u (fm_u (fm_u (fm_u (fm_u r2.2 32 0 f.toNatClampNeg 1) 28 0 f.toNatClampNeg n) 29 0 f.toNatClampNeg (n + m)) 27 0 f.toNatClampNeg 0) 31 0 f.toNatClampNeg rs) J G pa pb f n m tp rs 0)))))) ∧ (¬ r2.1 = 0 → True))) ∧ (¬ r1 = 0 → fm_let (fmD_in_f n 0 3) (fun (r3 : Int32) => (r3 = 0 → fm_let (fmD_bad_f I 0) (fun (r4 : Int32 × fm_MI) => (r4.1 = 0 → (vp_in f 4) ∧ ((vp_in f 4) ∧ ((vp_in f 4) ∧ ((vp_in f 4) ∧ ((vp_in f 4) ∧ (fmD_function_L91_p 7 (fm_u (fm_u (fm_u (fm_u (fm_u r4.2 32 0 f.toNatClampNeg 1) 28 0 f.toNatClampNeg n) 29 0 f.toNatClampNeg (n + m)) 27 0 f.toNatClampNeg 0) 31 0 f.toNatClampNeg rs) J G pa pb f n m tp rs 0)))))) ∧ (¬ r4.1 = 0 → True))) ∧ (¬ r3 = 0 → fm_let (fmD_in_f m 0 3) (fun (r5 : Int32) => (r5 = 0 → fm_let (fmD_bad_f I 0) (fun (r6 : Int32 × fm_MI) => (r6.1 = 0 → (vp_in f 4) ∧ ((vp_in f 4) ∧ ((vp_in f 4) ∧ ((vp_in f 4) ∧ ((vp_in f 4) ∧ (fmD_function_L91_p 7 (fm_u (fm_u (fm_u (fm_u (fm_u r6.2 32 0 f.toNatClampNeg 1) 28 0 f.toNatClampNeg n) 29 0 f.toNatClampNeg (n + m)) 27 0 f.toNatClampNeg 0) 31 0 f.toNatClampNeg rs) J G pa pb f n m tp rs 0)))))) ∧ (¬ r6.1 = 0 → True))) ∧ (¬ r5 = 0 → fm_let (fmD_in_f rs 0 4) (fun (r7 : Int32) => (r7 = 0 → fm_let (fmD_bad_f I 0) (fun (r8 : Int32 × fm_MI) => (r8.1 = 0 → (vp_in f 4) ∧ ((vp_in f 4) ∧ ((vp_in f 4) ∧ ((vp_in f 4) ∧ ((vp_in f 4) ∧ (fmD_function_L91_p 7 (fm_u (fm_u (fm_u (fm_u (fm_u r8.2 32 0 f.toNatClampNeg 1) 28 0 f.toNatClampNeg n) 29 0 f.toNatClampNeg (n + m)) 27 0 f.toNatClampNeg 0) 31 0 f.toNatClampNeg rs) J G pa pb f n m tp rs 0)))))) ∧ (¬ r8.1 = 0 → True))) ∧ (¬ r7 = 0 → fm_let (fmD_bad_f I 1) (fun (r9 : Int32 × fm_MI) => (r9.1 = 0 → (vp_in f 4) ∧ ((vp_in f 4) ∧ ((vp_in f 4) ∧ ((vp_in f 4) ∧ ((vp_in f 4) ∧ (fmD_function_L91_p 7 (fm_u (fm_u (fm_u (fm_u (fm_u r9.2 32 0 f.toNatClampNeg 1) 28 0 f.toNatClampNeg n) 29 0 f.toNatClampNeg (n + m)) 27 0 f.toNatClampNeg 0) 31 0 f.toNatClampNeg rs) J G pa pb f n m tp rs 0)))))) ∧ (¬ r9.1 = 0 → True))))))))))
set_option maxRecDepth 100000 in
set_option maxHeartbeats 4000000 in
theorem fmD_function_c {E : fm_Ev} (hl : E.1.stackTraces = false) {d : Nat} (hd : 1 ≤ d) (I : fm_MI) (J : fm_MJ) (G : fm_MG) (pa : Nat × Nat) (pb : Nat × Nat) (f : Int32) (n : Int32) (m : Int32) (tp : Int32) (rs : Int32) (hp : fmD_function_p I J G pa pb f n m tp rs) : fm_Ct E d fmD_function 0 [.inr (.inr (.inr (.inr (24, 0)))), .inl f, .inl n, .inl m, .inl tp, .inl rs] (I, J, G, fm_P pa pb) none (fmD_function_f I J G pa pb f n m tp rs, J, G, fm_P pa pb) := by
  obtain ⟨d, rfl⟩ : ∃ d', d = d' + 1 := ⟨d - 1, by omega⟩
  refine fm_ct fmD_function_o hl (Nat.le_of_ble_eq_true rfl) ?_
  have O := fmD_function_o.1
  unfold fmD_function_p at hp
  have he := fmD_function_e I J G pa pb f n m tp rs
  refine fm_gr O 4 (C' := (4, [(0, .inr (.inr (.inr (.inr (24, 0))))), (1, .inl f), (2, .inl n), (3, .inl m), (4, .inl tp), (5, .inl rs)], [.inl 3, .inl 0, .inl f, .inr (.inr (.inr (.inr (24, 0))))], (I, J, G, fm_P pa pb))) rfl ?_
  have K := fmD_in_c (d := d) hl (by omega) I J G pa pb f 0 3
  generalize er1 : fmD_in_f f 0 3 = r1 at he hp
  have he := he.trans (fm_letE _ _)
  have hp := fm_letP hp
  rw [er1] at K
  refine fm_cS0 O fmD_in_o (as := [.inl f, .inl 0, .inl 3]) (rest := [.inr (.inr (.inr (.inr (24, 0))))]) (v := some (.inl r1)) rfl fk_6_86 fn_D_in (Nat.le_of_ble_eq_true rfl) (K) ?_
  refine fm_gb O rfl (fun h => ?_) (fun h => ?_)
  · have h1 : r1 = 0 := h
    have he := he.trans (if_pos h1)
    have hp := hp.1 h1
    refine fm_gr O 1 (C' := (43, [(0, .inr (.inr (.inr (.inr (24, 0))))), (1, .inl f), (2, .inl n), (3, .inl m), (4, .inl tp), (5, .inl rs)], [.inl 0, .inr (.inr (.inr (.inr (24, 0))))], (I, J, G, fm_P pa pb))) rfl ?_
    have K := fmD_bad_c (d := d) hl (by omega) I J G pa pb 0
    generalize er2 : fmD_bad_f I 0 = r2 at he hp
    have he := he.trans (fm_letE _ _)
    have hp := fm_letP hp
    rw [er2] at K
    refine fm_cV0 O fmD_bad_o (i := 0) (as := [.inl 0]) (rest := []) (v := some (.inl r2.1)) rfl fk_6_90 rfl (by decide) fn_D_bad (Nat.le_of_ble_eq_true rfl) (K) ?_
    refine fm_gb O rfl (fun h => ?_) (fun h => ?_)
    · have h2 : r2.1 = 0 := h
      have he := he.trans (if_pos h2)
      have hp := hp.1 h2
      refine fm_gr O 4 (C' := (56, [(0, .inr (.inr (.inr (.inr (24, 0))))), (1, .inl f), (2, .inl n), (3, .inl m), (4, .inl tp), (5, .inl rs)], [.inl 1, .inl f, .inr (.inr (.inr (.inr (32, 0))))], (r2.2, J, G, fm_P pa pb))) rfl ?_
      refine fm_gg O rfl ⟨hp.1, Or.inr rfl⟩ ?_
      have hp := hp.2
      refine fm_gr O 4 (C' := (63, [(0, .inr (.inr (.inr (.inr (24, 0))))), (1, .inl f), (2, .inl n), (3, .inl m), (4, .inl tp), (5, .inl rs)], [.inl n, .inl f, .inr (.inr (.inr (.inr (28, 0))))], (fm_u r2.2 32 0 f.toNatClampNeg 1, J, G, fm_P pa pb))) rfl ?_
      refine fm_gg O rfl hp.1 ?_
      have hp := hp.2
      refine fm_gr O 6 (C' := (72, [(0, .inr (.inr (.inr (.inr (24, 0))))), (1, .inl f), (2, .inl n), (3, .inl m), (4, .inl tp), (5, .inl rs)], [.inl (n + m), .inl f, .inr (.inr (.inr (.inr (29, 0))))], (fm_u (fm_u r2.2 32 0 f.toNatClampNeg 1) 28 0 f.toNatClampNeg n, J, G, fm_P pa pb))) rfl ?_
      refine fm_gg O rfl hp.1 ?_
      have hp := hp.2
      refine fm_gr O 4 (C' := (79, [(0, .inr (.inr (.inr (.inr (24, 0))))), (1, .inl f), (2, .inl n), (3, .inl m), (4, .inl tp), (5, .inl rs)], [.inl 0, .inl f, .inr (.inr (.inr (.inr (27, 0))))], (fm_u (fm_u (fm_u r2.2 32 0 f.toNatClampNeg 1) 28 0 f.toNatClampNeg n) 29 0 f.toNatClampNeg (n + m), J, G, fm_P pa pb))) rfl ?_
      refine fm_gg O rfl hp.1 ?_
      have hp := hp.2
      refine fm_gr O 4 (C' := (87, [(0, .inr (.inr (.inr (.inr (24, 0))))), (1, .inl f), (2, .inl n), (3, .inl m), (4, .inl tp), (5, .inl rs)], [.inl rs, .inl f, .inr (.inr (.inr (.inr (31, 0))))], (fm_u (fm_u (fm_u (fm_u r2.2 32 0 f.toNatClampNeg 1) 28 0 f.toNatClampNeg n) 29 0 f.toNatClampNeg (n + m)) 27 0 f.toNatClampNeg 0, J, G, fm_P pa pb))) rfl ?_
      refine fm_gg O rfl hp.1 ?_
      have hp := hp.2
      refine fm_gr O 2 (C' := (91, [(6, .inl 0), (0, .inr (.inr (.inr (.inr (24, 0))))), (1, .inl f), (2, .inl n), (3, .inl m), (4, .inl tp), (5, .inl rs)], [], (fm_u (fm_u (fm_u (fm_u (fm_u r2.2 32 0 f.toNatClampNeg 1) 28 0 f.toNatClampNeg n) 29 0 f.toNatClampNeg (n + m)) 27 0 f.toNatClampNeg 0) 31 0 f.toNatClampNeg rs, J, G, fm_P pa pb))) rfl ?_
      refine fm_gL O [1, 2, 3, 4, 5, 6, 0] rfl ?_
      rw [he]
      exact fmD_function_L91_c hl hd 7 (fm_u (fm_u (fm_u (fm_u (fm_u r2.2 32 0 f.toNatClampNeg 1) 28 0 f.toNatClampNeg n) 29 0 f.toNatClampNeg (n + m)) 27 0 f.toNatClampNeg 0) 31 0 f.toNatClampNeg rs) J G pa pb f n m tp rs 0 hp
    · have h2 : ¬ r2.1 = 0 := h
      have he := he.trans (if_neg h2)
      exact fm_gRe O rfl trivial (by first | (rw [he]; done) | (rw [he]; rfl) | rfl) (by first | (rw [he]; done) | (rw [he]; rfl) | rfl)
  · have h1 : ¬ r1 = 0 := h
    have he := he.trans (if_neg h1)
    have hp := hp.2 h1
    refine fm_gr O 3 (C' := (13, [(0, .inr (.inr (.inr (.inr (24, 0))))), (1, .inl f), (2, .inl n), (3, .inl m), (4, .inl tp), (5, .inl rs)], [.inl 3, .inl 0, .inl n, .inr (.inr (.inr (.inr (24, 0))))], (I, J, G, fm_P pa pb))) rfl ?_
    have K := fmD_in_c (d := d) hl (by omega) I J G pa pb n 0 3
    generalize er3 : fmD_in_f n 0 3 = r3 at he hp
    have he := he.trans (fm_letE _ _)
    have hp := fm_letP hp
    rw [er3] at K
    refine fm_cS0 O fmD_in_o (as := [.inl n, .inl 0, .inl 3]) (rest := [.inr (.inr (.inr (.inr (24, 0))))]) (v := some (.inl r3)) rfl fk_6_86 fn_D_in (Nat.le_of_ble_eq_true rfl) (K) ?_
    refine fm_gb O rfl (fun h => ?_) (fun h => ?_)
    · have h2 : r3 = 0 := h
      have he := he.trans (if_pos h2)
      have hp := hp.1 h2
      refine fm_gr O 1 (C' := (43, [(0, .inr (.inr (.inr (.inr (24, 0))))), (1, .inl f), (2, .inl n), (3, .inl m), (4, .inl tp), (5, .inl rs)], [.inl 0, .inr (.inr (.inr (.inr (24, 0))))], (I, J, G, fm_P pa pb))) rfl ?_
      have K := fmD_bad_c (d := d) hl (by omega) I J G pa pb 0
      generalize er4 : fmD_bad_f I 0 = r4 at he hp
      have he := he.trans (fm_letE _ _)
      have hp := fm_letP hp
      rw [er4] at K
      refine fm_cV0 O fmD_bad_o (i := 0) (as := [.inl 0]) (rest := []) (v := some (.inl r4.1)) rfl fk_6_90 rfl (by decide) fn_D_bad (Nat.le_of_ble_eq_true rfl) (K) ?_
      refine fm_gb O rfl (fun h => ?_) (fun h => ?_)
      · have h3 : r4.1 = 0 := h
        have he := he.trans (if_pos h3)
        have hp := hp.1 h3
        refine fm_gr O 4 (C' := (56, [(0, .inr (.inr (.inr (.inr (24, 0))))), (1, .inl f), (2, .inl n), (3, .inl m), (4, .inl tp), (5, .inl rs)], [.inl 1, .inl f, .inr (.inr (.inr (.inr (32, 0))))], (r4.2, J, G, fm_P pa pb))) rfl ?_
        refine fm_gg O rfl ⟨hp.1, Or.inr rfl⟩ ?_
        have hp := hp.2
        refine fm_gr O 4 (C' := (63, [(0, .inr (.inr (.inr (.inr (24, 0))))), (1, .inl f), (2, .inl n), (3, .inl m), (4, .inl tp), (5, .inl rs)], [.inl n, .inl f, .inr (.inr (.inr (.inr (28, 0))))], (fm_u r4.2 32 0 f.toNatClampNeg 1, J, G, fm_P pa pb))) rfl ?_
        refine fm_gg O rfl hp.1 ?_
        have hp := hp.2
        refine fm_gr O 6 (C' := (72, [(0, .inr (.inr (.inr (.inr (24, 0))))), (1, .inl f), (2, .inl n), (3, .inl m), (4, .inl tp), (5, .inl rs)], [.inl (n + m), .inl f, .inr (.inr (.inr (.inr (29, 0))))], (fm_u (fm_u r4.2 32 0 f.toNatClampNeg 1) 28 0 f.toNatClampNeg n, J, G, fm_P pa pb))) rfl ?_
        refine fm_gg O rfl hp.1 ?_
        have hp := hp.2
        refine fm_gr O 4 (C' := (79, [(0, .inr (.inr (.inr (.inr (24, 0))))), (1, .inl f), (2, .inl n), (3, .inl m), (4, .inl tp), (5, .inl rs)], [.inl 0, .inl f, .inr (.inr (.inr (.inr (27, 0))))], (fm_u (fm_u (fm_u r4.2 32 0 f.toNatClampNeg 1) 28 0 f.toNatClampNeg n) 29 0 f.toNatClampNeg (n + m), J, G, fm_P pa pb))) rfl ?_
        refine fm_gg O rfl hp.1 ?_
        have hp := hp.2
        refine fm_gr O 4 (C' := (87, [(0, .inr (.inr (.inr (.inr (24, 0))))), (1, .inl f), (2, .inl n), (3, .inl m), (4, .inl tp), (5, .inl rs)], [.inl rs, .inl f, .inr (.inr (.inr (.inr (31, 0))))], (fm_u (fm_u (fm_u (fm_u r4.2 32 0 f.toNatClampNeg 1) 28 0 f.toNatClampNeg n) 29 0 f.toNatClampNeg (n + m)) 27 0 f.toNatClampNeg 0, J, G, fm_P pa pb))) rfl ?_
        refine fm_gg O rfl hp.1 ?_
        have hp := hp.2
        refine fm_gr O 2 (C' := (91, [(6, .inl 0), (0, .inr (.inr (.inr (.inr (24, 0))))), (1, .inl f), (2, .inl n), (3, .inl m), (4, .inl tp), (5, .inl rs)], [], (fm_u (fm_u (fm_u (fm_u (fm_u r4.2 32 0 f.toNatClampNeg 1) 28 0 f.toNatClampNeg n) 29 0 f.toNatClampNeg (n + m)) 27 0 f.toNatClampNeg 0) 31 0 f.toNatClampNeg rs, J, G, fm_P pa pb))) rfl ?_
        refine fm_gL O [1, 2, 3, 4, 5, 6, 0] rfl ?_
        rw [he]
        exact fmD_function_L91_c hl hd 7 (fm_u (fm_u (fm_u (fm_u (fm_u r4.2 32 0 f.toNatClampNeg 1) 28 0 f.toNatClampNeg n) 29 0 f.toNatClampNeg (n + m)) 27 0 f.toNatClampNeg 0) 31 0 f.toNatClampNeg rs) J G pa pb f n m tp rs 0 hp
      · have h3 : ¬ r4.1 = 0 := h
        have he := he.trans (if_neg h3)
        exact fm_gRe O rfl trivial (by first | (rw [he]; done) | (rw [he]; rfl) | rfl) (by first | (rw [he]; done) | (rw [he]; rfl) | rfl)
    · have h2 : ¬ r3 = 0 := h
      have he := he.trans (if_neg h2)
      have hp := hp.2 h2
      refine fm_gr O 3 (C' := (22, [(0, .inr (.inr (.inr (.inr (24, 0))))), (1, .inl f), (2, .inl n), (3, .inl m), (4, .inl tp), (5, .inl rs)], [.inl 3, .inl 0, .inl m, .inr (.inr (.inr (.inr (24, 0))))], (I, J, G, fm_P pa pb))) rfl ?_
      have K := fmD_in_c (d := d) hl (by omega) I J G pa pb m 0 3
      generalize er5 : fmD_in_f m 0 3 = r5 at he hp
      have he := he.trans (fm_letE _ _)
      have hp := fm_letP hp
      rw [er5] at K
      refine fm_cS0 O fmD_in_o (as := [.inl m, .inl 0, .inl 3]) (rest := [.inr (.inr (.inr (.inr (24, 0))))]) (v := some (.inl r5)) rfl fk_6_86 fn_D_in (Nat.le_of_ble_eq_true rfl) (K) ?_
      refine fm_gb O rfl (fun h => ?_) (fun h => ?_)
      · have h3 : r5 = 0 := h
        have he := he.trans (if_pos h3)
        have hp := hp.1 h3
        refine fm_gr O 1 (C' := (43, [(0, .inr (.inr (.inr (.inr (24, 0))))), (1, .inl f), (2, .inl n), (3, .inl m), (4, .inl tp), (5, .inl rs)], [.inl 0, .inr (.inr (.inr (.inr (24, 0))))], (I, J, G, fm_P pa pb))) rfl ?_
        have K := fmD_bad_c (d := d) hl (by omega) I J G pa pb 0
        generalize er6 : fmD_bad_f I 0 = r6 at he hp
        have he := he.trans (fm_letE _ _)
        have hp := fm_letP hp
        rw [er6] at K
        refine fm_cV0 O fmD_bad_o (i := 0) (as := [.inl 0]) (rest := []) (v := some (.inl r6.1)) rfl fk_6_90 rfl (by decide) fn_D_bad (Nat.le_of_ble_eq_true rfl) (K) ?_
        refine fm_gb O rfl (fun h => ?_) (fun h => ?_)
        · have h4 : r6.1 = 0 := h
          have he := he.trans (if_pos h4)
          have hp := hp.1 h4
          refine fm_gr O 4 (C' := (56, [(0, .inr (.inr (.inr (.inr (24, 0))))), (1, .inl f), (2, .inl n), (3, .inl m), (4, .inl tp), (5, .inl rs)], [.inl 1, .inl f, .inr (.inr (.inr (.inr (32, 0))))], (r6.2, J, G, fm_P pa pb))) rfl ?_
          refine fm_gg O rfl ⟨hp.1, Or.inr rfl⟩ ?_
          have hp := hp.2
          refine fm_gr O 4 (C' := (63, [(0, .inr (.inr (.inr (.inr (24, 0))))), (1, .inl f), (2, .inl n), (3, .inl m), (4, .inl tp), (5, .inl rs)], [.inl n, .inl f, .inr (.inr (.inr (.inr (28, 0))))], (fm_u r6.2 32 0 f.toNatClampNeg 1, J, G, fm_P pa pb))) rfl ?_
          refine fm_gg O rfl hp.1 ?_
          have hp := hp.2
          refine fm_gr O 6 (C' := (72, [(0, .inr (.inr (.inr (.inr (24, 0))))), (1, .inl f), (2, .inl n), (3, .inl m), (4, .inl tp), (5, .inl rs)], [.inl (n + m), .inl f, .inr (.inr (.inr (.inr (29, 0))))], (fm_u (fm_u r6.2 32 0 f.toNatClampNeg 1) 28 0 f.toNatClampNeg n, J, G, fm_P pa pb))) rfl ?_
          refine fm_gg O rfl hp.1 ?_
          have hp := hp.2
          refine fm_gr O 4 (C' := (79, [(0, .inr (.inr (.inr (.inr (24, 0))))), (1, .inl f), (2, .inl n), (3, .inl m), (4, .inl tp), (5, .inl rs)], [.inl 0, .inl f, .inr (.inr (.inr (.inr (27, 0))))], (fm_u (fm_u (fm_u r6.2 32 0 f.toNatClampNeg 1) 28 0 f.toNatClampNeg n) 29 0 f.toNatClampNeg (n + m), J, G, fm_P pa pb))) rfl ?_
          refine fm_gg O rfl hp.1 ?_
          have hp := hp.2
          refine fm_gr O 4 (C' := (87, [(0, .inr (.inr (.inr (.inr (24, 0))))), (1, .inl f), (2, .inl n), (3, .inl m), (4, .inl tp), (5, .inl rs)], [.inl rs, .inl f, .inr (.inr (.inr (.inr (31, 0))))], (fm_u (fm_u (fm_u (fm_u r6.2 32 0 f.toNatClampNeg 1) 28 0 f.toNatClampNeg n) 29 0 f.toNatClampNeg (n + m)) 27 0 f.toNatClampNeg 0, J, G, fm_P pa pb))) rfl ?_
          refine fm_gg O rfl hp.1 ?_
          have hp := hp.2
          refine fm_gr O 2 (C' := (91, [(6, .inl 0), (0, .inr (.inr (.inr (.inr (24, 0))))), (1, .inl f), (2, .inl n), (3, .inl m), (4, .inl tp), (5, .inl rs)], [], (fm_u (fm_u (fm_u (fm_u (fm_u r6.2 32 0 f.toNatClampNeg 1) 28 0 f.toNatClampNeg n) 29 0 f.toNatClampNeg (n + m)) 27 0 f.toNatClampNeg 0) 31 0 f.toNatClampNeg rs, J, G, fm_P pa pb))) rfl ?_
          refine fm_gL O [1, 2, 3, 4, 5, 6, 0] rfl ?_
          rw [he]
          exact fmD_function_L91_c hl hd 7 (fm_u (fm_u (fm_u (fm_u (fm_u r6.2 32 0 f.toNatClampNeg 1) 28 0 f.toNatClampNeg n) 29 0 f.toNatClampNeg (n + m)) 27 0 f.toNatClampNeg 0) 31 0 f.toNatClampNeg rs) J G pa pb f n m tp rs 0 hp
        · have h4 : ¬ r6.1 = 0 := h
          have he := he.trans (if_neg h4)
          exact fm_gRe O rfl trivial (by first | (rw [he]; done) | (rw [he]; rfl) | rfl) (by first | (rw [he]; done) | (rw [he]; rfl) | rfl)
      · have h3 : ¬ r5 = 0 := h
        have he := he.trans (if_neg h3)
        have hp := hp.2 h3
        refine fm_gr O 3 (C' := (32, [(0, .inr (.inr (.inr (.inr (24, 0))))), (1, .inl f), (2, .inl n), (3, .inl m), (4, .inl tp), (5, .inl rs)], [.inl 4, .inl 0, .inl rs, .inr (.inr (.inr (.inr (24, 0))))], (I, J, G, fm_P pa pb))) rfl ?_
        have K := fmD_in_c (d := d) hl (by omega) I J G pa pb rs 0 4
        generalize er7 : fmD_in_f rs 0 4 = r7 at he hp
        have he := he.trans (fm_letE _ _)
        have hp := fm_letP hp
        rw [er7] at K
        refine fm_cS0 O fmD_in_o (as := [.inl rs, .inl 0, .inl 4]) (rest := [.inr (.inr (.inr (.inr (24, 0))))]) (v := some (.inl r7)) rfl fk_6_86 fn_D_in (Nat.le_of_ble_eq_true rfl) (K) ?_
        refine fm_gb O rfl (fun h => ?_) (fun h => ?_)
        · have h4 : r7 = 0 := h
          have he := he.trans (if_pos h4)
          have hp := hp.1 h4
          refine fm_gr O 1 (C' := (43, [(0, .inr (.inr (.inr (.inr (24, 0))))), (1, .inl f), (2, .inl n), (3, .inl m), (4, .inl tp), (5, .inl rs)], [.inl 0, .inr (.inr (.inr (.inr (24, 0))))], (I, J, G, fm_P pa pb))) rfl ?_
          have K := fmD_bad_c (d := d) hl (by omega) I J G pa pb 0
          generalize er8 : fmD_bad_f I 0 = r8 at he hp
          have he := he.trans (fm_letE _ _)
          have hp := fm_letP hp
          rw [er8] at K
          refine fm_cV0 O fmD_bad_o (i := 0) (as := [.inl 0]) (rest := []) (v := some (.inl r8.1)) rfl fk_6_90 rfl (by decide) fn_D_bad (Nat.le_of_ble_eq_true rfl) (K) ?_
          refine fm_gb O rfl (fun h => ?_) (fun h => ?_)
          · have h5 : r8.1 = 0 := h
            have he := he.trans (if_pos h5)
            have hp := hp.1 h5
            refine fm_gr O 4 (C' := (56, [(0, .inr (.inr (.inr (.inr (24, 0))))), (1, .inl f), (2, .inl n), (3, .inl m), (4, .inl tp), (5, .inl rs)], [.inl 1, .inl f, .inr (.inr (.inr (.inr (32, 0))))], (r8.2, J, G, fm_P pa pb))) rfl ?_
            refine fm_gg O rfl ⟨hp.1, Or.inr rfl⟩ ?_
            have hp := hp.2
            refine fm_gr O 4 (C' := (63, [(0, .inr (.inr (.inr (.inr (24, 0))))), (1, .inl f), (2, .inl n), (3, .inl m), (4, .inl tp), (5, .inl rs)], [.inl n, .inl f, .inr (.inr (.inr (.inr (28, 0))))], (fm_u r8.2 32 0 f.toNatClampNeg 1, J, G, fm_P pa pb))) rfl ?_
            refine fm_gg O rfl hp.1 ?_
            have hp := hp.2
            refine fm_gr O 6 (C' := (72, [(0, .inr (.inr (.inr (.inr (24, 0))))), (1, .inl f), (2, .inl n), (3, .inl m), (4, .inl tp), (5, .inl rs)], [.inl (n + m), .inl f, .inr (.inr (.inr (.inr (29, 0))))], (fm_u (fm_u r8.2 32 0 f.toNatClampNeg 1) 28 0 f.toNatClampNeg n, J, G, fm_P pa pb))) rfl ?_
            refine fm_gg O rfl hp.1 ?_
            have hp := hp.2
            refine fm_gr O 4 (C' := (79, [(0, .inr (.inr (.inr (.inr (24, 0))))), (1, .inl f), (2, .inl n), (3, .inl m), (4, .inl tp), (5, .inl rs)], [.inl 0, .inl f, .inr (.inr (.inr (.inr (27, 0))))], (fm_u (fm_u (fm_u r8.2 32 0 f.toNatClampNeg 1) 28 0 f.toNatClampNeg n) 29 0 f.toNatClampNeg (n + m), J, G, fm_P pa pb))) rfl ?_
            refine fm_gg O rfl hp.1 ?_
            have hp := hp.2
            refine fm_gr O 4 (C' := (87, [(0, .inr (.inr (.inr (.inr (24, 0))))), (1, .inl f), (2, .inl n), (3, .inl m), (4, .inl tp), (5, .inl rs)], [.inl rs, .inl f, .inr (.inr (.inr (.inr (31, 0))))], (fm_u (fm_u (fm_u (fm_u r8.2 32 0 f.toNatClampNeg 1) 28 0 f.toNatClampNeg n) 29 0 f.toNatClampNeg (n + m)) 27 0 f.toNatClampNeg 0, J, G, fm_P pa pb))) rfl ?_
            refine fm_gg O rfl hp.1 ?_
            have hp := hp.2
            refine fm_gr O 2 (C' := (91, [(6, .inl 0), (0, .inr (.inr (.inr (.inr (24, 0))))), (1, .inl f), (2, .inl n), (3, .inl m), (4, .inl tp), (5, .inl rs)], [], (fm_u (fm_u (fm_u (fm_u (fm_u r8.2 32 0 f.toNatClampNeg 1) 28 0 f.toNatClampNeg n) 29 0 f.toNatClampNeg (n + m)) 27 0 f.toNatClampNeg 0) 31 0 f.toNatClampNeg rs, J, G, fm_P pa pb))) rfl ?_
            refine fm_gL O [1, 2, 3, 4, 5, 6, 0] rfl ?_
            rw [he]
            exact fmD_function_L91_c hl hd 7 (fm_u (fm_u (fm_u (fm_u (fm_u r8.2 32 0 f.toNatClampNeg 1) 28 0 f.toNatClampNeg n) 29 0 f.toNatClampNeg (n + m)) 27 0 f.toNatClampNeg 0) 31 0 f.toNatClampNeg rs) J G pa pb f n m tp rs 0 hp
          · have h5 : ¬ r8.1 = 0 := h
            have he := he.trans (if_neg h5)
            exact fm_gRe O rfl trivial (by first | (rw [he]; done) | (rw [he]; rfl) | rfl) (by first | (rw [he]; done) | (rw [he]; rfl) | rfl)
        · have h4 : ¬ r7 = 0 := h
          have he := he.trans (if_neg h4)
          have hp := hp.2 h4
          refine fm_gr O 2 (C' := (43, [(0, .inr (.inr (.inr (.inr (24, 0))))), (1, .inl f), (2, .inl n), (3, .inl m), (4, .inl tp), (5, .inl rs)], [.inl 1, .inr (.inr (.inr (.inr (24, 0))))], (I, J, G, fm_P pa pb))) rfl ?_
          have K := fmD_bad_c (d := d) hl (by omega) I J G pa pb 1
          generalize er9 : fmD_bad_f I 1 = r9 at he hp
          have he := he.trans (fm_letE _ _)
          have hp := fm_letP hp
          rw [er9] at K
          refine fm_cV0 O fmD_bad_o (i := 0) (as := [.inl 1]) (rest := []) (v := some (.inl r9.1)) rfl fk_6_90 rfl (by decide) fn_D_bad (Nat.le_of_ble_eq_true rfl) (K) ?_
          refine fm_gb O rfl (fun h => ?_) (fun h => ?_)
          · have h5 : r9.1 = 0 := h
            have he := he.trans (if_pos h5)
            have hp := hp.1 h5
            refine fm_gr O 4 (C' := (56, [(0, .inr (.inr (.inr (.inr (24, 0))))), (1, .inl f), (2, .inl n), (3, .inl m), (4, .inl tp), (5, .inl rs)], [.inl 1, .inl f, .inr (.inr (.inr (.inr (32, 0))))], (r9.2, J, G, fm_P pa pb))) rfl ?_
            refine fm_gg O rfl ⟨hp.1, Or.inr rfl⟩ ?_
            have hp := hp.2
            refine fm_gr O 4 (C' := (63, [(0, .inr (.inr (.inr (.inr (24, 0))))), (1, .inl f), (2, .inl n), (3, .inl m), (4, .inl tp), (5, .inl rs)], [.inl n, .inl f, .inr (.inr (.inr (.inr (28, 0))))], (fm_u r9.2 32 0 f.toNatClampNeg 1, J, G, fm_P pa pb))) rfl ?_
            refine fm_gg O rfl hp.1 ?_
            have hp := hp.2
            refine fm_gr O 6 (C' := (72, [(0, .inr (.inr (.inr (.inr (24, 0))))), (1, .inl f), (2, .inl n), (3, .inl m), (4, .inl tp), (5, .inl rs)], [.inl (n + m), .inl f, .inr (.inr (.inr (.inr (29, 0))))], (fm_u (fm_u r9.2 32 0 f.toNatClampNeg 1) 28 0 f.toNatClampNeg n, J, G, fm_P pa pb))) rfl ?_
            refine fm_gg O rfl hp.1 ?_
            have hp := hp.2
            refine fm_gr O 4 (C' := (79, [(0, .inr (.inr (.inr (.inr (24, 0))))), (1, .inl f), (2, .inl n), (3, .inl m), (4, .inl tp), (5, .inl rs)], [.inl 0, .inl f, .inr (.inr (.inr (.inr (27, 0))))], (fm_u (fm_u (fm_u r9.2 32 0 f.toNatClampNeg 1) 28 0 f.toNatClampNeg n) 29 0 f.toNatClampNeg (n + m), J, G, fm_P pa pb))) rfl ?_
            refine fm_gg O rfl hp.1 ?_
            have hp := hp.2
            refine fm_gr O 4 (C' := (87, [(0, .inr (.inr (.inr (.inr (24, 0))))), (1, .inl f), (2, .inl n), (3, .inl m), (4, .inl tp), (5, .inl rs)], [.inl rs, .inl f, .inr (.inr (.inr (.inr (31, 0))))], (fm_u (fm_u (fm_u (fm_u r9.2 32 0 f.toNatClampNeg 1) 28 0 f.toNatClampNeg n) 29 0 f.toNatClampNeg (n + m)) 27 0 f.toNatClampNeg 0, J, G, fm_P pa pb))) rfl ?_
            refine fm_gg O rfl hp.1 ?_
            have hp := hp.2
            refine fm_gr O 2 (C' := (91, [(6, .inl 0), (0, .inr (.inr (.inr (.inr (24, 0))))), (1, .inl f), (2, .inl n), (3, .inl m), (4, .inl tp), (5, .inl rs)], [], (fm_u (fm_u (fm_u (fm_u (fm_u r9.2 32 0 f.toNatClampNeg 1) 28 0 f.toNatClampNeg n) 29 0 f.toNatClampNeg (n + m)) 27 0 f.toNatClampNeg 0) 31 0 f.toNatClampNeg rs, J, G, fm_P pa pb))) rfl ?_
            refine fm_gL O [1, 2, 3, 4, 5, 6, 0] rfl ?_
            rw [he]
            exact fmD_function_L91_c hl hd 7 (fm_u (fm_u (fm_u (fm_u (fm_u r9.2 32 0 f.toNatClampNeg 1) 28 0 f.toNatClampNeg n) 29 0 f.toNatClampNeg (n + m)) 27 0 f.toNatClampNeg 0) 31 0 f.toNatClampNeg rs) J G pa pb f n m tp rs 0 hp
          · have h5 : ¬ r9.1 = 0 := h
            have he := he.trans (if_neg h5)
            exact fm_gRe O rfl trivial (by first | (rw [he]; done) | (rw [he]; rfl) | rfl) (by first | (rw [he]; done) | (rw [he]; rfl) | rfl)
def fmD_emit_f (I : fm_MI) (f : Int32) (op : Int32) (aa : Int32) : Int32 × fm_MI :=
  fm_let (fmD_isFunction_f I f) (fun (r1 : Int32) => if r1 = 0 then (fm_let (fmD_bad_f I 0) (fun (r2 : Int32 × fm_MI) => if r2.1 = 0 then (if (r2.2 27 0 f.toNatClampNeg) = 40 then ((0, fm_u r2.2 24 0 18 2)) else (((fm_u (fm_u (fm_u r2.2 25 0 (((f * 40) + (r2.2 27 0 f.toNatClampNeg)).toNatClampNeg) op) 26 0 (((f * 40) + (r2.2 27 0 f.toNatClampNeg)).toNatClampNeg) aa) 27 0 f.toNatClampNeg ((r2.2 27 0 f.toNatClampNeg) + 1)) 27 0 f.toNatClampNeg, fm_u (fm_u (fm_u (fm_u r2.2 25 0 (((f * 40) + (r2.2 27 0 f.toNatClampNeg)).toNatClampNeg) op) 26 0 (((f * 40) + (r2.2 27 0 f.toNatClampNeg)).toNatClampNeg) aa) 27 0 f.toNatClampNeg ((r2.2 27 0 f.toNatClampNeg) + 1)) 24 0 19 0))) else ((0, r2.2)))) else (fm_let (fmD_in_f op 0 30) (fun (r3 : Int32) => if r3 = 0 then (fm_let (fmD_bad_f I 0) (fun (r4 : Int32 × fm_MI) => if r4.1 = 0 then (if (r4.2 27 0 f.toNatClampNeg) = 40 then ((0, fm_u r4.2 24 0 18 2)) else (((fm_u (fm_u (fm_u r4.2 25 0 (((f * 40) + (r4.2 27 0 f.toNatClampNeg)).toNatClampNeg) op) 26 0 (((f * 40) + (r4.2 27 0 f.toNatClampNeg)).toNatClampNeg) aa) 27 0 f.toNatClampNeg ((r4.2 27 0 f.toNatClampNeg) + 1)) 27 0 f.toNatClampNeg, fm_u (fm_u (fm_u (fm_u r4.2 25 0 (((f * 40) + (r4.2 27 0 f.toNatClampNeg)).toNatClampNeg) op) 26 0 (((f * 40) + (r4.2 27 0 f.toNatClampNeg)).toNatClampNeg) aa) 27 0 f.toNatClampNeg ((r4.2 27 0 f.toNatClampNeg) + 1)) 24 0 19 0))) else ((0, r4.2)))) else (fm_let (fmD_bad_f I 1) (fun (r5 : Int32 × fm_MI) => if r5.1 = 0 then (if (r5.2 27 0 f.toNatClampNeg) = 40 then ((0, fm_u r5.2 24 0 18 2)) else (((fm_u (fm_u (fm_u r5.2 25 0 (((f * 40) + (r5.2 27 0 f.toNatClampNeg)).toNatClampNeg) op) 26 0 (((f * 40) + (r5.2 27 0 f.toNatClampNeg)).toNatClampNeg) aa) 27 0 f.toNatClampNeg ((r5.2 27 0 f.toNatClampNeg) + 1)) 27 0 f.toNatClampNeg, fm_u (fm_u (fm_u (fm_u r5.2 25 0 (((f * 40) + (r5.2 27 0 f.toNatClampNeg)).toNatClampNeg) op) 26 0 (((f * 40) + (r5.2 27 0 f.toNatClampNeg)).toNatClampNeg) aa) 27 0 f.toNatClampNeg ((r5.2 27 0 f.toNatClampNeg) + 1)) 24 0 19 0))) else ((0, r5.2)))))))
theorem fmD_emit_e (I : fm_MI) (f : Int32) (op : Int32) (aa : Int32) : fmD_emit_f I f op aa = fm_let (fmD_isFunction_f I f) (fun (r1 : Int32) => if r1 = 0 then (fm_let (fmD_bad_f I 0) (fun (r2 : Int32 × fm_MI) => if r2.1 = 0 then (if (r2.2 27 0 f.toNatClampNeg) = 40 then ((0, fm_u r2.2 24 0 18 2)) else (((fm_u (fm_u (fm_u r2.2 25 0 (((f * 40) + (r2.2 27 0 f.toNatClampNeg)).toNatClampNeg) op) 26 0 (((f * 40) + (r2.2 27 0 f.toNatClampNeg)).toNatClampNeg) aa) 27 0 f.toNatClampNeg ((r2.2 27 0 f.toNatClampNeg) + 1)) 27 0 f.toNatClampNeg, fm_u (fm_u (fm_u (fm_u r2.2 25 0 (((f * 40) + (r2.2 27 0 f.toNatClampNeg)).toNatClampNeg) op) 26 0 (((f * 40) + (r2.2 27 0 f.toNatClampNeg)).toNatClampNeg) aa) 27 0 f.toNatClampNeg ((r2.2 27 0 f.toNatClampNeg) + 1)) 24 0 19 0))) else ((0, r2.2)))) else (fm_let (fmD_in_f op 0 30) (fun (r3 : Int32) => if r3 = 0 then (fm_let (fmD_bad_f I 0) (fun (r4 : Int32 × fm_MI) => if r4.1 = 0 then (if (r4.2 27 0 f.toNatClampNeg) = 40 then ((0, fm_u r4.2 24 0 18 2)) else (((fm_u (fm_u (fm_u r4.2 25 0 (((f * 40) + (r4.2 27 0 f.toNatClampNeg)).toNatClampNeg) op) 26 0 (((f * 40) + (r4.2 27 0 f.toNatClampNeg)).toNatClampNeg) aa) 27 0 f.toNatClampNeg ((r4.2 27 0 f.toNatClampNeg) + 1)) 27 0 f.toNatClampNeg, fm_u (fm_u (fm_u (fm_u r4.2 25 0 (((f * 40) + (r4.2 27 0 f.toNatClampNeg)).toNatClampNeg) op) 26 0 (((f * 40) + (r4.2 27 0 f.toNatClampNeg)).toNatClampNeg) aa) 27 0 f.toNatClampNeg ((r4.2 27 0 f.toNatClampNeg) + 1)) 24 0 19 0))) else ((0, r4.2)))) else (fm_let (fmD_bad_f I 1) (fun (r5 : Int32 × fm_MI) => if r5.1 = 0 then (if (r5.2 27 0 f.toNatClampNeg) = 40 then ((0, fm_u r5.2 24 0 18 2)) else (((fm_u (fm_u (fm_u r5.2 25 0 (((f * 40) + (r5.2 27 0 f.toNatClampNeg)).toNatClampNeg) op) 26 0 (((f * 40) + (r5.2 27 0 f.toNatClampNeg)).toNatClampNeg) aa) 27 0 f.toNatClampNeg ((r5.2 27 0 f.toNatClampNeg) + 1)) 27 0 f.toNatClampNeg, fm_u (fm_u (fm_u (fm_u r5.2 25 0 (((f * 40) + (r5.2 27 0 f.toNatClampNeg)).toNatClampNeg) op) 26 0 (((f * 40) + (r5.2 27 0 f.toNatClampNeg)).toNatClampNeg) aa) 27 0 f.toNatClampNeg ((r5.2 27 0 f.toNatClampNeg) + 1)) 24 0 19 0))) else ((0, r5.2))))))) := rfl
def fmD_emit_p (I : fm_MI) (f : Int32) (op : Int32) : Prop :=
  fmD_isFunction_p f ∧ (fm_let (fmD_isFunction_f I f) (fun (r1 : Int32) => (r1 = 0 → fm_let (fmD_bad_f I 0) (fun (r2 : Int32 × fm_MI) => (r2.1 = 0 → (vp_in f 4) ∧ (((r2.2 27 0 f.toNatClampNeg) = 40 → True) ∧ (¬ (r2.2 27 0 f.toNatClampNeg) = 40 → (vp_in f 4) ∧ ((vp_in ((f * 40) + (r2.2 27 0 f.toNatClampNeg)) 160) ∧ ((vp_in f 4) ∧ ((vp_in ((f * 40) + (r2.2 27 0 f.toNatClampNeg)) 160) ∧ ((vp_in f 4) ∧ ((vp_in f 4) ∧ (vp_in f 4))))))))) ∧ (¬ r2.1 = 0 → True))) ∧ (¬ r1 = 0 → fm_let (fmD_in_f op 0 30) (fun (r3 : Int32) => (r3 = 0 → fm_let (fmD_bad_f I 0) (fun (r4 : Int32 × fm_MI) => (r4.1 = 0 → (vp_in f 4) ∧ (((r4.2 27 0 f.toNatClampNeg) = 40 → True) ∧ (¬ (r4.2 27 0 f.toNatClampNeg) = 40 → (vp_in f 4) ∧ ((vp_in ((f * 40) + (r4.2 27 0 f.toNatClampNeg)) 160) ∧ ((vp_in f 4) ∧ ((vp_in ((f * 40) + (r4.2 27 0 f.toNatClampNeg)) 160) ∧ ((vp_in f 4) ∧ ((vp_in f 4) ∧ (vp_in f 4))))))))) ∧ (¬ r4.1 = 0 → True))) ∧ (¬ r3 = 0 → fm_let (fmD_bad_f I 1) (fun (r5 : Int32 × fm_MI) => (r5.1 = 0 → (vp_in f 4) ∧ (((r5.2 27 0 f.toNatClampNeg) = 40 → True) ∧ (¬ (r5.2 27 0 f.toNatClampNeg) = 40 → (vp_in f 4) ∧ ((vp_in ((f * 40) + (r5.2 27 0 f.toNatClampNeg)) 160) ∧ ((vp_in f 4) ∧ ((vp_in ((f * 40) + (r5.2 27 0 f.toNatClampNeg)) 160) ∧ ((vp_in f 4) ∧ ((vp_in f 4) ∧ (vp_in f 4))))))))) ∧ (¬ r5.1 = 0 → True)))))))
set_option maxRecDepth 100000 in
set_option maxHeartbeats 4000000 in
theorem fmD_emit_c {E : fm_Ev} (hl : E.1.stackTraces = false) {d : Nat} (hd : 2 ≤ d) (I : fm_MI) (J : fm_MJ) (G : fm_MG) (pa : Nat × Nat) (pb : Nat × Nat) (f : Int32) (op : Int32) (aa : Int32) (hp : fmD_emit_p I f op) : fm_Ct E d fmD_emit 0 [.inr (.inr (.inr (.inr (24, 0)))), .inl f, .inl op, .inl aa] (I, J, G, fm_P pa pb) (some (.inl ((fmD_emit_f I f op aa).1))) ((fmD_emit_f I f op aa).2, J, G, fm_P pa pb) := by
  obtain ⟨d, rfl⟩ : ∃ d', d = d' + 1 := ⟨d - 1, by omega⟩
  refine fm_ct fmD_emit_o hl (Nat.le_of_ble_eq_true rfl) ?_
  have O := fmD_emit_o.1
  unfold fmD_emit_p at hp
  have he := fmD_emit_e I f op aa
  refine fm_gr O 3 (C' := (3, [(0, .inr (.inr (.inr (.inr (24, 0))))), (1, .inl f), (2, .inl op), (3, .inl aa)], [.inl f, .inr (.inr (.inr (.inr (24, 0)))), .inr (.inr (.inr (.inr (24, 0))))], (I, J, G, fm_P pa pb))) rfl ?_
  have hc := hp.1
  have hp := hp.2
  have K := fmD_isFunction_c (d := d) hl (by omega) I J G pa pb f hc
  generalize er1 : fmD_isFunction_f I f = r1 at he hp
  have he := he.trans (fm_letE _ _)
  have hp := fm_letP hp
  rw [er1] at K
  refine fm_cV0 O fmD_isFunction_o (i := 0) (as := [.inl f]) (rest := [.inr (.inr (.inr (.inr (24, 0))))]) (v := some (.inl r1)) rfl fk_6_98 rfl (by decide) fn_D_isFunction (Nat.le_of_ble_eq_true rfl) (K) ?_
  refine fm_gb O rfl (fun h => ?_) (fun h => ?_)
  · have h1 : r1 = 0 := h
    have he := he.trans (if_pos h1)
    have hp := hp.1 h1
    refine fm_gr O 1 (C' := (24, [(0, .inr (.inr (.inr (.inr (24, 0))))), (1, .inl f), (2, .inl op), (3, .inl aa)], [.inl 0, .inr (.inr (.inr (.inr (24, 0))))], (I, J, G, fm_P pa pb))) rfl ?_
    have K := fmD_bad_c (d := d) hl (by omega) I J G pa pb 0
    generalize er2 : fmD_bad_f I 0 = r2 at he hp
    have he := he.trans (fm_letE _ _)
    have hp := fm_letP hp
    rw [er2] at K
    refine fm_cV0 O fmD_bad_o (i := 0) (as := [.inl 0]) (rest := []) (v := some (.inl r2.1)) rfl fk_6_90 rfl (by decide) fn_D_bad (Nat.le_of_ble_eq_true rfl) (K) ?_
    refine fm_gb O rfl (fun h => ?_) (fun h => ?_)
    · have h2 : r2.1 = 0 := h
      have he := he.trans (if_pos h2)
      have hp := hp.1 h2
      refine fm_gr O 3 (C' := (37, [(0, .inr (.inr (.inr (.inr (24, 0))))), (1, .inl f), (2, .inl op), (3, .inl aa)], [.inl f, .inr (.inr (.inr (.inr (27, 0))))], (r2.2, J, G, fm_P pa pb))) rfl ?_
      refine fm_gg O rfl hp.1 ?_
      have hp := hp.2
      refine fm_gr O 1 (C' := (40, [(0, .inr (.inr (.inr (.inr (24, 0))))), (1, .inl f), (2, .inl op), (3, .inl aa)], [.inl 40, .inl (r2.2 27 0 f.toNatClampNeg)], (r2.2, J, G, fm_P pa pb))) rfl ?_
      refine fm_gb O rfl (fun h => ?_) (fun h => ?_)
      · have h3 : (r2.2 27 0 f.toNatClampNeg) = 40 := h
        have he := he.trans (if_pos h3)
        refine fm_gr O 4 (C' := (49, [(0, .inr (.inr (.inr (.inr (24, 0))))), (1, .inl f), (2, .inl op), (3, .inl aa)], [.inl 0], (fm_u r2.2 24 0 18 2, J, G, fm_P pa pb))) rfl ?_
        exact fm_gRe O rfl trivial (by first | (rw [he]; done) | (rw [he]; rfl) | rfl) (by first | (rw [he]; done) | (rw [he]; rfl) | rfl)
      · have h3 : ¬ (r2.2 27 0 f.toNatClampNeg) = 40 := h
        have he := he.trans (if_neg h3)
        have hp := hp.2 h3
        refine fm_gr O 8 (C' := (63, [(0, .inr (.inr (.inr (.inr (24, 0))))), (1, .inl f), (2, .inl op), (3, .inl aa)], [.inl f, .inr (.inr (.inr (.inr (27, 0)))), .inl (f * 40), .inr (.inr (.inr (.inr (25, 0))))], (r2.2, J, G, fm_P pa pb))) rfl ?_
        refine fm_gg O rfl hp.1 ?_
        have hp := hp.2
        refine fm_gr O 2 (C' := (66, [(0, .inr (.inr (.inr (.inr (24, 0))))), (1, .inl f), (2, .inl op), (3, .inl aa)], [.inl op, .inl ((f * 40) + (r2.2 27 0 f.toNatClampNeg)), .inr (.inr (.inr (.inr (25, 0))))], (r2.2, J, G, fm_P pa pb))) rfl ?_
        refine fm_gg O rfl hp.1 ?_
        have hp := hp.2
        refine fm_gr O 8 (C' := (80, [(0, .inr (.inr (.inr (.inr (24, 0))))), (1, .inl f), (2, .inl op), (3, .inl aa)], [.inl f, .inr (.inr (.inr (.inr (27, 0)))), .inl (f * 40), .inr (.inr (.inr (.inr (26, 0))))], (fm_u r2.2 25 0 (((f * 40) + (r2.2 27 0 f.toNatClampNeg)).toNatClampNeg) op, J, G, fm_P pa pb))) rfl ?_
        refine fm_gg O rfl hp.1 ?_
        have hp := hp.2
        refine fm_gr O 2 (C' := (83, [(0, .inr (.inr (.inr (.inr (24, 0))))), (1, .inl f), (2, .inl op), (3, .inl aa)], [.inl aa, .inl ((f * 40) + (r2.2 27 0 f.toNatClampNeg)), .inr (.inr (.inr (.inr (26, 0))))], (fm_u r2.2 25 0 (((f * 40) + (r2.2 27 0 f.toNatClampNeg)).toNatClampNeg) op, J, G, fm_P pa pb))) rfl ?_
        refine fm_gg O rfl hp.1 ?_
        have hp := hp.2
        refine fm_gr O 4 (C' := (90, [(0, .inr (.inr (.inr (.inr (24, 0))))), (1, .inl f), (2, .inl op), (3, .inl aa)], [.inl f, .inr (.inr (.inr (.inr (27, 0)))), .inl f, .inr (.inr (.inr (.inr (27, 0))))], (fm_u (fm_u r2.2 25 0 (((f * 40) + (r2.2 27 0 f.toNatClampNeg)).toNatClampNeg) op) 26 0 (((f * 40) + (r2.2 27 0 f.toNatClampNeg)).toNatClampNeg) aa, J, G, fm_P pa pb))) rfl ?_
        refine fm_gg O rfl hp.1 ?_
        have hp := hp.2
        refine fm_gr O 2 (C' := (93, [(0, .inr (.inr (.inr (.inr (24, 0))))), (1, .inl f), (2, .inl op), (3, .inl aa)], [.inl ((r2.2 27 0 f.toNatClampNeg) + 1), .inl f, .inr (.inr (.inr (.inr (27, 0))))], (fm_u (fm_u r2.2 25 0 (((f * 40) + (r2.2 27 0 f.toNatClampNeg)).toNatClampNeg) op) 26 0 (((f * 40) + (r2.2 27 0 f.toNatClampNeg)).toNatClampNeg) aa, J, G, fm_P pa pb))) rfl ?_
        refine fm_gg O rfl hp.1 ?_
        have hp := hp.2
        refine fm_gr O 2 (C' := (96, [(0, .inr (.inr (.inr (.inr (24, 0))))), (1, .inl f), (2, .inl op), (3, .inl aa)], [.inl 0, .inr (.inr (.inr (.inr (24, 0))))], (fm_u (fm_u (fm_u r2.2 25 0 (((f * 40) + (r2.2 27 0 f.toNatClampNeg)).toNatClampNeg) op) 26 0 (((f * 40) + (r2.2 27 0 f.toNatClampNeg)).toNatClampNeg) aa) 27 0 f.toNatClampNeg ((r2.2 27 0 f.toNatClampNeg) + 1), J, G, fm_P pa pb))) rfl ?_
        refine fm_gg O rfl (Or.inl rfl) ?_
        refine fm_gr O 3 (C' := (104, [(0, .inr (.inr (.inr (.inr (24, 0))))), (1, .inl f), (2, .inl op), (3, .inl aa)], [.inl f, .inr (.inr (.inr (.inr (27, 0))))], (fm_u (fm_u (fm_u (fm_u r2.2 25 0 (((f * 40) + (r2.2 27 0 f.toNatClampNeg)).toNatClampNeg) op) 26 0 (((f * 40) + (r2.2 27 0 f.toNatClampNeg)).toNatClampNeg) aa) 27 0 f.toNatClampNeg ((r2.2 27 0 f.toNatClampNeg) + 1)) 24 0 19 0, J, G, fm_P pa pb))) rfl ?_
        refine fm_gg O rfl hp ?_
        exact fm_gRe O rfl trivial (by first | (rw [he]; done) | (rw [he]; rfl) | rfl) (by first | (rw [he]; done) | (rw [he]; rfl) | rfl)
    · have h2 : ¬ r2.1 = 0 := h
      have he := he.trans (if_neg h2)
      refine fm_gr O 1 (C' := (31, [(0, .inr (.inr (.inr (.inr (24, 0))))), (1, .inl f), (2, .inl op), (3, .inl aa)], [.inl 0], (r2.2, J, G, fm_P pa pb))) rfl ?_
      exact fm_gRe O rfl trivial (by first | (rw [he]; done) | (rw [he]; rfl) | rfl) (by first | (rw [he]; done) | (rw [he]; rfl) | rfl)
  · have h1 : ¬ r1 = 0 := h
    have he := he.trans (if_neg h1)
    have hp := hp.2 h1
    refine fm_gr O 3 (C' := (13, [(0, .inr (.inr (.inr (.inr (24, 0))))), (1, .inl f), (2, .inl op), (3, .inl aa)], [.inl 30, .inl 0, .inl op, .inr (.inr (.inr (.inr (24, 0))))], (I, J, G, fm_P pa pb))) rfl ?_
    have K := fmD_in_c (d := d) hl (by omega) I J G pa pb op 0 30
    generalize er3 : fmD_in_f op 0 30 = r3 at he hp
    have he := he.trans (fm_letE _ _)
    have hp := fm_letP hp
    rw [er3] at K
    refine fm_cS0 O fmD_in_o (as := [.inl op, .inl 0, .inl 30]) (rest := [.inr (.inr (.inr (.inr (24, 0))))]) (v := some (.inl r3)) rfl fk_6_86 fn_D_in (Nat.le_of_ble_eq_true rfl) (K) ?_
    refine fm_gb O rfl (fun h => ?_) (fun h => ?_)
    · have h2 : r3 = 0 := h
      have he := he.trans (if_pos h2)
      have hp := hp.1 h2
      refine fm_gr O 1 (C' := (24, [(0, .inr (.inr (.inr (.inr (24, 0))))), (1, .inl f), (2, .inl op), (3, .inl aa)], [.inl 0, .inr (.inr (.inr (.inr (24, 0))))], (I, J, G, fm_P pa pb))) rfl ?_
      have K := fmD_bad_c (d := d) hl (by omega) I J G pa pb 0
      generalize er4 : fmD_bad_f I 0 = r4 at he hp
      have he := he.trans (fm_letE _ _)
      have hp := fm_letP hp
      rw [er4] at K
      refine fm_cV0 O fmD_bad_o (i := 0) (as := [.inl 0]) (rest := []) (v := some (.inl r4.1)) rfl fk_6_90 rfl (by decide) fn_D_bad (Nat.le_of_ble_eq_true rfl) (K) ?_
      refine fm_gb O rfl (fun h => ?_) (fun h => ?_)
      · have h3 : r4.1 = 0 := h
        have he := he.trans (if_pos h3)
        have hp := hp.1 h3
        refine fm_gr O 3 (C' := (37, [(0, .inr (.inr (.inr (.inr (24, 0))))), (1, .inl f), (2, .inl op), (3, .inl aa)], [.inl f, .inr (.inr (.inr (.inr (27, 0))))], (r4.2, J, G, fm_P pa pb))) rfl ?_
        refine fm_gg O rfl hp.1 ?_
        have hp := hp.2
        refine fm_gr O 1 (C' := (40, [(0, .inr (.inr (.inr (.inr (24, 0))))), (1, .inl f), (2, .inl op), (3, .inl aa)], [.inl 40, .inl (r4.2 27 0 f.toNatClampNeg)], (r4.2, J, G, fm_P pa pb))) rfl ?_
        refine fm_gb O rfl (fun h => ?_) (fun h => ?_)
        · have h4 : (r4.2 27 0 f.toNatClampNeg) = 40 := h
          have he := he.trans (if_pos h4)
          refine fm_gr O 4 (C' := (49, [(0, .inr (.inr (.inr (.inr (24, 0))))), (1, .inl f), (2, .inl op), (3, .inl aa)], [.inl 0], (fm_u r4.2 24 0 18 2, J, G, fm_P pa pb))) rfl ?_
          exact fm_gRe O rfl trivial (by first | (rw [he]; done) | (rw [he]; rfl) | rfl) (by first | (rw [he]; done) | (rw [he]; rfl) | rfl)
        · have h4 : ¬ (r4.2 27 0 f.toNatClampNeg) = 40 := h
          have he := he.trans (if_neg h4)
          have hp := hp.2 h4
          refine fm_gr O 8 (C' := (63, [(0, .inr (.inr (.inr (.inr (24, 0))))), (1, .inl f), (2, .inl op), (3, .inl aa)], [.inl f, .inr (.inr (.inr (.inr (27, 0)))), .inl (f * 40), .inr (.inr (.inr (.inr (25, 0))))], (r4.2, J, G, fm_P pa pb))) rfl ?_
          refine fm_gg O rfl hp.1 ?_
          have hp := hp.2
          refine fm_gr O 2 (C' := (66, [(0, .inr (.inr (.inr (.inr (24, 0))))), (1, .inl f), (2, .inl op), (3, .inl aa)], [.inl op, .inl ((f * 40) + (r4.2 27 0 f.toNatClampNeg)), .inr (.inr (.inr (.inr (25, 0))))], (r4.2, J, G, fm_P pa pb))) rfl ?_
          refine fm_gg O rfl hp.1 ?_
          have hp := hp.2
          refine fm_gr O 8 (C' := (80, [(0, .inr (.inr (.inr (.inr (24, 0))))), (1, .inl f), (2, .inl op), (3, .inl aa)], [.inl f, .inr (.inr (.inr (.inr (27, 0)))), .inl (f * 40), .inr (.inr (.inr (.inr (26, 0))))], (fm_u r4.2 25 0 (((f * 40) + (r4.2 27 0 f.toNatClampNeg)).toNatClampNeg) op, J, G, fm_P pa pb))) rfl ?_
          refine fm_gg O rfl hp.1 ?_
          have hp := hp.2
          refine fm_gr O 2 (C' := (83, [(0, .inr (.inr (.inr (.inr (24, 0))))), (1, .inl f), (2, .inl op), (3, .inl aa)], [.inl aa, .inl ((f * 40) + (r4.2 27 0 f.toNatClampNeg)), .inr (.inr (.inr (.inr (26, 0))))], (fm_u r4.2 25 0 (((f * 40) + (r4.2 27 0 f.toNatClampNeg)).toNatClampNeg) op, J, G, fm_P pa pb))) rfl ?_
          refine fm_gg O rfl hp.1 ?_
          have hp := hp.2
          refine fm_gr O 4 (C' := (90, [(0, .inr (.inr (.inr (.inr (24, 0))))), (1, .inl f), (2, .inl op), (3, .inl aa)], [.inl f, .inr (.inr (.inr (.inr (27, 0)))), .inl f, .inr (.inr (.inr (.inr (27, 0))))], (fm_u (fm_u r4.2 25 0 (((f * 40) + (r4.2 27 0 f.toNatClampNeg)).toNatClampNeg) op) 26 0 (((f * 40) + (r4.2 27 0 f.toNatClampNeg)).toNatClampNeg) aa, J, G, fm_P pa pb))) rfl ?_
          refine fm_gg O rfl hp.1 ?_
          have hp := hp.2
          refine fm_gr O 2 (C' := (93, [(0, .inr (.inr (.inr (.inr (24, 0))))), (1, .inl f), (2, .inl op), (3, .inl aa)], [.inl ((r4.2 27 0 f.toNatClampNeg) + 1), .inl f, .inr (.inr (.inr (.inr (27, 0))))], (fm_u (fm_u r4.2 25 0 (((f * 40) + (r4.2 27 0 f.toNatClampNeg)).toNatClampNeg) op) 26 0 (((f * 40) + (r4.2 27 0 f.toNatClampNeg)).toNatClampNeg) aa, J, G, fm_P pa pb))) rfl ?_
          refine fm_gg O rfl hp.1 ?_
          have hp := hp.2
          refine fm_gr O 2 (C' := (96, [(0, .inr (.inr (.inr (.inr (24, 0))))), (1, .inl f), (2, .inl op), (3, .inl aa)], [.inl 0, .inr (.inr (.inr (.inr (24, 0))))], (fm_u (fm_u (fm_u r4.2 25 0 (((f * 40) + (r4.2 27 0 f.toNatClampNeg)).toNatClampNeg) op) 26 0 (((f * 40) + (r4.2 27 0 f.toNatClampNeg)).toNatClampNeg) aa) 27 0 f.toNatClampNeg ((r4.2 27 0 f.toNatClampNeg) + 1), J, G, fm_P pa pb))) rfl ?_
          refine fm_gg O rfl (Or.inl rfl) ?_
          refine fm_gr O 3 (C' := (104, [(0, .inr (.inr (.inr (.inr (24, 0))))), (1, .inl f), (2, .inl op), (3, .inl aa)], [.inl f, .inr (.inr (.inr (.inr (27, 0))))], (fm_u (fm_u (fm_u (fm_u r4.2 25 0 (((f * 40) + (r4.2 27 0 f.toNatClampNeg)).toNatClampNeg) op) 26 0 (((f * 40) + (r4.2 27 0 f.toNatClampNeg)).toNatClampNeg) aa) 27 0 f.toNatClampNeg ((r4.2 27 0 f.toNatClampNeg) + 1)) 24 0 19 0, J, G, fm_P pa pb))) rfl ?_
          refine fm_gg O rfl hp ?_
          exact fm_gRe O rfl trivial (by first | (rw [he]; done) | (rw [he]; rfl) | rfl) (by first | (rw [he]; done) | (rw [he]; rfl) | rfl)
      · have h3 : ¬ r4.1 = 0 := h
        have he := he.trans (if_neg h3)
        refine fm_gr O 1 (C' := (31, [(0, .inr (.inr (.inr (.inr (24, 0))))), (1, .inl f), (2, .inl op), (3, .inl aa)], [.inl 0], (r4.2, J, G, fm_P pa pb))) rfl ?_
        exact fm_gRe O rfl trivial (by first | (rw [he]; done) | (rw [he]; rfl) | rfl) (by first | (rw [he]; done) | (rw [he]; rfl) | rfl)
    · have h2 : ¬ r3 = 0 := h
      have he := he.trans (if_neg h2)
      have hp := hp.2 h2
      refine fm_gr O 2 (C' := (24, [(0, .inr (.inr (.inr (.inr (24, 0))))), (1, .inl f), (2, .inl op), (3, .inl aa)], [.inl 1, .inr (.inr (.inr (.inr (24, 0))))], (I, J, G, fm_P pa pb))) rfl ?_
      have K := fmD_bad_c (d := d) hl (by omega) I J G pa pb 1
      generalize er5 : fmD_bad_f I 1 = r5 at he hp
      have he := he.trans (fm_letE _ _)
      have hp := fm_letP hp
      rw [er5] at K
      refine fm_cV0 O fmD_bad_o (i := 0) (as := [.inl 1]) (rest := []) (v := some (.inl r5.1)) rfl fk_6_90 rfl (by decide) fn_D_bad (Nat.le_of_ble_eq_true rfl) (K) ?_
      refine fm_gb O rfl (fun h => ?_) (fun h => ?_)
      · have h3 : r5.1 = 0 := h
        have he := he.trans (if_pos h3)
        have hp := hp.1 h3
        refine fm_gr O 3 (C' := (37, [(0, .inr (.inr (.inr (.inr (24, 0))))), (1, .inl f), (2, .inl op), (3, .inl aa)], [.inl f, .inr (.inr (.inr (.inr (27, 0))))], (r5.2, J, G, fm_P pa pb))) rfl ?_
        refine fm_gg O rfl hp.1 ?_
        have hp := hp.2
        refine fm_gr O 1 (C' := (40, [(0, .inr (.inr (.inr (.inr (24, 0))))), (1, .inl f), (2, .inl op), (3, .inl aa)], [.inl 40, .inl (r5.2 27 0 f.toNatClampNeg)], (r5.2, J, G, fm_P pa pb))) rfl ?_
        refine fm_gb O rfl (fun h => ?_) (fun h => ?_)
        · have h4 : (r5.2 27 0 f.toNatClampNeg) = 40 := h
          have he := he.trans (if_pos h4)
          refine fm_gr O 4 (C' := (49, [(0, .inr (.inr (.inr (.inr (24, 0))))), (1, .inl f), (2, .inl op), (3, .inl aa)], [.inl 0], (fm_u r5.2 24 0 18 2, J, G, fm_P pa pb))) rfl ?_
          exact fm_gRe O rfl trivial (by first | (rw [he]; done) | (rw [he]; rfl) | rfl) (by first | (rw [he]; done) | (rw [he]; rfl) | rfl)
        · have h4 : ¬ (r5.2 27 0 f.toNatClampNeg) = 40 := h
          have he := he.trans (if_neg h4)
          have hp := hp.2 h4
          refine fm_gr O 8 (C' := (63, [(0, .inr (.inr (.inr (.inr (24, 0))))), (1, .inl f), (2, .inl op), (3, .inl aa)], [.inl f, .inr (.inr (.inr (.inr (27, 0)))), .inl (f * 40), .inr (.inr (.inr (.inr (25, 0))))], (r5.2, J, G, fm_P pa pb))) rfl ?_
          refine fm_gg O rfl hp.1 ?_
          have hp := hp.2
          refine fm_gr O 2 (C' := (66, [(0, .inr (.inr (.inr (.inr (24, 0))))), (1, .inl f), (2, .inl op), (3, .inl aa)], [.inl op, .inl ((f * 40) + (r5.2 27 0 f.toNatClampNeg)), .inr (.inr (.inr (.inr (25, 0))))], (r5.2, J, G, fm_P pa pb))) rfl ?_
          refine fm_gg O rfl hp.1 ?_
          have hp := hp.2
          refine fm_gr O 8 (C' := (80, [(0, .inr (.inr (.inr (.inr (24, 0))))), (1, .inl f), (2, .inl op), (3, .inl aa)], [.inl f, .inr (.inr (.inr (.inr (27, 0)))), .inl (f * 40), .inr (.inr (.inr (.inr (26, 0))))], (fm_u r5.2 25 0 (((f * 40) + (r5.2 27 0 f.toNatClampNeg)).toNatClampNeg) op, J, G, fm_P pa pb))) rfl ?_
          refine fm_gg O rfl hp.1 ?_
          have hp := hp.2
          refine fm_gr O 2 (C' := (83, [(0, .inr (.inr (.inr (.inr (24, 0))))), (1, .inl f), (2, .inl op), (3, .inl aa)], [.inl aa, .inl ((f * 40) + (r5.2 27 0 f.toNatClampNeg)), .inr (.inr (.inr (.inr (26, 0))))], (fm_u r5.2 25 0 (((f * 40) + (r5.2 27 0 f.toNatClampNeg)).toNatClampNeg) op, J, G, fm_P pa pb))) rfl ?_
          refine fm_gg O rfl hp.1 ?_
          have hp := hp.2
          refine fm_gr O 4 (C' := (90, [(0, .inr (.inr (.inr (.inr (24, 0))))), (1, .inl f), (2, .inl op), (3, .inl aa)], [.inl f, .inr (.inr (.inr (.inr (27, 0)))), .inl f, .inr (.inr (.inr (.inr (27, 0))))], (fm_u (fm_u r5.2 25 0 (((f * 40) + (r5.2 27 0 f.toNatClampNeg)).toNatClampNeg) op) 26 0 (((f * 40) + (r5.2 27 0 f.toNatClampNeg)).toNatClampNeg) aa, J, G, fm_P pa pb))) rfl ?_
          refine fm_gg O rfl hp.1 ?_
          have hp := hp.2
          refine fm_gr O 2 (C' := (93, [(0, .inr (.inr (.inr (.inr (24, 0))))), (1, .inl f), (2, .inl op), (3, .inl aa)], [.inl ((r5.2 27 0 f.toNatClampNeg) + 1), .inl f, .inr (.inr (.inr (.inr (27, 0))))], (fm_u (fm_u r5.2 25 0 (((f * 40) + (r5.2 27 0 f.toNatClampNeg)).toNatClampNeg) op) 26 0 (((f * 40) + (r5.2 27 0 f.toNatClampNeg)).toNatClampNeg) aa, J, G, fm_P pa pb))) rfl ?_
          refine fm_gg O rfl hp.1 ?_
          have hp := hp.2
          refine fm_gr O 2 (C' := (96, [(0, .inr (.inr (.inr (.inr (24, 0))))), (1, .inl f), (2, .inl op), (3, .inl aa)], [.inl 0, .inr (.inr (.inr (.inr (24, 0))))], (fm_u (fm_u (fm_u r5.2 25 0 (((f * 40) + (r5.2 27 0 f.toNatClampNeg)).toNatClampNeg) op) 26 0 (((f * 40) + (r5.2 27 0 f.toNatClampNeg)).toNatClampNeg) aa) 27 0 f.toNatClampNeg ((r5.2 27 0 f.toNatClampNeg) + 1), J, G, fm_P pa pb))) rfl ?_
          refine fm_gg O rfl (Or.inl rfl) ?_
          refine fm_gr O 3 (C' := (104, [(0, .inr (.inr (.inr (.inr (24, 0))))), (1, .inl f), (2, .inl op), (3, .inl aa)], [.inl f, .inr (.inr (.inr (.inr (27, 0))))], (fm_u (fm_u (fm_u (fm_u r5.2 25 0 (((f * 40) + (r5.2 27 0 f.toNatClampNeg)).toNatClampNeg) op) 26 0 (((f * 40) + (r5.2 27 0 f.toNatClampNeg)).toNatClampNeg) aa) 27 0 f.toNatClampNeg ((r5.2 27 0 f.toNatClampNeg) + 1)) 24 0 19 0, J, G, fm_P pa pb))) rfl ?_
          refine fm_gg O rfl hp ?_
          exact fm_gRe O rfl trivial (by first | (rw [he]; done) | (rw [he]; rfl) | rfl) (by first | (rw [he]; done) | (rw [he]; rfl) | rfl)
      · have h3 : ¬ r5.1 = 0 := h
        have he := he.trans (if_neg h3)
        refine fm_gr O 1 (C' := (31, [(0, .inr (.inr (.inr (.inr (24, 0))))), (1, .inl f), (2, .inl op), (3, .inl aa)], [.inl 0], (r5.2, J, G, fm_P pa pb))) rfl ?_
        exact fm_gRe O rfl trivial (by first | (rw [he]; done) | (rw [he]; rfl) | rfl) (by first | (rw [he]; done) | (rw [he]; rfl) | rfl)
def fmD_erase_f (I : fm_MI) (f : Int32) : fm_MI :=
  fm_let (fmD_isFunction_f I f) (fun (r1 : Int32) => fm_let (fmD_bad_f I r1) (fun (r2 : Int32 × fm_MI) => if r2.1 = 0 then (fm_u (fm_u r2.2 27 0 f.toNatClampNeg 0) 24 0 19 0) else r2.2))
theorem fmD_erase_e (I : fm_MI) (f : Int32) : fmD_erase_f I f = fm_let (fmD_isFunction_f I f) (fun (r1 : Int32) => fm_let (fmD_bad_f I r1) (fun (r2 : Int32 × fm_MI) => if r2.1 = 0 then (fm_u (fm_u r2.2 27 0 f.toNatClampNeg 0) 24 0 19 0) else r2.2)) := rfl
def fmD_erase_p (I : fm_MI) (f : Int32) : Prop :=
  fmD_isFunction_p f ∧ (fm_let (fmD_isFunction_f I f) (fun (r1 : Int32) => fm_let (fmD_bad_f I r1) (fun (r2 : Int32 × fm_MI) => (r2.1 = 0 → vp_in f 4) ∧ (¬ r2.1 = 0 → True))))
set_option maxRecDepth 100000 in
set_option maxHeartbeats 4000000 in
theorem fmD_erase_c {E : fm_Ev} (hl : E.1.stackTraces = false) {d : Nat} (hd : 2 ≤ d) (I : fm_MI) (J : fm_MJ) (G : fm_MG) (pa : Nat × Nat) (pb : Nat × Nat) (f : Int32) (hp : fmD_erase_p I f) : fm_Ct E d fmD_erase 0 [.inr (.inr (.inr (.inr (24, 0)))), .inl f] (I, J, G, fm_P pa pb) none (fmD_erase_f I f, J, G, fm_P pa pb) := by
  obtain ⟨d, rfl⟩ : ∃ d', d = d' + 1 := ⟨d - 1, by omega⟩
  refine fm_ct fmD_erase_o hl (Nat.le_of_ble_eq_true rfl) ?_
  have O := fmD_erase_o.1
  unfold fmD_erase_p at hp
  have he := fmD_erase_e I f
  refine fm_gr O 3 (C' := (3, [(0, .inr (.inr (.inr (.inr (24, 0))))), (1, .inl f)], [.inl f, .inr (.inr (.inr (.inr (24, 0)))), .inr (.inr (.inr (.inr (24, 0))))], (I, J, G, fm_P pa pb))) rfl ?_
  have hc := hp.1
  have hp := hp.2
  have K := fmD_isFunction_c (d := d) hl (by omega) I J G pa pb f hc
  generalize er1 : fmD_isFunction_f I f = r1 at he hp
  have he := he.trans (fm_letE _ _)
  have hp := fm_letP hp
  rw [er1] at K
  refine fm_cV0 O fmD_isFunction_o (i := 0) (as := [.inl f]) (rest := [.inr (.inr (.inr (.inr (24, 0))))]) (v := some (.inl r1)) rfl fk_6_98 rfl (by decide) fn_D_isFunction (Nat.le_of_ble_eq_true rfl) (K) ?_
  have K := fmD_bad_c (d := d) hl (by omega) I J G pa pb r1
  generalize er2 : fmD_bad_f I r1 = r2 at he hp
  have he := he.trans (fm_letE _ _)
  have hp := fm_letP hp
  rw [er2] at K
  refine fm_cV0 O fmD_bad_o (i := 0) (as := [.inl r1]) (rest := []) (v := some (.inl r2.1)) rfl fk_6_90 rfl (by decide) fn_D_bad (Nat.le_of_ble_eq_true rfl) (K) ?_
  refine fm_gb O rfl (fun h => ?_) (fun h => ?_)
  · have h1 : r2.1 = 0 := h
    have he := he.trans (if_pos h1)
    have hp := hp.1 h1
    refine fm_gr O 4 (C' := (19, [(0, .inr (.inr (.inr (.inr (24, 0))))), (1, .inl f)], [.inl 0, .inl f, .inr (.inr (.inr (.inr (27, 0))))], (r2.2, J, G, fm_P pa pb))) rfl ?_
    refine fm_gg O rfl hp ?_
    refine fm_gr O 2 (C' := (22, [(0, .inr (.inr (.inr (.inr (24, 0))))), (1, .inl f)], [.inl 0, .inr (.inr (.inr (.inr (24, 0))))], (fm_u r2.2 27 0 f.toNatClampNeg 0, J, G, fm_P pa pb))) rfl ?_
    refine fm_gg O rfl (Or.inl rfl) ?_
    exact fm_gRe O rfl trivial (by first | (rw [he]; done) | (rw [he]; rfl) | rfl) (by first | (rw [he]; done) | (rw [he]; rfl) | rfl)
  · have h1 : ¬ r2.1 = 0 := h
    have he := he.trans (if_neg h1)
    exact fm_gRe O rfl trivial (by first | (rw [he]; done) | (rw [he]; rfl) | rfl) (by first | (rw [he]; done) | (rw [he]; rfl) | rfl)
def fmD_wrong_f (I : fm_MI) (wh : Int32) : fm_MI :=
  if (I 24 0 17) = 0 then (fm_u I 24 0 17 wh) else I
theorem fmD_wrong_e (I : fm_MI) (wh : Int32) : fmD_wrong_f I wh = if (I 24 0 17) = 0 then (fm_u I 24 0 17 wh) else I := rfl
set_option maxRecDepth 100000 in
set_option maxHeartbeats 4000000 in
theorem fmD_wrong_c {E : fm_Ev} (hl : E.1.stackTraces = false) {d : Nat} (hd : 0 ≤ d) (I : fm_MI) (J : fm_MJ) (G : fm_MG) (pa : Nat × Nat) (pb : Nat × Nat) (wh : Int32) : fm_Ct E d fmD_wrong 0 [.inr (.inr (.inr (.inr (24, 0)))), .inl wh] (I, J, G, fm_P pa pb) none (fmD_wrong_f I wh, J, G, fm_P pa pb) := by
  refine fm_ct fmD_wrong_o hl (Nat.le_of_ble_eq_true rfl) ?_
  have O := fmD_wrong_o.1
  have he := fmD_wrong_e I wh
  refine fm_gr O 2 (C' := (4, [(0, .inr (.inr (.inr (.inr (24, 0))))), (1, .inl wh)], [.inl (I 24 0 17)], (I, J, G, fm_P pa pb))) rfl ?_
  refine fm_gb O rfl (fun h => ?_) (fun h => ?_)
  · have h1 : (I 24 0 17) = 0 := h
    have he := he.trans (if_pos h1)
    refine fm_gr O 3 (C' := (12, [(0, .inr (.inr (.inr (.inr (24, 0))))), (1, .inl wh)], [], (fm_u I 24 0 17 wh, J, G, fm_P pa pb))) rfl ?_
    exact fm_gRe O rfl trivial (by first | (rw [he]; done) | (rw [he]; rfl) | rfl) (by first | (rw [he]; done) | (rw [he]; rfl) | rfl)
  · have h1 : ¬ (I 24 0 17) = 0 := h
    have he := he.trans (if_neg h1)
    exact fm_gRe O rfl trivial (by first | (rw [he]; done) | (rw [he]; rfl) | rfl) (by first | (rw [he]; done) | (rw [he]; rfl) | rfl)
def fmD_put_f (I : fm_MI) (t : Int32) : fm_MI :=
  if (I 24 0 17) ≤ 0 then (if (I 24 0 15) = 20 then (fm_u I 24 0 17 7) else (fm_u (fm_u I 35 0 ((I 24 0 15).toNatClampNeg) t) 24 0 15 ((I 24 0 15) + 1))) else I
theorem fmD_put_e (I : fm_MI) (t : Int32) : fmD_put_f I t = if (I 24 0 17) ≤ 0 then (if (I 24 0 15) = 20 then (fm_u I 24 0 17 7) else (fm_u (fm_u I 35 0 ((I 24 0 15).toNatClampNeg) t) 24 0 15 ((I 24 0 15) + 1))) else I := rfl
def fmD_put_p (I : fm_MI) : Prop :=
  ((I 24 0 17) ≤ 0 → ((I 24 0 15) = 20 → True) ∧ (¬ (I 24 0 15) = 20 → vp_in (I 24 0 15) 24)) ∧ (¬ (I 24 0 17) ≤ 0 → True)
set_option maxRecDepth 100000 in
set_option maxHeartbeats 4000000 in
theorem fmD_put_c {E : fm_Ev} (hl : E.1.stackTraces = false) {d : Nat} (hd : 0 ≤ d) (I : fm_MI) (J : fm_MJ) (G : fm_MG) (pa : Nat × Nat) (pb : Nat × Nat) (t : Int32) (hp : fmD_put_p I) : fm_Ct E d fmD_put 0 [.inr (.inr (.inr (.inr (24, 0)))), .inl t] (I, J, G, fm_P pa pb) none (fmD_put_f I t, J, G, fm_P pa pb) := by
  refine fm_ct fmD_put_o hl (Nat.le_of_ble_eq_true rfl) ?_
  have O := fmD_put_o.1
  unfold fmD_put_p at hp
  have he := fmD_put_e I t
  refine fm_gr O 2 (C' := (4, [(0, .inr (.inr (.inr (.inr (24, 0))))), (1, .inl t)], [.inl (I 24 0 17)], (I, J, G, fm_P pa pb))) rfl ?_
  refine fm_gb O rfl (fun h => ?_) (fun h => ?_)
  · have h1 : (I 24 0 17) ≤ 0 := h
    have he := he.trans (if_pos h1)
    have hp := hp.1 h1
    refine fm_gr O 3 (C' := (14, [(0, .inr (.inr (.inr (.inr (24, 0))))), (1, .inl t)], [.inl 20, .inl (I 24 0 15)], (I, J, G, fm_P pa pb))) rfl ?_
    refine fm_gb O rfl (fun h => ?_) (fun h => ?_)
    · have h2 : (I 24 0 15) = 20 := h
      have he := he.trans (if_pos h2)
      refine fm_gr O 3 (C' := (23, [(0, .inr (.inr (.inr (.inr (24, 0))))), (1, .inl t)], [], (fm_u I 24 0 17 7, J, G, fm_P pa pb))) rfl ?_
      exact fm_gRe O rfl trivial (by first | (rw [he]; done) | (rw [he]; rfl) | rfl) (by first | (rw [he]; done) | (rw [he]; rfl) | rfl)
    · have h2 : ¬ (I 24 0 15) = 20 := h
      have he := he.trans (if_neg h2)
      have hp := hp.2 h2
      refine fm_gr O 5 (C' := (33, [(0, .inr (.inr (.inr (.inr (24, 0))))), (1, .inl t)], [.inl t, .inl (I 24 0 15), .inr (.inr (.inr (.inr (35, 0))))], (I, J, G, fm_P pa pb))) rfl ?_
      refine fm_gg O rfl hp ?_
      refine fm_gr O 6 (C' := (44, [(0, .inr (.inr (.inr (.inr (24, 0))))), (1, .inl t)], [], (fm_u (fm_u I 35 0 ((I 24 0 15).toNatClampNeg) t) 24 0 15 ((I 24 0 15) + 1), J, G, fm_P pa pb))) rfl ?_
      exact fm_gRe O rfl trivial (by first | (rw [he]; done) | (rw [he]; rfl) | rfl) (by first | (rw [he]; done) | (rw [he]; rfl) | rfl)
  · have h1 : ¬ (I 24 0 17) ≤ 0 := h
    have he := he.trans (if_neg h1)
    exact fm_gRe O rfl trivial (by first | (rw [he]; done) | (rw [he]; rfl) | rfl) (by first | (rw [he]; done) | (rw [he]; rfl) | rfl)
def fmD_take_f (I : fm_MI) (t : Int32) : Int32 × fm_MI :=
  if (I 24 0 17) ≤ 0 then (if (I 24 0 15) = (I 36 0 (((I 24 0 16) - 1).toNatClampNeg)) then (if (I 39 0 (((I 24 0 16) - 1).toNatClampNeg)) = 0 then ((t, fm_u I 24 0 17 2)) else ((t, I))) else (if t = 5 then (if (I 35 0 (((I 24 0 15) - 1).toNatClampNeg)) = 5 then ((t, fm_u I 24 0 15 ((I 24 0 15) - 1))) else ((I 35 0 (((I 24 0 15) - 1).toNatClampNeg), fm_u I 24 0 15 ((I 24 0 15) - 1)))) else (if (I 35 0 (((I 24 0 15) - 1).toNatClampNeg)) = 5 then ((t, fm_u I 24 0 15 ((I 24 0 15) - 1))) else (if (I 35 0 (((I 24 0 15) - 1).toNatClampNeg)) = t then ((I 35 0 (((I 24 0 15) - 1).toNatClampNeg), fm_u I 24 0 15 ((I 24 0 15) - 1))) else ((I 35 0 (((I 24 0 15) - 1).toNatClampNeg), fm_u (fm_u I 24 0 15 ((I 24 0 15) - 1)) 24 0 17 3)))))) else ((5, I))
theorem fmD_take_e (I : fm_MI) (t : Int32) : fmD_take_f I t = if (I 24 0 17) ≤ 0 then (if (I 24 0 15) = (I 36 0 (((I 24 0 16) - 1).toNatClampNeg)) then (if (I 39 0 (((I 24 0 16) - 1).toNatClampNeg)) = 0 then ((t, fm_u I 24 0 17 2)) else ((t, I))) else (if t = 5 then (if (I 35 0 (((I 24 0 15) - 1).toNatClampNeg)) = 5 then ((t, fm_u I 24 0 15 ((I 24 0 15) - 1))) else ((I 35 0 (((I 24 0 15) - 1).toNatClampNeg), fm_u I 24 0 15 ((I 24 0 15) - 1)))) else (if (I 35 0 (((I 24 0 15) - 1).toNatClampNeg)) = 5 then ((t, fm_u I 24 0 15 ((I 24 0 15) - 1))) else (if (I 35 0 (((I 24 0 15) - 1).toNatClampNeg)) = t then ((I 35 0 (((I 24 0 15) - 1).toNatClampNeg), fm_u I 24 0 15 ((I 24 0 15) - 1))) else ((I 35 0 (((I 24 0 15) - 1).toNatClampNeg), fm_u (fm_u I 24 0 15 ((I 24 0 15) - 1)) 24 0 17 3)))))) else ((5, I)) := rfl
def fmD_take_p (I : fm_MI) : Prop :=
  ((I 24 0 17) ≤ 0 → (vp_in ((I 24 0 16) - 1) 12) ∧ (((I 24 0 15) = (I 36 0 (((I 24 0 16) - 1).toNatClampNeg)) → vp_in ((I 24 0 16) - 1) 12) ∧ (¬ (I 24 0 15) = (I 36 0 (((I 24 0 16) - 1).toNatClampNeg)) → vp_in ((I 24 0 15) - 1) 24))) ∧ (¬ (I 24 0 17) ≤ 0 → True)
set_option maxRecDepth 100000 in
set_option maxHeartbeats 4000000 in
theorem fmD_take_c {E : fm_Ev} (hl : E.1.stackTraces = false) {d : Nat} (hd : 0 ≤ d) (I : fm_MI) (J : fm_MJ) (G : fm_MG) (pa : Nat × Nat) (pb : Nat × Nat) (t : Int32) (hp : fmD_take_p I) : fm_Ct E d fmD_take 0 [.inr (.inr (.inr (.inr (24, 0)))), .inl t] (I, J, G, fm_P pa pb) (some (.inl ((fmD_take_f I t).1))) ((fmD_take_f I t).2, J, G, fm_P pa pb) := by
  refine fm_ct fmD_take_o hl (Nat.le_of_ble_eq_true rfl) ?_
  have O := fmD_take_o.1
  unfold fmD_take_p at hp
  have he := fmD_take_e I t
  refine fm_gr O 2 (C' := (4, [(0, .inr (.inr (.inr (.inr (24, 0))))), (1, .inl t)], [.inl (I 24 0 17)], (I, J, G, fm_P pa pb))) rfl ?_
  refine fm_gb O rfl (fun h => ?_) (fun h => ?_)
  · have h1 : (I 24 0 17) ≤ 0 := h
    have he := he.trans (if_pos h1)
    have hp := hp.1 h1
    refine fm_gr O 8 (C' := (23, [(0, .inr (.inr (.inr (.inr (24, 0))))), (1, .inl t)], [.inl ((I 24 0 16) - 1), .inr (.inr (.inr (.inr (36, 0)))), .inl (I 24 0 15)], (I, J, G, fm_P pa pb))) rfl ?_
    refine fm_gg O rfl hp.1 ?_
    have hp := hp.2
    refine fm_gb O rfl (fun h => ?_) (fun h => ?_)
    · have h2 : (I 24 0 15) = (I 36 0 (((I 24 0 16) - 1).toNatClampNeg)) := h
      have he := he.trans (if_pos h2)
      have hp := hp.1 h2
      refine fm_gr O 6 (C' := (37, [(0, .inr (.inr (.inr (.inr (24, 0))))), (1, .inl t)], [.inl ((I 24 0 16) - 1), .inr (.inr (.inr (.inr (39, 0))))], (I, J, G, fm_P pa pb))) rfl ?_
      refine fm_gg O rfl hp ?_
      refine fm_gb O rfl (fun h => ?_) (fun h => ?_)
      · have h3 : (I 39 0 (((I 24 0 16) - 1).toNatClampNeg)) = 0 := h
        have he := he.trans (if_pos h3)
        refine fm_gr O 4 (C' := (47, [(0, .inr (.inr (.inr (.inr (24, 0))))), (1, .inl t)], [.inl t], (fm_u I 24 0 17 2, J, G, fm_P pa pb))) rfl ?_
        exact fm_gRe O rfl trivial (by first | (rw [he]; done) | (rw [he]; rfl) | rfl) (by first | (rw [he]; done) | (rw [he]; rfl) | rfl)
      · have h3 : ¬ (I 39 0 (((I 24 0 16) - 1).toNatClampNeg)) = 0 := h
        have he := he.trans (if_neg h3)
        refine fm_gr O 1 (C' := (47, [(0, .inr (.inr (.inr (.inr (24, 0))))), (1, .inl t)], [.inl t], (I, J, G, fm_P pa pb))) rfl ?_
        exact fm_gRe O rfl trivial (by first | (rw [he]; done) | (rw [he]; rfl) | rfl) (by first | (rw [he]; done) | (rw [he]; rfl) | rfl)
    · have h2 : ¬ (I 24 0 15) = (I 36 0 (((I 24 0 16) - 1).toNatClampNeg)) := h
      have he := he.trans (if_neg h2)
      have hp := hp.2 h2
      refine fm_gr O 10 (C' := (66, [(0, .inr (.inr (.inr (.inr (24, 0))))), (1, .inl t)], [.inl ((I 24 0 15) - 1), .inr (.inr (.inr (.inr (35, 0))))], (fm_u I 24 0 15 ((I 24 0 15) - 1), J, G, fm_P pa pb))) rfl ?_
      refine fm_gg O rfl hp ?_
      refine fm_gr O 3 (C' := (70, [(2, .inl (I 35 0 (((I 24 0 15) - 1).toNatClampNeg))), (0, .inr (.inr (.inr (.inr (24, 0))))), (1, .inl t)], [.inl 5, .inl t], (fm_u I 24 0 15 ((I 24 0 15) - 1), J, G, fm_P pa pb))) rfl ?_
      refine fm_gb O rfl (fun h => ?_) (fun h => ?_)
      · have h3 : t = 5 := h
        have he := he.trans (if_pos h3)
        refine fm_gr O 2 (C' := (90, [(2, .inl (I 35 0 (((I 24 0 15) - 1).toNatClampNeg))), (0, .inr (.inr (.inr (.inr (24, 0))))), (1, .inl t)], [.inl 5, .inl (I 35 0 (((I 24 0 15) - 1).toNatClampNeg))], (fm_u I 24 0 15 ((I 24 0 15) - 1), J, G, fm_P pa pb))) rfl ?_
        refine fm_gb O rfl (fun h => ?_) (fun h => ?_)
        · have h4 : (I 35 0 (((I 24 0 15) - 1).toNatClampNeg)) = 5 := h
          have he := he.trans (if_pos h4)
          refine fm_gr O 2 (C' := (98, [(2, .inl (I 35 0 (((I 24 0 15) - 1).toNatClampNeg))), (0, .inr (.inr (.inr (.inr (24, 0))))), (1, .inl t)], [.inl t], (fm_u I 24 0 15 ((I 24 0 15) - 1), J, G, fm_P pa pb))) rfl ?_
          exact fm_gRe O rfl trivial (by first | (rw [he]; done) | (rw [he]; rfl) | rfl) (by first | (rw [he]; done) | (rw [he]; rfl) | rfl)
        · have h4 : ¬ (I 35 0 (((I 24 0 15) - 1).toNatClampNeg)) = 5 := h
          have he := he.trans (if_neg h4)
          refine fm_gr O 1 (C' := (98, [(2, .inl (I 35 0 (((I 24 0 15) - 1).toNatClampNeg))), (0, .inr (.inr (.inr (.inr (24, 0))))), (1, .inl t)], [.inl (I 35 0 (((I 24 0 15) - 1).toNatClampNeg))], (fm_u I 24 0 15 ((I 24 0 15) - 1), J, G, fm_P pa pb))) rfl ?_
          exact fm_gRe O rfl trivial (by first | (rw [he]; done) | (rw [he]; rfl) | rfl) (by first | (rw [he]; done) | (rw [he]; rfl) | rfl)
      · have h3 : ¬ t = 5 := h
        have he := he.trans (if_neg h3)
        refine fm_gr O 2 (C' := (75, [(2, .inl (I 35 0 (((I 24 0 15) - 1).toNatClampNeg))), (0, .inr (.inr (.inr (.inr (24, 0))))), (1, .inl t)], [.inl 5, .inl (I 35 0 (((I 24 0 15) - 1).toNatClampNeg))], (fm_u I 24 0 15 ((I 24 0 15) - 1), J, G, fm_P pa pb))) rfl ?_
        refine fm_gb O rfl (fun h => ?_) (fun h => ?_)
        · have h4 : (I 35 0 (((I 24 0 15) - 1).toNatClampNeg)) = 5 := h
          have he := he.trans (if_pos h4)
          refine fm_gr O 2 (C' := (90, [(2, .inl (I 35 0 (((I 24 0 15) - 1).toNatClampNeg))), (0, .inr (.inr (.inr (.inr (24, 0))))), (1, .inl t)], [.inl 5, .inl (I 35 0 (((I 24 0 15) - 1).toNatClampNeg))], (fm_u I 24 0 15 ((I 24 0 15) - 1), J, G, fm_P pa pb))) rfl ?_
          refine fm_gb O rfl (fun h => ?_) (fun h => ?_)
          rotate_left
          · exact absurd h4 h
          · refine fm_gr O 2 (C' := (98, [(2, .inl (I 35 0 (((I 24 0 15) - 1).toNatClampNeg))), (0, .inr (.inr (.inr (.inr (24, 0))))), (1, .inl t)], [.inl t], (fm_u I 24 0 15 ((I 24 0 15) - 1), J, G, fm_P pa pb))) rfl ?_
            exact fm_gRe O rfl trivial (by first | (rw [he]; done) | (rw [he]; rfl) | rfl) (by first | (rw [he]; done) | (rw [he]; rfl) | rfl)
        · have h4 : ¬ (I 35 0 (((I 24 0 15) - 1).toNatClampNeg)) = 5 := h
          have he := he.trans (if_neg h4)
          refine fm_gr O 2 (C' := (80, [(2, .inl (I 35 0 (((I 24 0 15) - 1).toNatClampNeg))), (0, .inr (.inr (.inr (.inr (24, 0))))), (1, .inl t)], [.inl t, .inl (I 35 0 (((I 24 0 15) - 1).toNatClampNeg))], (fm_u I 24 0 15 ((I 24 0 15) - 1), J, G, fm_P pa pb))) rfl ?_
          refine fm_gb O rfl (fun h => ?_) (fun h => ?_)
          · have h5 : (I 35 0 (((I 24 0 15) - 1).toNatClampNeg)) = t := h
            have he := he.trans (if_pos h5)
            refine fm_gr O 2 (C' := (90, [(2, .inl (I 35 0 (((I 24 0 15) - 1).toNatClampNeg))), (0, .inr (.inr (.inr (.inr (24, 0))))), (1, .inl t)], [.inl 5, .inl (I 35 0 (((I 24 0 15) - 1).toNatClampNeg))], (fm_u I 24 0 15 ((I 24 0 15) - 1), J, G, fm_P pa pb))) rfl ?_
            refine fm_gb O rfl (fun h => ?_) (fun h => ?_)
            · exact absurd h h4
            · refine fm_gr O 1 (C' := (98, [(2, .inl (I 35 0 (((I 24 0 15) - 1).toNatClampNeg))), (0, .inr (.inr (.inr (.inr (24, 0))))), (1, .inl t)], [.inl (I 35 0 (((I 24 0 15) - 1).toNatClampNeg))], (fm_u I 24 0 15 ((I 24 0 15) - 1), J, G, fm_P pa pb))) rfl ?_
              exact fm_gRe O rfl trivial (by first | (rw [he]; done) | (rw [he]; rfl) | rfl) (by first | (rw [he]; done) | (rw [he]; rfl) | rfl)
          · have h5 : ¬ (I 35 0 (((I 24 0 15) - 1).toNatClampNeg)) = t := h
            have he := he.trans (if_neg h5)
            refine fm_gr O 5 (C' := (90, [(2, .inl (I 35 0 (((I 24 0 15) - 1).toNatClampNeg))), (0, .inr (.inr (.inr (.inr (24, 0))))), (1, .inl t)], [.inl 5, .inl (I 35 0 (((I 24 0 15) - 1).toNatClampNeg))], (fm_u (fm_u I 24 0 15 ((I 24 0 15) - 1)) 24 0 17 3, J, G, fm_P pa pb))) rfl ?_
            refine fm_gb O rfl (fun h => ?_) (fun h => ?_)
            · exact absurd h h4
            · refine fm_gr O 1 (C' := (98, [(2, .inl (I 35 0 (((I 24 0 15) - 1).toNatClampNeg))), (0, .inr (.inr (.inr (.inr (24, 0))))), (1, .inl t)], [.inl (I 35 0 (((I 24 0 15) - 1).toNatClampNeg))], (fm_u (fm_u I 24 0 15 ((I 24 0 15) - 1)) 24 0 17 3, J, G, fm_P pa pb))) rfl ?_
              exact fm_gRe O rfl trivial (by first | (rw [he]; done) | (rw [he]; rfl) | rfl) (by first | (rw [he]; done) | (rw [he]; rfl) | rfl)
  · have h1 : ¬ (I 24 0 17) ≤ 0 := h
    have he := he.trans (if_neg h1)
    refine fm_gr O 1 (C' := (8, [(0, .inr (.inr (.inr (.inr (24, 0))))), (1, .inl t)], [.inl 5], (I, J, G, fm_P pa pb))) rfl ?_
    exact fm_gRe O rfl trivial (by first | (rw [he]; done) | (rw [he]; rfl) | rfl) (by first | (rw [he]; done) | (rw [he]; rfl) | rfl)
def fmD_begin_f (I : fm_MI) (how : Int32) (t : Int32) : fm_MI :=
  if (I 24 0 17) ≤ 0 then (if (I 24 0 16) = 9 then (fm_u I 24 0 17 7) else (fm_u (fm_u (fm_u (fm_u (fm_u I 36 0 ((I 24 0 16).toNatClampNeg) (I 24 0 15)) 37 0 ((I 24 0 16).toNatClampNeg) t) 38 0 ((I 24 0 16).toNatClampNeg) how) 39 0 ((I 24 0 16).toNatClampNeg) 0) 24 0 16 ((I 24 0 16) + 1))) else I
theorem fmD_begin_e (I : fm_MI) (how : Int32) (t : Int32) : fmD_begin_f I how t = if (I 24 0 17) ≤ 0 then (if (I 24 0 16) = 9 then (fm_u I 24 0 17 7) else (fm_u (fm_u (fm_u (fm_u (fm_u I 36 0 ((I 24 0 16).toNatClampNeg) (I 24 0 15)) 37 0 ((I 24 0 16).toNatClampNeg) t) 38 0 ((I 24 0 16).toNatClampNeg) how) 39 0 ((I 24 0 16).toNatClampNeg) 0) 24 0 16 ((I 24 0 16) + 1))) else I := rfl
def fmD_begin_p (I : fm_MI) : Prop :=
  ((I 24 0 17) ≤ 0 → ((I 24 0 16) = 9 → True) ∧ (¬ (I 24 0 16) = 9 → (vp_in (I 24 0 16) 12) ∧ ((vp_in (I 24 0 16) 12) ∧ ((vp_in (I 24 0 16) 12) ∧ (vp_in (I 24 0 16) 12))))) ∧ (¬ (I 24 0 17) ≤ 0 → True)
set_option maxRecDepth 100000 in
set_option maxHeartbeats 4000000 in
theorem fmD_begin_c {E : fm_Ev} (hl : E.1.stackTraces = false) {d : Nat} (hd : 0 ≤ d) (I : fm_MI) (J : fm_MJ) (G : fm_MG) (pa : Nat × Nat) (pb : Nat × Nat) (how : Int32) (t : Int32) (hp : fmD_begin_p I) : fm_Ct E d fmD_begin 0 [.inr (.inr (.inr (.inr (24, 0)))), .inl how, .inl t] (I, J, G, fm_P pa pb) none (fmD_begin_f I how t, J, G, fm_P pa pb) := by
  refine fm_ct fmD_begin_o hl (Nat.le_of_ble_eq_true rfl) ?_
  have O := fmD_begin_o.1
  unfold fmD_begin_p at hp
  have he := fmD_begin_e I how t
  refine fm_gr O 2 (C' := (4, [(0, .inr (.inr (.inr (.inr (24, 0))))), (1, .inl how), (2, .inl t)], [.inl (I 24 0 17)], (I, J, G, fm_P pa pb))) rfl ?_
  refine fm_gb O rfl (fun h => ?_) (fun h => ?_)
  · have h1 : (I 24 0 17) ≤ 0 := h
    have he := he.trans (if_pos h1)
    have hp := hp.1 h1
    refine fm_gr O 3 (C' := (14, [(0, .inr (.inr (.inr (.inr (24, 0))))), (1, .inl how), (2, .inl t)], [.inl 9, .inl (I 24 0 16)], (I, J, G, fm_P pa pb))) rfl ?_
    refine fm_gb O rfl (fun h => ?_) (fun h => ?_)
    · have h2 : (I 24 0 16) = 9 := h
      have he := he.trans (if_pos h2)
      refine fm_gr O 3 (C' := (23, [(0, .inr (.inr (.inr (.inr (24, 0))))), (1, .inl how), (2, .inl t)], [], (fm_u I 24 0 17 7, J, G, fm_P pa pb))) rfl ?_
      exact fm_gRe O rfl trivial (by first | (rw [he]; done) | (rw [he]; rfl) | rfl) (by first | (rw [he]; done) | (rw [he]; rfl) | rfl)
    · have h2 : ¬ (I 24 0 16) = 9 := h
      have he := he.trans (if_neg h2)
      have hp := hp.2 h2
      refine fm_gr O 6 (C' := (36, [(0, .inr (.inr (.inr (.inr (24, 0))))), (1, .inl how), (2, .inl t)], [.inl (I 24 0 15), .inl (I 24 0 16), .inr (.inr (.inr (.inr (36, 0))))], (I, J, G, fm_P pa pb))) rfl ?_
      refine fm_gg O rfl hp.1 ?_
      have hp := hp.2
      refine fm_gr O 5 (C' := (46, [(0, .inr (.inr (.inr (.inr (24, 0))))), (1, .inl how), (2, .inl t)], [.inl t, .inl (I 24 0 16), .inr (.inr (.inr (.inr (37, 0))))], (fm_u I 36 0 ((I 24 0 16).toNatClampNeg) (I 24 0 15), J, G, fm_P pa pb))) rfl ?_
      refine fm_gg O rfl hp.1 ?_
      have hp := hp.2
      refine fm_gr O 5 (C' := (56, [(0, .inr (.inr (.inr (.inr (24, 0))))), (1, .inl how), (2, .inl t)], [.inl how, .inl (I 24 0 16), .inr (.inr (.inr (.inr (38, 0))))], (fm_u (fm_u I 36 0 ((I 24 0 16).toNatClampNeg) (I 24 0 15)) 37 0 ((I 24 0 16).toNatClampNeg) t, J, G, fm_P pa pb))) rfl ?_
      refine fm_gg O rfl hp.1 ?_
      have hp := hp.2
      refine fm_gr O 5 (C' := (66, [(0, .inr (.inr (.inr (.inr (24, 0))))), (1, .inl how), (2, .inl t)], [.inl 0, .inl (I 24 0 16), .inr (.inr (.inr (.inr (39, 0))))], (fm_u (fm_u (fm_u I 36 0 ((I 24 0 16).toNatClampNeg) (I 24 0 15)) 37 0 ((I 24 0 16).toNatClampNeg) t) 38 0 ((I 24 0 16).toNatClampNeg) how, J, G, fm_P pa pb))) rfl ?_
      refine fm_gg O rfl ⟨hp, Or.inl rfl⟩ ?_
      refine fm_gr O 6 (C' := (77, [(0, .inr (.inr (.inr (.inr (24, 0))))), (1, .inl how), (2, .inl t)], [], (fm_u (fm_u (fm_u (fm_u (fm_u I 36 0 ((I 24 0 16).toNatClampNeg) (I 24 0 15)) 37 0 ((I 24 0 16).toNatClampNeg) t) 38 0 ((I 24 0 16).toNatClampNeg) how) 39 0 ((I 24 0 16).toNatClampNeg) 0) 24 0 16 ((I 24 0 16) + 1), J, G, fm_P pa pb))) rfl ?_
      exact fm_gRe O rfl trivial (by first | (rw [he]; done) | (rw [he]; rfl) | rfl) (by first | (rw [he]; done) | (rw [he]; rfl) | rfl)
  · have h1 : ¬ (I 24 0 17) ≤ 0 := h
    have he := he.trans (if_neg h1)
    exact fm_gRe O rfl trivial (by first | (rw [he]; done) | (rw [he]; rfl) | rfl) (by first | (rw [he]; done) | (rw [he]; rfl) | rfl)
def fmD_die_f (I : fm_MI) : fm_MI :=
  if (I 24 0 17) ≤ 0 then (fm_u (fm_u I 24 0 15 (I 36 0 (((I 24 0 16) - 1).toNatClampNeg))) 39 0 (((I 24 0 16) - 1).toNatClampNeg) 1) else I
theorem fmD_die_e (I : fm_MI) : fmD_die_f I = if (I 24 0 17) ≤ 0 then (fm_u (fm_u I 24 0 15 (I 36 0 (((I 24 0 16) - 1).toNatClampNeg))) 39 0 (((I 24 0 16) - 1).toNatClampNeg) 1) else I := rfl
def fmD_die_p (I : fm_MI) : Prop :=
  ((I 24 0 17) ≤ 0 → (vp_in ((I 24 0 16) - 1) 12) ∧ (vp_in ((I 24 0 16) - 1) 12)) ∧ (¬ (I 24 0 17) ≤ 0 → True)
set_option maxRecDepth 100000 in
set_option maxHeartbeats 4000000 in
theorem fmD_die_c {E : fm_Ev} (hl : E.1.stackTraces = false) {d : Nat} (hd : 0 ≤ d) (I : fm_MI) (J : fm_MJ) (G : fm_MG) (pa : Nat × Nat) (pb : Nat × Nat) (hp : fmD_die_p I) : fm_Ct E d fmD_die 0 [.inr (.inr (.inr (.inr (24, 0))))] (I, J, G, fm_P pa pb) none (fmD_die_f I, J, G, fm_P pa pb) := by
  refine fm_ct fmD_die_o hl (Nat.le_of_ble_eq_true rfl) ?_
  have O := fmD_die_o.1
  unfold fmD_die_p at hp
  have he := fmD_die_e I
  refine fm_gr O 2 (C' := (4, [(0, .inr (.inr (.inr (.inr (24, 0)))))], [.inl (I 24 0 17)], (I, J, G, fm_P pa pb))) rfl ?_
  refine fm_gb O rfl (fun h => ?_) (fun h => ?_)
  · have h1 : (I 24 0 17) ≤ 0 := h
    have he := he.trans (if_pos h1)
    have hp := hp.1 h1
    refine fm_gr O 7 (C' := (19, [(0, .inr (.inr (.inr (.inr (24, 0)))))], [.inl ((I 24 0 16) - 1), .inr (.inr (.inr (.inr (36, 0)))), .inr (.inr (.inr (.inr (24, 0))))], (I, J, G, fm_P pa pb))) rfl ?_
    refine fm_gg O rfl hp.1 ?_
    have hp := hp.2
    refine fm_gr O 8 (C' := (34, [(0, .inr (.inr (.inr (.inr (24, 0)))))], [.inl 1, .inl ((I 24 0 16) - 1), .inr (.inr (.inr (.inr (39, 0))))], (fm_u I 24 0 15 (I 36 0 (((I 24 0 16) - 1).toNatClampNeg)), J, G, fm_P pa pb))) rfl ?_
    refine fm_gg O rfl ⟨hp, Or.inr rfl⟩ ?_
    exact fm_gRe O rfl trivial (by first | (rw [he]; done) | (rw [he]; rfl) | rfl) (by first | (rw [he]; done) | (rw [he]; rfl) | rfl)
  · have h1 : ¬ (I 24 0 17) ≤ 0 := h
    have he := he.trans (if_neg h1)
    exact fm_gRe O rfl trivial (by first | (rw [he]; done) | (rw [he]; rfl) | rfl) (by first | (rw [he]; done) | (rw [he]; rfl) | rfl)
def fmD_finish_f (I : fm_MI) : fm_MI :=
  if (I 37 0 (((I 24 0 16) - 1).toNatClampNeg)) = 4 then (if (I 24 0 17) = 0 then (if (I 24 0 15) ≤ (I 36 0 (((I 24 0 16) - 1).toNatClampNeg)) then I else (fm_u I 24 0 17 4)) else I) else (fm_let (fmD_take_f I (I 37 0 (((I 24 0 16) - 1).toNatClampNeg))) (fun (r1 : Int32 × fm_MI) => if (r1.2 24 0 17) = 0 then (if (r1.2 24 0 15) ≤ (r1.2 36 0 (((r1.2 24 0 16) - 1).toNatClampNeg)) then r1.2 else (fm_u r1.2 24 0 17 4)) else r1.2))
theorem fmD_finish_e (I : fm_MI) : fmD_finish_f I = if (I 37 0 (((I 24 0 16) - 1).toNatClampNeg)) = 4 then (if (I 24 0 17) = 0 then (if (I 24 0 15) ≤ (I 36 0 (((I 24 0 16) - 1).toNatClampNeg)) then I else (fm_u I 24 0 17 4)) else I) else (fm_let (fmD_take_f I (I 37 0 (((I 24 0 16) - 1).toNatClampNeg))) (fun (r1 : Int32 × fm_MI) => if (r1.2 24 0 17) = 0 then (if (r1.2 24 0 15) ≤ (r1.2 36 0 (((r1.2 24 0 16) - 1).toNatClampNeg)) then r1.2 else (fm_u r1.2 24 0 17 4)) else r1.2)) := rfl
def fmD_finish_p (I : fm_MI) : Prop :=
  (vp_in ((I 24 0 16) - 1) 12) ∧ (((I 37 0 (((I 24 0 16) - 1).toNatClampNeg)) = 4 → ((I 24 0 17) = 0 → vp_in ((I 24 0 16) - 1) 12) ∧ (¬ (I 24 0 17) = 0 → True)) ∧ (¬ (I 37 0 (((I 24 0 16) - 1).toNatClampNeg)) = 4 → (vp_in ((I 24 0 16) - 1) 12) ∧ (fmD_take_p I ∧ (fm_let (fmD_take_f I (I 37 0 (((I 24 0 16) - 1).toNatClampNeg))) (fun (r1 : Int32 × fm_MI) => ((r1.2 24 0 17) = 0 → vp_in ((r1.2 24 0 16) - 1) 12) ∧ (¬ (r1.2 24 0 17) = 0 → True))))))
set_option maxRecDepth 100000 in
set_option maxHeartbeats 4000000 in
theorem fmD_finish_c {E : fm_Ev} (hl : E.1.stackTraces = false) {d : Nat} (hd : 1 ≤ d) (I : fm_MI) (J : fm_MJ) (G : fm_MG) (pa : Nat × Nat) (pb : Nat × Nat) (hp : fmD_finish_p I) : fm_Ct E d fmD_finish 0 [.inr (.inr (.inr (.inr (24, 0))))] (I, J, G, fm_P pa pb) none (fmD_finish_f I, J, G, fm_P pa pb) := by
  obtain ⟨d, rfl⟩ : ∃ d', d = d' + 1 := ⟨d - 1, by omega⟩
  refine fm_ct fmD_finish_o hl (Nat.le_of_ble_eq_true rfl) ?_
  have O := fmD_finish_o.1
  unfold fmD_finish_p at hp
  have he := fmD_finish_e I
  refine fm_gr O 6 (C' := (10, [(0, .inr (.inr (.inr (.inr (24, 0)))))], [.inl ((I 24 0 16) - 1), .inr (.inr (.inr (.inr (37, 0))))], (I, J, G, fm_P pa pb))) rfl ?_
  refine fm_gg O rfl hp.1 ?_
  have hp := hp.2
  refine fm_gr O 1 (C' := (12, [(0, .inr (.inr (.inr (.inr (24, 0)))))], [.inl 4, .inl (I 37 0 (((I 24 0 16) - 1).toNatClampNeg))], (I, J, G, fm_P pa pb))) rfl ?_
  refine fm_gb O rfl (fun h => ?_) (fun h => ?_)
  · have h1 : (I 37 0 (((I 24 0 16) - 1).toNatClampNeg)) = 4 := h
    have he := he.trans (if_pos h1)
    have hp := hp.1 h1
    refine fm_gr O 2 (C' := (35, [(0, .inr (.inr (.inr (.inr (24, 0)))))], [.inl (I 24 0 17)], (I, J, G, fm_P pa pb))) rfl ?_
    refine fm_gb O rfl (fun h => ?_) (fun h => ?_)
    · have h2 : (I 24 0 17) = 0 := h
      have he := he.trans (if_pos h2)
      have hp := hp.1 h2
      refine fm_gr O 8 (C' := (52, [(0, .inr (.inr (.inr (.inr (24, 0)))))], [.inl ((I 24 0 16) - 1), .inr (.inr (.inr (.inr (36, 0)))), .inl (I 24 0 15)], (I, J, G, fm_P pa pb))) rfl ?_
      refine fm_gg O rfl hp ?_
      refine fm_gb O rfl (fun h => ?_) (fun h => ?_)
      · have h3 : (I 24 0 15) ≤ (I 36 0 (((I 24 0 16) - 1).toNatClampNeg)) := h
        have he := he.trans (if_pos h3)
        exact fm_gRe O rfl trivial (by first | (rw [he]; done) | (rw [he]; rfl) | rfl) (by first | (rw [he]; done) | (rw [he]; rfl) | rfl)
      · have h3 : ¬ (I 24 0 15) ≤ (I 36 0 (((I 24 0 16) - 1).toNatClampNeg)) := h
        have he := he.trans (if_neg h3)
        refine fm_gr O 3 (C' := (61, [(0, .inr (.inr (.inr (.inr (24, 0)))))], [], (fm_u I 24 0 17 4, J, G, fm_P pa pb))) rfl ?_
        exact fm_gRe O rfl trivial (by first | (rw [he]; done) | (rw [he]; rfl) | rfl) (by first | (rw [he]; done) | (rw [he]; rfl) | rfl)
    · have h2 : ¬ (I 24 0 17) = 0 := h
      have he := he.trans (if_neg h2)
      exact fm_gRe O rfl trivial (by first | (rw [he]; done) | (rw [he]; rfl) | rfl) (by first | (rw [he]; done) | (rw [he]; rfl) | rfl)
  · have h1 : ¬ (I 37 0 (((I 24 0 16) - 1).toNatClampNeg)) = 4 := h
    have he := he.trans (if_neg h1)
    have hp := hp.2 h1
    refine fm_gr O 7 (C' := (26, [(0, .inr (.inr (.inr (.inr (24, 0)))))], [.inl ((I 24 0 16) - 1), .inr (.inr (.inr (.inr (37, 0)))), .inr (.inr (.inr (.inr (24, 0))))], (I, J, G, fm_P pa pb))) rfl ?_
    refine fm_gg O rfl hp.1 ?_
    have hp := hp.2
    have hc := hp.1
    have hp := hp.2
    have K := fmD_take_c (d := d) hl (by omega) I J G pa pb (I 37 0 (((I 24 0 16) - 1).toNatClampNeg)) hc
    generalize er1 : fmD_take_f I (I 37 0 (((I 24 0 16) - 1).toNatClampNeg)) = r1 at he hp
    have he := he.trans (fm_letE _ _)
    have hp := fm_letP hp
    rw [er1] at K
    refine fm_cV0 O fmD_take_o (i := 0) (as := [.inl (I 37 0 (((I 24 0 16) - 1).toNatClampNeg))]) (rest := []) (v := some (.inl r1.1)) rfl fk_6_111 rfl (by decide) fn_D_take (Nat.le_of_ble_eq_true rfl) (K) ?_
    refine fm_gr O 3 (C' := (35, [(1, .inl r1.1), (0, .inr (.inr (.inr (.inr (24, 0)))))], [.inl (r1.2 24 0 17)], (r1.2, J, G, fm_P pa pb))) rfl ?_
    refine fm_gb O rfl (fun h => ?_) (fun h => ?_)
    · have h2 : (r1.2 24 0 17) = 0 := h
      have he := he.trans (if_pos h2)
      have hp := hp.1 h2
      refine fm_gr O 8 (C' := (52, [(1, .inl r1.1), (0, .inr (.inr (.inr (.inr (24, 0)))))], [.inl ((r1.2 24 0 16) - 1), .inr (.inr (.inr (.inr (36, 0)))), .inl (r1.2 24 0 15)], (r1.2, J, G, fm_P pa pb))) rfl ?_
      refine fm_gg O rfl hp ?_
      refine fm_gb O rfl (fun h => ?_) (fun h => ?_)
      · have h3 : (r1.2 24 0 15) ≤ (r1.2 36 0 (((r1.2 24 0 16) - 1).toNatClampNeg)) := h
        have he := he.trans (if_pos h3)
        exact fm_gRe O rfl trivial (by first | (rw [he]; done) | (rw [he]; rfl) | rfl) (by first | (rw [he]; done) | (rw [he]; rfl) | rfl)
      · have h3 : ¬ (r1.2 24 0 15) ≤ (r1.2 36 0 (((r1.2 24 0 16) - 1).toNatClampNeg)) := h
        have he := he.trans (if_neg h3)
        refine fm_gr O 3 (C' := (61, [(1, .inl r1.1), (0, .inr (.inr (.inr (.inr (24, 0)))))], [], (fm_u r1.2 24 0 17 4, J, G, fm_P pa pb))) rfl ?_
        exact fm_gRe O rfl trivial (by first | (rw [he]; done) | (rw [he]; rfl) | rfl) (by first | (rw [he]; done) | (rw [he]; rfl) | rfl)
    · have h2 : ¬ (r1.2 24 0 17) = 0 := h
      have he := he.trans (if_neg h2)
      exact fm_gRe O rfl trivial (by first | (rw [he]; done) | (rw [he]; rfl) | rfl) (by first | (rw [he]; done) | (rw [he]; rfl) | rfl)
