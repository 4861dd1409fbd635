/-! THE LAW'S LOOP, over an invariant (wip/tools/gen27.py) -/
def fm_Zt (E : fm_Ev) : fm_ZT := fun A below args s cells slots t => ∃ M', fm_Zr E (some (.inl 1)) M' A below args s cells slots t
theorem fm_gwt {E : fm_Ev} {d n n' : Nat} {u : fm_Me} {C : fm_C} (hn : n ≤ n') (k : fm_Go E d u n C (fm_Zt E)) : fm_Go E d u n' C (fm_Zt E) := by
  intro p e R s m args below meth c A cells slots X hr hA h1 h2 h3 h4 H locs ls hP hS hl hv T hT XS
  obtain ⟨t, a1, M', o, b1, b2, b3, L, b4, b5⟩ := k p e R s m args below meth c A cells slots X hr hA h1 h2 (by omega) (by omega) H locs ls hP hS hl hv T hT XS
  exact ⟨t, a1, M', o, b1, b2, b3, L, ⟨b4.1, b4.2.1, b4.2.2.mono (by omega) (by omega)⟩, b5⟩
theorem fm_gZt {E : fm_Ev} {d n : Nat} {u : fm_Me} {C : fm_C} {M' : fm_M} (k : fm_Go E d u n C (fm_Zr E (some (.inl 1)) M')) : fm_Go E d u n C (fm_Zt E) := fm_gZ (fun _ _ _ _ _ _ _ h => ⟨M', h⟩) k
abbrev fm_In : Type := fm_MI → fm_MJ → fm_MG → (Nat × Nat) → (Nat × Nat) → Prop
def fm_sdF (Inv : fm_In) (I : fm_MI) (J : fm_MJ) (G : fm_MG) (pa pb : Nat × Nat) : Prop := ∀ f n m tp rs, fmF_function_p I J G pa pb f n m tp rs ∧ (fmF_function_f I J G pa pb f n m tp rs).1 ≤ 1 ∧ fmD_function_p (fmF_function_f I J G pa pb f n m tp rs).2 J G pa pb f n m tp rs ∧ fmD_thrown_f (fmD_function_f (fmF_function_f I J G pa pb f n m tp rs).2 J G pa pb f n m tp rs) = Int32.ofNat (fmF_function_f I J G pa pb f n m tp rs).1 ∧ Inv (fmD_function_f (fmF_function_f I J G pa pb f n m tp rs).2 J G pa pb f n m tp rs) J G pa pb
def fm_sdE (Inv : fm_In) (I : fm_MI) (J : fm_MJ) (G : fm_MG) (pa pb : Nat × Nat) : Prop := ∀ f op aa, fmF_emit_p I f op aa ∧ (fmF_emit_f I f op aa).1 ≤ 2 ∧ fmD_emit_p (fmF_emit_f I f op aa).2.2 f op ∧ fmD_thrown_f (fmD_emit_f (fmF_emit_f I f op aa).2.2 f op aa).2 = Int32.ofNat (fmF_emit_f I f op aa).1 ∧ ((fmF_emit_f I f op aa).1 = 0 → (fmF_emit_f I f op aa).2.1 = (fmD_emit_f (fmF_emit_f I f op aa).2.2 f op aa).1) ∧ ∀ J', (J' = J ∨ J' = fm_u J 48 0 0 ((fmF_emit_f I f op aa).2.1).toInt64) → Inv (fmD_emit_f (fmF_emit_f I f op aa).2.2 f op aa).2 J' G pa pb
def fm_sdR (Inv : fm_In) (I : fm_MI) (J : fm_MJ) (G : fm_MG) (pa pb : Nat × Nat) : Prop := ∀ f, fmF_erase_p I f ∧ (fmF_erase_f I f).1 ≤ 1 ∧ fmD_erase_p (fmF_erase_f I f).2 f ∧ fmD_thrown_f (fmD_erase_f (fmF_erase_f I f).2 f) = Int32.ofNat (fmF_erase_f I f).1 ∧ Inv (fmD_erase_f (fmF_erase_f I f).2 f) J G pa pb
def fm_sdC (Inv : fm_In) (I : fm_MI) (J : fm_MJ) (G : fm_MG) (pa pb : Nat × Nat) : Prop := fmF_check_p I J G pa pb ∧ fmD_check_p (fmF_check_f I J G pa pb).2.1 J G (fmF_check_f I J G pa pb).2.2 pb ∧ (fmF_check_f I J G pa pb).1 = (fmD_check_f (fmF_check_f I J G pa pb).2.1 J G (fmF_check_f I J G pa pb).2.2 pb).1 ∧ Inv (fmD_check_f (fmF_check_f I J G pa pb).2.1 J G (fmF_check_f I J G pa pb).2.2 pb).2 J G (fmF_check_f I J G pa pb).2.2 pb
/-- the law's comparison of two fractions doesn't say 'other' -/
def fm_eqd (x y : UInt64) : Prop := (Op.cmpValue (FP.dcmp x y) .l) = 0 ∨ (¬ (Op.cmpValue (FP.dcmp x x) .l) = 0 ∧ ¬ (Op.cmpValue (FP.dcmp y y) .l) = 0)
def fm_sdU (Inv : fm_In) (I : fm_MI) (J : fm_MJ) (G : fm_MG) (pa pb : Nat × Nat) : Prop := ∀ f a b c fu, ∀ x y z, x = FP.dmul (FP.i2d a) 4593671619917905920 → y = FP.dmul (FP.i2d b) 4593671619917905920 → z = FP.dmul (FP.i2d c) 4593671619917905920 → fmF_run_p I J G pa f x y z fu ∧ (fmF_run_f I J G pa pb f x y z fu).1 ≤ 4 ∧
  ∀ G1, (G1 = (if (fmF_run_f I J G pa pb f x y z fu).1 = 0 then fm_u (fmF_run_f I J G pa pb f x y z fu).2.2.2.2.1 49 0 0 (fmF_run_f I J G pa pb f x y z fu).2.1 else (fmF_run_f I J G pa pb f x y z fu).2.2.2.2.1)) →
  fmD_run_p (fmF_run_f I J G pa pb f x y z fu).2.2.1 (fmF_run_f I J G pa pb f x y z fu).2.2.2.1 G1 pa (fmF_run_f I J G pa pb f x y z fu).2.2.2.2.2 f x y z fu ∧
  fmD_thrown_f (fmD_run_f (fmF_run_f I J G pa pb f x y z fu).2.2.1 (fmF_run_f I J G pa pb f x y z fu).2.2.2.1 G1 pa (fmF_run_f I J G pa pb f x y z fu).2.2.2.2.2 f x y z fu).2.1 = Int32.ofNat (fmF_run_f I J G pa pb f x y z fu).1 ∧
  ((fmF_run_f I J G pa pb f x y z fu).1 = 0 → fm_eqd ((fmD_run_f (fmF_run_f I J G pa pb f x y z fu).2.2.1 (fmF_run_f I J G pa pb f x y z fu).2.2.2.1 G1 pa (fmF_run_f I J G pa pb f x y z fu).2.2.2.2.2 f x y z fu).2.2.2 49 0 0) (fmD_run_f (fmF_run_f I J G pa pb f x y z fu).2.2.1 (fmF_run_f I J G pa pb f x y z fu).2.2.2.1 G1 pa (fmF_run_f I J G pa pb f x y z fu).2.2.2.2.2 f x y z fu).1) ∧
  Inv (fmD_run_f (fmF_run_f I J G pa pb f x y z fu).2.2.1 (fmF_run_f I J G pa pb f x y z fu).2.2.2.1 G1 pa (fmF_run_f I J G pa pb f x y z fu).2.2.2.2.2 f x y z fu).2.1 (fmD_run_f (fmF_run_f I J G pa pb f x y z fu).2.2.1 (fmF_run_f I J G pa pb f x y z fu).2.2.2.1 G1 pa (fmF_run_f I J G pa pb f x y z fu).2.2.2.2.2 f x y z fu).2.2.1 (fmD_run_f (fmF_run_f I J G pa pb f x y z fu).2.2.1 (fmF_run_f I J G pa pb f x y z fu).2.2.2.1 G1 pa (fmF_run_f I J G pa pb f x y z fu).2.2.2.2.2 f x y z fu).2.2.2 pa (fmF_run_f I J G pa pb f x y z fu).2.2.2.2.2
def fm_sdG (Inv : fm_In) (I : fm_MI) (J : fm_MJ) (G : fm_MG) (pa pb : Nat × Nat) : Prop := ∀ g, fmF_global_p g ∧ (fmF_global_f J G g).1 ≤ 1 ∧ ∀ G1, (G1 = (if (fmF_global_f J G g).1 = 0 then fm_u G 49 0 0 (fmF_global_f J G g).2 else G)) → fmD_global_p I g ∧ fmD_thrown_f (fmD_global_f I J G1 g).2 = Int32.ofNat (fmF_global_f J G g).1 ∧ ((fmF_global_f J G g).1 = 0 → fm_eqd (G1 49 0 0) (fmD_global_f I J G1 g).1) ∧ Inv (fmD_global_f I J G1 g).2 J G1 pa pb
def fm_sdN (Inv : fm_In) (I : fm_MI) (J : fm_MJ) (G : fm_MG) (pa pb : Nat × Nat) : Prop := ∀ wh, fmF_count_p I J G pa pb wh ∧ fmD_count_p I J G pa pb wh ∧ fmF_count_f I J G pa pb wh = (fmD_count_f I J G pa pb wh).1 ∧ Inv (fmD_count_f I J G pa pb wh).2 J G pa pb
/-- every call keeps the invariant, and is answered alike -/
def fm_sd (Inv : fm_In) : Prop := (∀ s : Int32, vf_n64 (FP.dmul (FP.i2d s) 4593671619917905920)) ∧ ∀ I J G pa pb, Inv I J G pa pb → fm_sdF Inv I J G pa pb ∧ fm_sdE Inv I J G pa pb ∧ fm_sdR Inv I J G pa pb ∧ fm_sdC Inv I J G pa pb ∧ fm_sdU Inv I J G pa pb ∧ fm_sdG Inv I J G pa pb ∧ fm_sdN Inv I J G pa pb
theorem fm_lgs (x : Int64) : lg_cmp x x = 0 := by
  unfold lg_cmp
  rw [if_neg (by simp), if_pos rfl]
theorem fm_on : ∀ t : Nat, t ≤ 4 → ¬ t = 0 → ¬ Int32.ofNat t = 0 := by decide +kernel
theorem fm_tw {n : Nat} (h : n < 4096) : (Int32.ofNat n).toInt = n := Int32.toInt_ofNat_of_lt (by omega)
theorem fm_ix {L k j : Nat} (hL : L ≤ 3072) (hk : k + 6 ≤ L) (hj : j < 6) : vp_in (Int32.ofNat k + Int32.ofNat j) L := by
  have e : Int32.ofNat k + Int32.ofNat j = Int32.ofNat (k + j) := (Int32.ofNat_add k j).symm
  unfold vp_in
  rw [e, Int32.lt_iff_toInt_lt, Int32.toNatClampNeg, fm_tw (by omega)]
  simp
  omega
theorem fm_lp {L k : Nat} (hL : L ≤ 3072) (hk : k ≤ 4000) : (nI L - 6 < Int32.ofNat k) ↔ L < k + 6 := by
  unfold nI
  rw [Int32.lt_iff_toInt_lt, fm_tw (show k < 4096 by omega)]
  by_cases h6 : 6 ≤ L
  · have e : Int32.ofNat L - 6 = Int32.ofNat (L - 6) := by
      have : L = (L - 6) + 6 := by omega
      conv => lhs; rw [this, Int32.ofNat_add]
      show Int32.ofNat (L - 6) + 6 - 6 = _
      simp
    rw [e, fm_tw (by omega)]
    omega
  · have h : ∀ n : Nat, n < 6 → (Int32.ofNat n - 6).toInt = (n : Int) - 6 := by decide +kernel
    rw [h L (by omega)]
    omega
theorem fm_and7 (x : Int32) : ∃ n : Nat, n < 8 ∧ x &&& 7 = Int32.ofNat n := by
  refine ⟨x.toBitVec.toNat % 8, Nat.mod_lt _ (by decide), ?_⟩
  apply Int32.toBitVec_inj.mp
  rw [Int32.toBitVec_and]
  apply BitVec.eq_of_toNat_eq
  rw [BitVec.toNat_and]
  show x.toBitVec.toNat &&& 7 = (Int32.ofNat (x.toBitVec.toNat % 8)).toBitVec.toNat
  have : (Int32.ofNat (x.toBitVec.toNat % 8)).toBitVec.toNat = (x.toBitVec.toNat % 8) % 4294967296 := rfl
  rw [this, show (7 : Nat) = 2 ^ 3 - 1 from rfl, Nat.and_two_pow_sub_one_eq_mod]
  have : x.toBitVec.toNat % 2 ^ 3 < 8 := Nat.mod_lt _ (by decide)
  omega

set_option maxRecDepth 100000 in
set_option maxHeartbeats 4000000 in
theorem fm_op0 {E : fm_Ev} (hl : E.1.stackTraces = false) {Inv : fm_In} (hs : fm_sd Inv) (hL : E.2.2.2.2.1 ≤ 3072) {k m : Nat} (hk : k + 6 ≤ E.2.2.2.2.1) {i : Int32} (hi : i = Int32.ofNat k) {I : fm_MI} {J : fm_MJ} {G : fm_MG} {pa pb : Nat × Nat} (hI : Inv I J G pa pb)
    (IH : ∀ (I : fm_MI) (J : fm_MJ) (G : fm_MG) (pa pb : Nat × Nat), Inv I J G pa pb → fm_Go E 16 fmL_law m (28, [(5, .inl (i + Int32.ofInt 6)), (0, .inr (.inr (.inr (.inr (50, 0))))), (1, .inr (.inr (.inr (.inr (0, 0))))), (2, .inr (.inr (.inr (.inr (24, 0))))), (3, .inr (.inr (.inr (.inr (48, 0))))), (4, .inr (.inr (.inr (.inr (49, 0)))))], [], (I, J, G, fm_P pa pb)) (fm_Zt E)) : fm_Go E 16 fmL_law (m + 1) (88, [(5, .inl i), (0, .inr (.inr (.inr (.inr (50, 0))))), (1, .inr (.inr (.inr (.inr (0, 0))))), (2, .inr (.inr (.inr (.inr (24, 0))))), (3, .inr (.inr (.inr (.inr (48, 0))))), (4, .inr (.inr (.inr (.inr (49, 0)))))], [], (I, J, G, fm_P pa pb)) (fm_Zt E) := by
  have O := fmL_law_o
  obtain ⟨q1, q2, q3, q4, q5⟩ := (hs.2 _ _ _ _ _ hI).1 (E.2.2.2.2.2 ((i + 1).toNatClampNeg)) (E.2.2.2.2.2 ((i + 2).toNatClampNeg)) (E.2.2.2.2.2 ((i + 3).toNatClampNeg)) (E.2.2.2.2.2 ((i + 4).toNatClampNeg)) (E.2.2.2.2.2 ((i + 5).toNatClampNeg))
  have g1 : vp_in (i + 1) E.2.2.2.2.1 := by rw [hi]; exact fm_ix hL hk (j := 1) (by omega)
  have g2 : vp_in (i + 2) E.2.2.2.2.1 := by rw [hi]; exact fm_ix hL hk (j := 2) (by omega)
  have g3 : vp_in (i + 3) E.2.2.2.2.1 := by rw [hi]; exact fm_ix hL hk (j := 3) (by omega)
  have g4 : vp_in (i + 4) E.2.2.2.2.1 := by rw [hi]; exact fm_ix hL hk (j := 4) (by omega)
  have g5 : vp_in (i + 5) E.2.2.2.2.1 := by rw [hi]; exact fm_ix hL hk (j := 5) (by omega)
  have K := fmL_function_c (E := E) hl (d := 15) (by omega) I J G pa pb (E.2.2.2.2.2 ((i + 1).toNatClampNeg)) (E.2.2.2.2.2 ((i + 2).toNatClampNeg)) (E.2.2.2.2.2 ((i + 3).toNatClampNeg)) (E.2.2.2.2.2 ((i + 4).toNatClampNeg)) (E.2.2.2.2.2 ((i + 5).toNatClampNeg)) q1 q2
  rw [ite_self] at K
  rw [Nat.add_comm m 1]
  refine fm_gr O 1 (C' := (89, [(5, .inl i), (0, .inr (.inr (.inr (.inr (50, 0))))), (1, .inr (.inr (.inr (.inr (0, 0))))), (2, .inr (.inr (.inr (.inr (24, 0))))), (3, .inr (.inr (.inr (.inr (48, 0))))), (4, .inr (.inr (.inr (.inr (49, 0)))))], [.inr (.inr (.inr (.inr (0, 0))))], (I, J, G, fm_P pa pb))) rfl ?_
  refine fm_gr O 4 (C' := (94, [(5, .inl i), (0, .inr (.inr (.inr (.inr (50, 0))))), (1, .inr (.inr (.inr (.inr (0, 0))))), (2, .inr (.inr (.inr (.inr (24, 0))))), (3, .inr (.inr (.inr (.inr (48, 0))))), (4, .inr (.inr (.inr (.inr (49, 0)))))], [.inl (i + 1), .inr (.inr (.inr (.inr (50, 0)))), .inr (.inr (.inr (.inr (0, 0))))], (I, J, G, fm_P pa pb))) rfl ?_
  refine fm_gx O rfl g1 ?_
  refine fm_gr O 4 (C' := (100, [(5, .inl i), (0, .inr (.inr (.inr (.inr (50, 0))))), (1, .inr (.inr (.inr (.inr (0, 0))))), (2, .inr (.inr (.inr (.inr (24, 0))))), (3, .inr (.inr (.inr (.inr (48, 0))))), (4, .inr (.inr (.inr (.inr (49, 0)))))], [.inl (i + 2), .inr (.inr (.inr (.inr (50, 0)))), .inl (E.2.2.2.2.2 ((i + 1).toNatClampNeg)), .inr (.inr (.inr (.inr (0, 0))))], (I, J, G, fm_P pa pb))) rfl ?_
  refine fm_gx O rfl g2 ?_
  refine fm_gr O 4 (C' := (106, [(5, .inl i), (0, .inr (.inr (.inr (.inr (50, 0))))), (1, .inr (.inr (.inr (.inr (0, 0))))), (2, .inr (.inr (.inr (.inr (24, 0))))), (3, .inr (.inr (.inr (.inr (48, 0))))), (4, .inr (.inr (.inr (.inr (49, 0)))))], [.inl (i + 3), .inr (.inr (.inr (.inr (50, 0)))), .inl (E.2.2.2.2.2 ((i + 2).toNatClampNeg)), .inl (E.2.2.2.2.2 ((i + 1).toNatClampNeg)), .inr (.inr (.inr (.inr (0, 0))))], (I, J, G, fm_P pa pb))) rfl ?_
  refine fm_gx O rfl g3 ?_
  refine fm_gr O 4 (C' := (112, [(5, .inl i), (0, .inr (.inr (.inr (.inr (50, 0))))), (1, .inr (.inr (.inr (.inr (0, 0))))), (2, .inr (.inr (.inr (.inr (24, 0))))), (3, .inr (.inr (.inr (.inr (48, 0))))), (4, .inr (.inr (.inr (.inr (49, 0)))))], [.inl (i + 4), .inr (.inr (.inr (.inr (50, 0)))), .inl (E.2.2.2.2.2 ((i + 3).toNatClampNeg)), .inl (E.2.2.2.2.2 ((i + 2).toNatClampNeg)), .inl (E.2.2.2.2.2 ((i + 1).toNatClampNeg)), .inr (.inr (.inr (.inr (0, 0))))], (I, J, G, fm_P pa pb))) rfl ?_
  refine fm_gx O rfl g4 ?_
  refine fm_gr O 4 (C' := (118, [(5, .inl i), (0, .inr (.inr (.inr (.inr (50, 0))))), (1, .inr (.inr (.inr (.inr (0, 0))))), (2, .inr (.inr (.inr (.inr (24, 0))))), (3, .inr (.inr (.inr (.inr (48, 0))))), (4, .inr (.inr (.inr (.inr (49, 0)))))], [.inl (i + 5), .inr (.inr (.inr (.inr (50, 0)))), .inl (E.2.2.2.2.2 ((i + 4).toNatClampNeg)), .inl (E.2.2.2.2.2 ((i + 3).toNatClampNeg)), .inl (E.2.2.2.2.2 ((i + 2).toNatClampNeg)), .inl (E.2.2.2.2.2 ((i + 1).toNatClampNeg)), .inr (.inr (.inr (.inr (0, 0))))], (I, J, G, fm_P pa pb))) rfl ?_
  refine fm_gx O rfl g5 ?_
  generalize hF : fmF_function_f I J G pa pb (E.2.2.2.2.2 ((i + 1).toNatClampNeg)) (E.2.2.2.2.2 ((i + 2).toNatClampNeg)) (E.2.2.2.2.2 ((i + 3).toNatClampNeg)) (E.2.2.2.2.2 ((i + 4).toNatClampNeg)) (E.2.2.2.2.2 ((i + 5).toNatClampNeg)) = F at K q2 q3 q4 q5 ⊢
  refine fm_cW (as := [.inr (.inr (.inr (.inr (0, 0)))), .inl (E.2.2.2.2.2 ((i + 1).toNatClampNeg)), .inl (E.2.2.2.2.2 ((i + 2).toNatClampNeg)), .inl (E.2.2.2.2.2 ((i + 3).toNatClampNeg)), .inl (E.2.2.2.2.2 ((i + 4).toNatClampNeg)), .inl (E.2.2.2.2.2 ((i + 5).toNatClampNeg))]) (rest := []) O fmL_function_w rfl fk_8_41 fn_L_function (by decide) K ?_
  refine fm_gr O 2 (C' := (125, [(6, .inl (Int32.ofNat F.1)), (5, .inl i), (0, .inr (.inr (.inr (.inr (50, 0))))), (1, .inr (.inr (.inr (.inr (0, 0))))), (2, .inr (.inr (.inr (.inr (24, 0))))), (3, .inr (.inr (.inr (.inr (48, 0))))), (4, .inr (.inr (.inr (.inr (49, 0)))))], [.inr (.inr (.inr (.inr (24, 0))))], (F.2, J, G, fm_P pa pb))) rfl ?_
  refine fm_gr O 4 (C' := (130, [(6, .inl (Int32.ofNat F.1)), (5, .inl i), (0, .inr (.inr (.inr (.inr (50, 0))))), (1, .inr (.inr (.inr (.inr (0, 0))))), (2, .inr (.inr (.inr (.inr (24, 0))))), (3, .inr (.inr (.inr (.inr (48, 0))))), (4, .inr (.inr (.inr (.inr (49, 0)))))], [.inl (i + 1), .inr (.inr (.inr (.inr (50, 0)))), .inr (.inr (.inr (.inr (24, 0))))], (F.2, J, G, fm_P pa pb))) rfl ?_
  refine fm_gx O rfl g1 ?_
  refine fm_gr O 4 (C' := (136, [(6, .inl (Int32.ofNat F.1)), (5, .inl i), (0, .inr (.inr (.inr (.inr (50, 0))))), (1, .inr (.inr (.inr (.inr (0, 0))))), (2, .inr (.inr (.inr (.inr (24, 0))))), (3, .inr (.inr (.inr (.inr (48, 0))))), (4, .inr (.inr (.inr (.inr (49, 0)))))], [.inl (i + 2), .inr (.inr (.inr (.inr (50, 0)))), .inl (E.2.2.2.2.2 ((i + 1).toNatClampNeg)), .inr (.inr (.inr (.inr (24, 0))))], (F.2, J, G, fm_P pa pb))) rfl ?_
  refine fm_gx O rfl g2 ?_
  refine fm_gr O 4 (C' := (142, [(6, .inl (Int32.ofNat F.1)), (5, .inl i), (0, .inr (.inr (.inr (.inr (50, 0))))), (1, .inr (.inr (.inr (.inr (0, 0))))), (2, .inr (.inr (.inr (.inr (24, 0))))), (3, .inr (.inr (.inr (.inr (48, 0))))), (4, .inr (.inr (.inr (.inr (49, 0)))))], [.inl (i + 3), .inr (.inr (.inr (.inr (50, 0)))), .inl (E.2.2.2.2.2 ((i + 2).toNatClampNeg)), .inl (E.2.2.2.2.2 ((i + 1).toNatClampNeg)), .inr (.inr (.inr (.inr (24, 0))))], (F.2, J, G, fm_P pa pb))) rfl ?_
  refine fm_gx O rfl g3 ?_
  refine fm_gr O 4 (C' := (148, [(6, .inl (Int32.ofNat F.1)), (5, .inl i), (0, .inr (.inr (.inr (.inr (50, 0))))), (1, .inr (.inr (.inr (.inr (0, 0))))), (2, .inr (.inr (.inr (.inr (24, 0))))), (3, .inr (.inr (.inr (.inr (48, 0))))), (4, .inr (.inr (.inr (.inr (49, 0)))))], [.inl (i + 4), .inr (.inr (.inr (.inr (50, 0)))), .inl (E.2.2.2.2.2 ((i + 3).toNatClampNeg)), .inl (E.2.2.2.2.2 ((i + 2).toNatClampNeg)), .inl (E.2.2.2.2.2 ((i + 1).toNatClampNeg)), .inr (.inr (.inr (.inr (24, 0))))], (F.2, J, G, fm_P pa pb))) rfl ?_
  refine fm_gx O rfl g4 ?_
  refine fm_gr O 4 (C' := (154, [(6, .inl (Int32.ofNat F.1)), (5, .inl i), (0, .inr (.inr (.inr (.inr (50, 0))))), (1, .inr (.inr (.inr (.inr (0, 0))))), (2, .inr (.inr (.inr (.inr (24, 0))))), (3, .inr (.inr (.inr (.inr (48, 0))))), (4, .inr (.inr (.inr (.inr (49, 0)))))], [.inl (i + 5), .inr (.inr (.inr (.inr (50, 0)))), .inl (E.2.2.2.2.2 ((i + 4).toNatClampNeg)), .inl (E.2.2.2.2.2 ((i + 3).toNatClampNeg)), .inl (E.2.2.2.2.2 ((i + 2).toNatClampNeg)), .inl (E.2.2.2.2.2 ((i + 1).toNatClampNeg)), .inr (.inr (.inr (.inr (24, 0))))], (F.2, J, G, fm_P pa pb))) rfl ?_
  refine fm_gx O rfl g5 ?_
  have K2 := fmD_function_c (E := E) hl (d := 15) (by omega) F.2 J G pa pb (E.2.2.2.2.2 ((i + 1).toNatClampNeg)) (E.2.2.2.2.2 ((i + 2).toNatClampNeg)) (E.2.2.2.2.2 ((i + 3).toNatClampNeg)) (E.2.2.2.2.2 ((i + 4).toNatClampNeg)) (E.2.2.2.2.2 ((i + 5).toNatClampNeg)) q3
  generalize hD : fmD_function_f F.2 J G pa pb (E.2.2.2.2.2 ((i + 1).toNatClampNeg)) (E.2.2.2.2.2 ((i + 2).toNatClampNeg)) (E.2.2.2.2.2 ((i + 3).toNatClampNeg)) (E.2.2.2.2.2 ((i + 4).toNatClampNeg)) (E.2.2.2.2.2 ((i + 5).toNatClampNeg)) = I2 at K2 q4 q5
  refine fm_cV0 (as := [.inl (E.2.2.2.2.2 ((i + 1).toNatClampNeg)), .inl (E.2.2.2.2.2 ((i + 2).toNatClampNeg)), .inl (E.2.2.2.2.2 ((i + 3).toNatClampNeg)), .inl (E.2.2.2.2.2 ((i + 4).toNatClampNeg)), .inl (E.2.2.2.2.2 ((i + 5).toNatClampNeg))]) (rest := []) O fmD_function_o rfl fk_8_46 rfl (by decide) fn_D_function (by decide) K2 ?_
  refine fm_gr O 1 (C' := (159, [(6, .inl (Int32.ofNat F.1)), (5, .inl i), (0, .inr (.inr (.inr (.inr (50, 0))))), (1, .inr (.inr (.inr (.inr (0, 0))))), (2, .inr (.inr (.inr (.inr (24, 0))))), (3, .inr (.inr (.inr (.inr (48, 0))))), (4, .inr (.inr (.inr (.inr (49, 0)))))], [.inr (.inr (.inr (.inr (24, 0))))], (I2, J, G, fm_P pa pb))) rfl ?_
  refine fm_cV0 (as := []) (rest := []) O fmD_thrown_o rfl fk_8_47 rfl (by decide) fn_D_thrown (by decide) (fmD_thrown_c (E := E) hl (d := 15) (by omega) I2 J G pa pb) ?_
  refine fm_gr O 1 (C' := (164, [(6, .inl (Int32.ofNat F.1)), (5, .inl i), (0, .inr (.inr (.inr (.inr (50, 0))))), (1, .inr (.inr (.inr (.inr (0, 0))))), (2, .inr (.inr (.inr (.inr (24, 0))))), (3, .inr (.inr (.inr (.inr (48, 0))))), (4, .inr (.inr (.inr (.inr (49, 0)))))], [.inl (Int32.ofNat F.1), .inl (fmD_thrown_f I2)], (I2, J, G, fm_P pa pb))) rfl ?_
  refine fm_gb O rfl (fun _ => ?_) (fun h => absurd q4 h)
  refine fm_gr O 1 (C' := (558, [(6, .inl (Int32.ofNat F.1)), (5, .inl i), (0, .inr (.inr (.inr (.inr (50, 0))))), (1, .inr (.inr (.inr (.inr (0, 0))))), (2, .inr (.inr (.inr (.inr (24, 0))))), (3, .inr (.inr (.inr (.inr (48, 0))))), (4, .inr (.inr (.inr (.inr (49, 0)))))], [], (I2, J, G, fm_P pa pb))) rfl ?_
  refine fm_gL O [1, 2, 3, 4, 5, 6] (l' := [(5, .inl i), (0, .inr (.inr (.inr (.inr (50, 0))))), (1, .inr (.inr (.inr (.inr (0, 0))))), (2, .inr (.inr (.inr (.inr (24, 0))))), (3, .inr (.inr (.inr (.inr (48, 0))))), (4, .inr (.inr (.inr (.inr (49, 0)))))]) rfl ?_
  refine fm_gr O 2 (C' := (28, [(5, .inl (i + Int32.ofInt 6)), (0, .inr (.inr (.inr (.inr (50, 0))))), (1, .inr (.inr (.inr (.inr (0, 0))))), (2, .inr (.inr (.inr (.inr (24, 0))))), (3, .inr (.inr (.inr (.inr (48, 0))))), (4, .inr (.inr (.inr (.inr (49, 0)))))], [], (I2, J, G, fm_P pa pb))) rfl ?_
  exact IH _ _ _ _ _ q5

set_option maxRecDepth 100000 in
set_option maxHeartbeats 4000000 in
theorem fm_op2 {E : fm_Ev} (hl : E.1.stackTraces = false) {Inv : fm_In} (hs : fm_sd Inv) (hL : E.2.2.2.2.1 ≤ 3072) {k m : Nat} (hk : k + 6 ≤ E.2.2.2.2.1) {i : Int32} (hi : i = Int32.ofNat k) {I : fm_MI} {J : fm_MJ} {G : fm_MG} {pa pb : Nat × Nat} (hI : Inv I J G pa pb)
    (IH : ∀ (I : fm_MI) (J : fm_MJ) (G : fm_MG) (pa pb : Nat × Nat), Inv I J G pa pb → fm_Go E 16 fmL_law m (28, [(5, .inl (i + Int32.ofInt 6)), (0, .inr (.inr (.inr (.inr (50, 0))))), (1, .inr (.inr (.inr (.inr (0, 0))))), (2, .inr (.inr (.inr (.inr (24, 0))))), (3, .inr (.inr (.inr (.inr (48, 0))))), (4, .inr (.inr (.inr (.inr (49, 0)))))], [], (I, J, G, fm_P pa pb)) (fm_Zt E)) : fm_Go E 16 fmL_law (m + 1) (252, [(5, .inl i), (0, .inr (.inr (.inr (.inr (50, 0))))), (1, .inr (.inr (.inr (.inr (0, 0))))), (2, .inr (.inr (.inr (.inr (24, 0))))), (3, .inr (.inr (.inr (.inr (48, 0))))), (4, .inr (.inr (.inr (.inr (49, 0)))))], [], (I, J, G, fm_P pa pb)) (fm_Zt E) := by
  have O := fmL_law_o
  obtain ⟨q1, q2, q3, q4, q5⟩ := (hs.2 _ _ _ _ _ hI).2.2.1 (E.2.2.2.2.2 ((i + 1).toNatClampNeg))
  have g1 : vp_in (i + 1) E.2.2.2.2.1 := by rw [hi]; exact fm_ix hL hk (j := 1) (by omega)
  have K := fmL_erase_c (E := E) hl (d := 15) (by omega) I J G pa pb (E.2.2.2.2.2 ((i + 1).toNatClampNeg)) q1 q2
  rw [ite_self] at K
  rw [Nat.add_comm m 1]
  refine fm_gr O 1 (C' := (253, [(5, .inl i), (0, .inr (.inr (.inr (.inr (50, 0))))), (1, .inr (.inr (.inr (.inr (0, 0))))), (2, .inr (.inr (.inr (.inr (24, 0))))), (3, .inr (.inr (.inr (.inr (48, 0))))), (4, .inr (.inr (.inr (.inr (49, 0)))))], [.inr (.inr (.inr (.inr (0, 0))))], (I, J, G, fm_P pa pb))) rfl ?_
  refine fm_gr O 4 (C' := (258, [(5, .inl i), (0, .inr (.inr (.inr (.inr (50, 0))))), (1, .inr (.inr (.inr (.inr (0, 0))))), (2, .inr (.inr (.inr (.inr (24, 0))))), (3, .inr (.inr (.inr (.inr (48, 0))))), (4, .inr (.inr (.inr (.inr (49, 0)))))], [.inl (i + 1), .inr (.inr (.inr (.inr (50, 0)))), .inr (.inr (.inr (.inr (0, 0))))], (I, J, G, fm_P pa pb))) rfl ?_
  refine fm_gx O rfl g1 ?_
  generalize hF : fmF_erase_f I (E.2.2.2.2.2 ((i + 1).toNatClampNeg)) = F at K q2 q3 q4 q5 ⊢
  refine fm_cW (as := [.inr (.inr (.inr (.inr (0, 0)))), .inl (E.2.2.2.2.2 ((i + 1).toNatClampNeg))]) (rest := []) O fmL_erase_w rfl fk_8_55 fn_L_erase (by decide) K ?_
  refine fm_gr O 2 (C' := (265, [(6, .inl (Int32.ofNat F.1)), (5, .inl i), (0, .inr (.inr (.inr (.inr (50, 0))))), (1, .inr (.inr (.inr (.inr (0, 0))))), (2, .inr (.inr (.inr (.inr (24, 0))))), (3, .inr (.inr (.inr (.inr (48, 0))))), (4, .inr (.inr (.inr (.inr (49, 0)))))], [.inr (.inr (.inr (.inr (24, 0))))], (F.2, J, G, fm_P pa pb))) rfl ?_
  refine fm_gr O 4 (C' := (270, [(6, .inl (Int32.ofNat F.1)), (5, .inl i), (0, .inr (.inr (.inr (.inr (50, 0))))), (1, .inr (.inr (.inr (.inr (0, 0))))), (2, .inr (.inr (.inr (.inr (24, 0))))), (3, .inr (.inr (.inr (.inr (48, 0))))), (4, .inr (.inr (.inr (.inr (49, 0)))))], [.inl (i + 1), .inr (.inr (.inr (.inr (50, 0)))), .inr (.inr (.inr (.inr (24, 0))))], (F.2, J, G, fm_P pa pb))) rfl ?_
  refine fm_gx O rfl g1 ?_
  have K2 := fmD_erase_c (E := E) hl (d := 15) (by omega) F.2 J G pa pb (E.2.2.2.2.2 ((i + 1).toNatClampNeg)) q3
  generalize hD : fmD_erase_f F.2 (E.2.2.2.2.2 ((i + 1).toNatClampNeg)) = I2 at K2 q4 q5
  refine fm_cV0 (as := [.inl (E.2.2.2.2.2 ((i + 1).toNatClampNeg))]) (rest := []) O fmD_erase_o rfl fk_8_58 rfl (by decide) fn_D_erase (by decide) K2 ?_
  refine fm_gr O 1 (C' := (275, [(6, .inl (Int32.ofNat F.1)), (5, .inl i), (0, .inr (.inr (.inr (.inr (50, 0))))), (1, .inr (.inr (.inr (.inr (0, 0))))), (2, .inr (.inr (.inr (.inr (24, 0))))), (3, .inr (.inr (.inr (.inr (48, 0))))), (4, .inr (.inr (.inr (.inr (49, 0)))))], [.inr (.inr (.inr (.inr (24, 0))))], (I2, J, G, fm_P pa pb))) rfl ?_
  refine fm_cV0 (as := []) (rest := []) O fmD_thrown_o rfl fk_8_47 rfl (by decide) fn_D_thrown (by decide) (fmD_thrown_c (E := E) hl (d := 15) (by omega) I2 J G pa pb) ?_
  refine fm_gr O 1 (C' := (280, [(6, .inl (Int32.ofNat F.1)), (5, .inl i), (0, .inr (.inr (.inr (.inr (50, 0))))), (1, .inr (.inr (.inr (.inr (0, 0))))), (2, .inr (.inr (.inr (.inr (24, 0))))), (3, .inr (.inr (.inr (.inr (48, 0))))), (4, .inr (.inr (.inr (.inr (49, 0)))))], [.inl (Int32.ofNat F.1), .inl (fmD_thrown_f I2)], (I2, J, G, fm_P pa pb))) rfl ?_
  refine fm_gb O rfl (fun _ => ?_) (fun h => absurd q4 h)
  refine fm_gr O 1 (C' := (558, [(6, .inl (Int32.ofNat F.1)), (5, .inl i), (0, .inr (.inr (.inr (.inr (50, 0))))), (1, .inr (.inr (.inr (.inr (0, 0))))), (2, .inr (.inr (.inr (.inr (24, 0))))), (3, .inr (.inr (.inr (.inr (48, 0))))), (4, .inr (.inr (.inr (.inr (49, 0)))))], [], (I2, J, G, fm_P pa pb))) rfl ?_
  refine fm_gL O [1, 2, 3, 4, 5, 6] (l' := [(5, .inl i), (0, .inr (.inr (.inr (.inr (50, 0))))), (1, .inr (.inr (.inr (.inr (0, 0))))), (2, .inr (.inr (.inr (.inr (24, 0))))), (3, .inr (.inr (.inr (.inr (48, 0))))), (4, .inr (.inr (.inr (.inr (49, 0)))))]) rfl ?_
  refine fm_gr O 2 (C' := (28, [(5, .inl (i + Int32.ofInt 6)), (0, .inr (.inr (.inr (.inr (50, 0))))), (1, .inr (.inr (.inr (.inr (0, 0))))), (2, .inr (.inr (.inr (.inr (24, 0))))), (3, .inr (.inr (.inr (.inr (48, 0))))), (4, .inr (.inr (.inr (.inr (49, 0)))))], [], (I2, J, G, fm_P pa pb))) rfl ?_
  exact IH _ _ _ _ _ q5

set_option maxRecDepth 100000 in
set_option maxHeartbeats 4000000 in
theorem fm_op3 {E : fm_Ev} (hl : E.1.stackTraces = false) {Inv : fm_In} (hs : fm_sd Inv) (hL : E.2.2.2.2.1 ≤ 3072) {k m : Nat} (hk : k + 6 ≤ E.2.2.2.2.1) {i : Int32} (hi : i = Int32.ofNat k) {I : fm_MI} {J : fm_MJ} {G : fm_MG} {pa pb : Nat × Nat} (hI : Inv I J G pa pb)
    (IH : ∀ (I : fm_MI) (J : fm_MJ) (G : fm_MG) (pa pb : Nat × Nat), Inv I J G pa pb → fm_Go E 16 fmL_law m (28, [(5, .inl (i + Int32.ofInt 6)), (0, .inr (.inr (.inr (.inr (50, 0))))), (1, .inr (.inr (.inr (.inr (0, 0))))), (2, .inr (.inr (.inr (.inr (24, 0))))), (3, .inr (.inr (.inr (.inr (48, 0))))), (4, .inr (.inr (.inr (.inr (49, 0)))))], [], (I, J, G, fm_P pa pb)) (fm_Zt E)) : fm_Go E 16 fmL_law (m + 1) (288, [(5, .inl i), (0, .inr (.inr (.inr (.inr (50, 0))))), (1, .inr (.inr (.inr (.inr (0, 0))))), (2, .inr (.inr (.inr (.inr (24, 0))))), (3, .inr (.inr (.inr (.inr (48, 0))))), (4, .inr (.inr (.inr (.inr (49, 0)))))], [], (I, J, G, fm_P pa pb)) (fm_Zt E) := by
  have O := fmL_law_o
  obtain ⟨q1, q2, q3, q4⟩ := (hs.2 _ _ _ _ _ hI).2.2.2.1
  have K := fmF_check_c (E := E) hl (d := 15) (by omega) I J G pa pb q1
  refine fm_gwt (Nat.le_succ m) ?_
  refine fm_gr O 1 (C' := (289, [(5, .inl i), (0, .inr (.inr (.inr (.inr (50, 0))))), (1, .inr (.inr (.inr (.inr (0, 0))))), (2, .inr (.inr (.inr (.inr (24, 0))))), (3, .inr (.inr (.inr (.inr (48, 0))))), (4, .inr (.inr (.inr (.inr (49, 0)))))], [.inr (.inr (.inr (.inr (0, 0))))], (I, J, G, fm_P pa pb))) rfl ?_
  generalize hF : fmF_check_f I J G pa pb = F at K q2 q3 q4
  refine fm_cV0 (as := []) (rest := []) O fmF_check_o rfl fk_8_59 rfl (by decide) fn_F_check (by decide) K ?_
  have K2 := fmD_check_c (E := E) hl (d := 15) (by omega) F.2.1 J G F.2.2 pb q2
  generalize hD : fmD_check_f F.2.1 J G F.2.2 pb = F2 at K2 q3 q4
  refine fm_gr O 1 (C' := (293, [(5, .inl i), (0, .inr (.inr (.inr (.inr (50, 0))))), (1, .inr (.inr (.inr (.inr (0, 0))))), (2, .inr (.inr (.inr (.inr (24, 0))))), (3, .inr (.inr (.inr (.inr (48, 0))))), (4, .inr (.inr (.inr (.inr (49, 0)))))], [.inr (.inr (.inr (.inr (24, 0)))), .inl F.1], (F.2.1, J, G, fm_P F.2.2 pb))) rfl ?_
  refine fm_cV0 (as := []) (rest := [.inl F.1]) O fmD_check_o rfl fk_8_62 rfl (by decide) fn_D_check (Nat.le_of_ble_eq_true rfl) K2 ?_
  refine fm_gb O rfl (fun _ => ?_) (fun h => absurd q3 h)
  refine fm_gL O [0, 1, 2, 3, 4, 5] (l' := [(5, .inl i), (0, .inr (.inr (.inr (.inr (50, 0))))), (1, .inr (.inr (.inr (.inr (0, 0))))), (2, .inr (.inr (.inr (.inr (24, 0))))), (3, .inr (.inr (.inr (.inr (48, 0))))), (4, .inr (.inr (.inr (.inr (49, 0)))))]) rfl ?_
  refine fm_gr O 2 (C' := (28, [(5, .inl (i + Int32.ofInt 6)), (0, .inr (.inr (.inr (.inr (50, 0))))), (1, .inr (.inr (.inr (.inr (0, 0))))), (2, .inr (.inr (.inr (.inr (24, 0))))), (3, .inr (.inr (.inr (.inr (48, 0))))), (4, .inr (.inr (.inr (.inr (49, 0)))))], [], (F2.2, J, G, fm_P F.2.2 pb))) rfl ?_
  exact IH _ _ _ _ _ q4

set_option maxRecDepth 100000 in
set_option maxHeartbeats 4000000 in
theorem fm_op6 {E : fm_Ev} (hl : E.1.stackTraces = false) {Inv : fm_In} (hs : fm_sd Inv) (hL : E.2.2.2.2.1 ≤ 3072) {k m : Nat} (hk : k + 6 ≤ E.2.2.2.2.1) {i : Int32} (hi : i = Int32.ofNat k) {I : fm_MI} {J : fm_MJ} {G : fm_MG} {pa pb : Nat × Nat} (hI : Inv I J G pa pb)
    (IH : ∀ (I : fm_MI) (J : fm_MJ) (G : fm_MG) (pa pb : Nat × Nat), Inv I J G pa pb → fm_Go E 16 fmL_law m (28, [(5, .inl (i + Int32.ofInt 6)), (0, .inr (.inr (.inr (.inr (50, 0))))), (1, .inr (.inr (.inr (.inr (0, 0))))), (2, .inr (.inr (.inr (.inr (24, 0))))), (3, .inr (.inr (.inr (.inr (48, 0))))), (4, .inr (.inr (.inr (.inr (49, 0)))))], [], (I, J, G, fm_P pa pb)) (fm_Zt E)) : fm_Go E 16 fmL_law (m + 1) (533, [(5, .inl i), (0, .inr (.inr (.inr (.inr (50, 0))))), (1, .inr (.inr (.inr (.inr (0, 0))))), (2, .inr (.inr (.inr (.inr (24, 0))))), (3, .inr (.inr (.inr (.inr (48, 0))))), (4, .inr (.inr (.inr (.inr (49, 0)))))], [], (I, J, G, fm_P pa pb)) (fm_Zt E) := by
  have O := fmL_law_o
  obtain ⟨q1, q2, q3, q4⟩ := (hs.2 _ _ _ _ _ hI).2.2.2.2.2.2 (E.2.2.2.2.2 ((i + 1).toNatClampNeg))
  have g1 : vp_in (i + 1) E.2.2.2.2.1 := by rw [hi]; exact fm_ix hL hk (j := 1) (by omega)
  have K := fmF_count_c (E := E) hl (d := 15) (by omega) I J G pa pb (E.2.2.2.2.2 ((i + 1).toNatClampNeg)) q1
  have K2 := fmD_count_c (E := E) hl (d := 15) (by omega) I J G pa pb (E.2.2.2.2.2 ((i + 1).toNatClampNeg)) q2
  refine fm_gwt (Nat.le_succ m) ?_
  refine fm_gr O 1 (C' := (534, [(5, .inl i), (0, .inr (.inr (.inr (.inr (50, 0))))), (1, .inr (.inr (.inr (.inr (0, 0))))), (2, .inr (.inr (.inr (.inr (24, 0))))), (3, .inr (.inr (.inr (.inr (48, 0))))), (4, .inr (.inr (.inr (.inr (49, 0)))))], [.inr (.inr (.inr (.inr (0, 0))))], (I, J, G, fm_P pa pb))) rfl ?_
  refine fm_gr O 4 (C' := (539, [(5, .inl i), (0, .inr (.inr (.inr (.inr (50, 0))))), (1, .inr (.inr (.inr (.inr (0, 0))))), (2, .inr (.inr (.inr (.inr (24, 0))))), (3, .inr (.inr (.inr (.inr (48, 0))))), (4, .inr (.inr (.inr (.inr (49, 0)))))], [.inl (i + 1), .inr (.inr (.inr (.inr (50, 0)))), .inr (.inr (.inr (.inr (0, 0))))], (I, J, G, fm_P pa pb))) rfl ?_
  refine fm_gx O rfl g1 ?_
  generalize hF : fmF_count_f I J G pa pb (E.2.2.2.2.2 ((i + 1).toNatClampNeg)) = F at K q3
  generalize hD : fmD_count_f I J G pa pb (E.2.2.2.2.2 ((i + 1).toNatClampNeg)) = F2 at K2 q3 q4
  refine fm_cV0 (as := [.inl (E.2.2.2.2.2 ((i + 1).toNatClampNeg))]) (rest := []) O fmF_count_o rfl fk_8_73 rfl (by decide) fn_F_count (by decide) K ?_
  refine fm_gr O 1 (C' := (544, [(5, .inl i), (0, .inr (.inr (.inr (.inr (50, 0))))), (1, .inr (.inr (.inr (.inr (0, 0))))), (2, .inr (.inr (.inr (.inr (24, 0))))), (3, .inr (.inr (.inr (.inr (48, 0))))), (4, .inr (.inr (.inr (.inr (49, 0)))))], [.inr (.inr (.inr (.inr (24, 0)))), .inl F], (I, J, G, fm_P pa pb))) rfl ?_
  refine fm_gr O 4 (C' := (549, [(5, .inl i), (0, .inr (.inr (.inr (.inr (50, 0))))), (1, .inr (.inr (.inr (.inr (0, 0))))), (2, .inr (.inr (.inr (.inr (24, 0))))), (3, .inr (.inr (.inr (.inr (48, 0))))), (4, .inr (.inr (.inr (.inr (49, 0)))))], [.inl (i + 1), .inr (.inr (.inr (.inr (50, 0)))), .inr (.inr (.inr (.inr (24, 0)))), .inl F], (I, J, G, fm_P pa pb))) rfl ?_
  refine fm_gx O rfl g1 ?_
  refine fm_cV0 (as := [.inl (E.2.2.2.2.2 ((i + 1).toNatClampNeg))]) (rest := [.inl F]) O fmD_count_o rfl fk_8_77 rfl (by decide) fn_D_count (Nat.le_of_ble_eq_true rfl) K2 ?_
  refine fm_gb O rfl (fun _ => ?_) (fun h => absurd q3 h)
  refine fm_gL O [0, 1, 2, 3, 4, 5] (l' := [(5, .inl i), (0, .inr (.inr (.inr (.inr (50, 0))))), (1, .inr (.inr (.inr (.inr (0, 0))))), (2, .inr (.inr (.inr (.inr (24, 0))))), (3, .inr (.inr (.inr (.inr (48, 0))))), (4, .inr (.inr (.inr (.inr (49, 0)))))]) rfl ?_
  refine fm_gr O 2 (C' := (28, [(5, .inl (i + Int32.ofInt 6)), (0, .inr (.inr (.inr (.inr (50, 0))))), (1, .inr (.inr (.inr (.inr (0, 0))))), (2, .inr (.inr (.inr (.inr (24, 0))))), (3, .inr (.inr (.inr (.inr (48, 0))))), (4, .inr (.inr (.inr (.inr (49, 0)))))], [], (F2.2, J, G, fm_P pa pb))) rfl ?_
  exact IH _ _ _ _ _ q4

set_option maxRecDepth 100000 in
set_option maxHeartbeats 4000000 in
theorem fm_op1 {E : fm_Ev} (hl : E.1.stackTraces = false) {Inv : fm_In} (hs : fm_sd Inv) (hL : E.2.2.2.2.1 ≤ 3072) {k m : Nat} (hk : k + 6 ≤ E.2.2.2.2.1) {i : Int32} (hi : i = Int32.ofNat k) {I : fm_MI} {J : fm_MJ} {G : fm_MG} {pa pb : Nat × Nat} (hI : Inv I J G pa pb)
    (IH : ∀ (I : fm_MI) (J : fm_MJ) (G : fm_MG) (pa pb : Nat × Nat), Inv I J G pa pb → fm_Go E 16 fmL_law m (28, [(5, .inl (i + Int32.ofInt 6)), (0, .inr (.inr (.inr (.inr (50, 0))))), (1, .inr (.inr (.inr (.inr (0, 0))))), (2, .inr (.inr (.inr (.inr (24, 0))))), (3, .inr (.inr (.inr (.inr (48, 0))))), (4, .inr (.inr (.inr (.inr (49, 0)))))], [], (I, J, G, fm_P pa pb)) (fm_Zt E)) : fm_Go E 16 fmL_law (m + 1) (172, [(5, .inl i), (0, .inr (.inr (.inr (.inr (50, 0))))), (1, .inr (.inr (.inr (.inr (0, 0))))), (2, .inr (.inr (.inr (.inr (24, 0))))), (3, .inr (.inr (.inr (.inr (48, 0))))), (4, .inr (.inr (.inr (.inr (49, 0)))))], [], (I, J, G, fm_P pa pb)) (fm_Zt E) := by
  have O := fmL_law_o
  obtain ⟨q1, q2, q3, q4, q5, q6⟩ := (hs.2 _ _ _ _ _ hI).2.1 (E.2.2.2.2.2 ((i + 1).toNatClampNeg)) (E.2.2.2.2.2 ((i + 2).toNatClampNeg)) (E.2.2.2.2.2 ((i + 3).toNatClampNeg))
  have g1 : vp_in (i + 1) E.2.2.2.2.1 := by rw [hi]; exact fm_ix hL hk (j := 1) (by omega)
  have g2 : vp_in (i + 2) E.2.2.2.2.1 := by rw [hi]; exact fm_ix hL hk (j := 2) (by omega)
  have g3 : vp_in (i + 3) E.2.2.2.2.1 := by rw [hi]; exact fm_ix hL hk (j := 3) (by omega)
  have K := fmL_emit_c (E := E) hl (d := 15) (by omega) I J G pa pb (E.2.2.2.2.2 ((i + 1).toNatClampNeg)) (E.2.2.2.2.2 ((i + 2).toNatClampNeg)) (E.2.2.2.2.2 ((i + 3).toNatClampNeg)) q1 q2
  rw [Nat.add_comm m 1]
  refine fm_gr O 1 (C' := (173, [(5, .inl i), (0, .inr (.inr (.inr (.inr (50, 0))))), (1, .inr (.inr (.inr (.inr (0, 0))))), (2, .inr (.inr (.inr (.inr (24, 0))))), (3, .inr (.inr (.inr (.inr (48, 0))))), (4, .inr (.inr (.inr (.inr (49, 0)))))], [.inr (.inr (.inr (.inr (0, 0))))], (I, J, G, fm_P pa pb))) rfl ?_
  refine fm_gr O 4 (C' := (178, [(5, .inl i), (0, .inr (.inr (.inr (.inr (50, 0))))), (1, .inr (.inr (.inr (.inr (0, 0))))), (2, .inr (.inr (.inr (.inr (24, 0))))), (3, .inr (.inr (.inr (.inr (48, 0))))), (4, .inr (.inr (.inr (.inr (49, 0)))))], [.inl (i + 1), .inr (.inr (.inr (.inr (50, 0)))), .inr (.inr (.inr (.inr (0, 0))))], (I, J, G, fm_P pa pb))) rfl ?_
  refine fm_gx O rfl g1 ?_
  refine fm_gr O 4 (C' := (184, [(5, .inl i), (0, .inr (.inr (.inr (.inr (50, 0))))), (1, .inr (.inr (.inr (.inr (0, 0))))), (2, .inr (.inr (.inr (.inr (24, 0))))), (3, .inr (.inr (.inr (.inr (48, 0))))), (4, .inr (.inr (.inr (.inr (49, 0)))))], [.inl (i + 2), .inr (.inr (.inr (.inr (50, 0)))), .inl (E.2.2.2.2.2 ((i + 1).toNatClampNeg)), .inr (.inr (.inr (.inr (0, 0))))], (I, J, G, fm_P pa pb))) rfl ?_
  refine fm_gx O rfl g2 ?_
  refine fm_gr O 4 (C' := (190, [(5, .inl i), (0, .inr (.inr (.inr (.inr (50, 0))))), (1, .inr (.inr (.inr (.inr (0, 0))))), (2, .inr (.inr (.inr (.inr (24, 0))))), (3, .inr (.inr (.inr (.inr (48, 0))))), (4, .inr (.inr (.inr (.inr (49, 0)))))], [.inl (i + 3), .inr (.inr (.inr (.inr (50, 0)))), .inl (E.2.2.2.2.2 ((i + 2).toNatClampNeg)), .inl (E.2.2.2.2.2 ((i + 1).toNatClampNeg)), .inr (.inr (.inr (.inr (0, 0))))], (I, J, G, fm_P pa pb))) rfl ?_
  refine fm_gx O rfl g3 ?_
  refine fm_gr O 1 (C' := (192, [(5, .inl i), (0, .inr (.inr (.inr (.inr (50, 0))))), (1, .inr (.inr (.inr (.inr (0, 0))))), (2, .inr (.inr (.inr (.inr (24, 0))))), (3, .inr (.inr (.inr (.inr (48, 0))))), (4, .inr (.inr (.inr (.inr (49, 0)))))], [.inr (.inr (.inr (.inr (48, 0)))), .inl (E.2.2.2.2.2 ((i + 3).toNatClampNeg)), .inl (E.2.2.2.2.2 ((i + 2).toNatClampNeg)), .inl (E.2.2.2.2.2 ((i + 1).toNatClampNeg)), .inr (.inr (.inr (.inr (0, 0))))], (I, J, G, fm_P pa pb))) rfl ?_
  generalize hF : fmF_emit_f I (E.2.2.2.2.2 ((i + 1).toNatClampNeg)) (E.2.2.2.2.2 ((i + 2).toNatClampNeg)) (E.2.2.2.2.2 ((i + 3).toNatClampNeg)) = F at K q2 q3 q4 q5 q6 ⊢
  have K2 := fun J' => fmD_emit_c (E := E) hl (d := 15) (by omega) F.2.2 J' G pa pb (E.2.2.2.2.2 ((i + 1).toNatClampNeg)) (E.2.2.2.2.2 ((i + 2).toNatClampNeg)) (E.2.2.2.2.2 ((i + 3).toNatClampNeg)) q3
  generalize hD : fmD_emit_f F.2.2 (E.2.2.2.2.2 ((i + 1).toNatClampNeg)) (E.2.2.2.2.2 ((i + 2).toNatClampNeg)) (E.2.2.2.2.2 ((i + 3).toNatClampNeg)) = F2 at K2 q4 q5 q6
  by_cases h0 : F.1 = 0
  · rw [if_pos h0] at K
    refine fm_cW (as := [.inr (.inr (.inr (.inr (0, 0)))), .inl (E.2.2.2.2.2 ((i + 1).toNatClampNeg)), .inl (E.2.2.2.2.2 ((i + 2).toNatClampNeg)), .inl (E.2.2.2.2.2 ((i + 3).toNatClampNeg)), .inr (.inr (.inr (.inr (48, 0))))]) (rest := []) O fmL_emit_w rfl fk_8_51 fn_L_emit (by decide) K ?_
    refine fm_gr O 2 (C' := (198, [(6, .inl (Int32.ofNat F.1)), (5, .inl i), (0, .inr (.inr (.inr (.inr (50, 0))))), (1, .inr (.inr (.inr (.inr (0, 0))))), (2, .inr (.inr (.inr (.inr (24, 0))))), (3, .inr (.inr (.inr (.inr (48, 0))))), (4, .inr (.inr (.inr (.inr (49, 0)))))], [.inr (.inr (.inr (.inr (24, 0))))], (F.2.2, (fm_u J 48 0 0 (F.2.1).toInt64), G, fm_P pa pb))) rfl ?_
    refine fm_gr O 4 (C' := (203, [(6, .inl (Int32.ofNat F.1)), (5, .inl i), (0, .inr (.inr (.inr (.inr (50, 0))))), (1, .inr (.inr (.inr (.inr (0, 0))))), (2, .inr (.inr (.inr (.inr (24, 0))))), (3, .inr (.inr (.inr (.inr (48, 0))))), (4, .inr (.inr (.inr (.inr (49, 0)))))], [.inl (i + 1), .inr (.inr (.inr (.inr (50, 0)))), .inr (.inr (.inr (.inr (24, 0))))], (F.2.2, (fm_u J 48 0 0 (F.2.1).toInt64), G, fm_P pa pb))) rfl ?_
    refine fm_gx O rfl g1 ?_
    refine fm_gr O 4 (C' := (209, [(6, .inl (Int32.ofNat F.1)), (5, .inl i), (0, .inr (.inr (.inr (.inr (50, 0))))), (1, .inr (.inr (.inr (.inr (0, 0))))), (2, .inr (.inr (.inr (.inr (24, 0))))), (3, .inr (.inr (.inr (.inr (48, 0))))), (4, .inr (.inr (.inr (.inr (49, 0)))))], [.inl (i + 2), .inr (.inr (.inr (.inr (50, 0)))), .inl (E.2.2.2.2.2 ((i + 1).toNatClampNeg)), .inr (.inr (.inr (.inr (24, 0))))], (F.2.2, (fm_u J 48 0 0 (F.2.1).toInt64), G, fm_P pa pb))) rfl ?_
    refine fm_gx O rfl g2 ?_
    refine fm_gr O 4 (C' := (215, [(6, .inl (Int32.ofNat F.1)), (5, .inl i), (0, .inr (.inr (.inr (.inr (50, 0))))), (1, .inr (.inr (.inr (.inr (0, 0))))), (2, .inr (.inr (.inr (.inr (24, 0))))), (3, .inr (.inr (.inr (.inr (48, 0))))), (4, .inr (.inr (.inr (.inr (49, 0)))))], [.inl (i + 3), .inr (.inr (.inr (.inr (50, 0)))), .inl (E.2.2.2.2.2 ((i + 2).toNatClampNeg)), .inl (E.2.2.2.2.2 ((i + 1).toNatClampNeg)), .inr (.inr (.inr (.inr (24, 0))))], (F.2.2, (fm_u J 48 0 0 (F.2.1).toInt64), G, fm_P pa pb))) rfl ?_
    refine fm_gx O rfl g3 ?_
    refine fm_cV0 (as := [.inl (E.2.2.2.2.2 ((i + 1).toNatClampNeg)), .inl (E.2.2.2.2.2 ((i + 2).toNatClampNeg)), .inl (E.2.2.2.2.2 ((i + 3).toNatClampNeg))]) (rest := []) O fmD_emit_o rfl fk_8_54 rfl (by decide) fn_D_emit (by decide) (K2 (fm_u J 48 0 0 (F.2.1).toInt64)) ?_
    refine fm_gr O 2 (C' := (222, [(7, .inl F2.1), (6, .inl (Int32.ofNat F.1)), (5, .inl i), (0, .inr (.inr (.inr (.inr (50, 0))))), (1, .inr (.inr (.inr (.inr (0, 0))))), (2, .inr (.inr (.inr (.inr (24, 0))))), (3, .inr (.inr (.inr (.inr (48, 0))))), (4, .inr (.inr (.inr (.inr (49, 0)))))], [.inr (.inr (.inr (.inr (24, 0))))], (F2.2, (fm_u J 48 0 0 (F.2.1).toInt64), G, fm_P pa pb))) rfl ?_
    refine fm_cV0 (as := []) (rest := []) O fmD_thrown_o rfl fk_8_47 rfl (by decide) fn_D_thrown (by decide) (fmD_thrown_c (E := E) hl (d := 15) (by omega) F2.2 (fm_u J 48 0 0 (F.2.1).toInt64) G pa pb) ?_
    refine fm_gr O 1 (C' := (227, [(7, .inl F2.1), (6, .inl (Int32.ofNat F.1)), (5, .inl i), (0, .inr (.inr (.inr (.inr (50, 0))))), (1, .inr (.inr (.inr (.inr (0, 0))))), (2, .inr (.inr (.inr (.inr (24, 0))))), (3, .inr (.inr (.inr (.inr (48, 0))))), (4, .inr (.inr (.inr (.inr (49, 0)))))], [.inl (Int32.ofNat F.1), .inl (fmD_thrown_f F2.2)], (F2.2, (fm_u J 48 0 0 (F.2.1).toInt64), G, fm_P pa pb))) rfl ?_
    refine fm_gb O rfl (fun _ => ?_) (fun h => absurd q4 h)
    refine fm_gr O 1 (C' := (234, [(7, .inl F2.1), (6, .inl (Int32.ofNat F.1)), (5, .inl i), (0, .inr (.inr (.inr (.inr (50, 0))))), (1, .inr (.inr (.inr (.inr (0, 0))))), (2, .inr (.inr (.inr (.inr (24, 0))))), (3, .inr (.inr (.inr (.inr (48, 0))))), (4, .inr (.inr (.inr (.inr (49, 0)))))], [.inl (Int32.ofNat F.1)], (F2.2, (fm_u J 48 0 0 (F.2.1).toInt64), G, fm_P pa pb))) rfl ?_
    refine fm_gb O rfl (fun _ => ?_) (fun h => absurd (show Int32.ofNat F.1 = 0 by rw [h0]; rfl) h)
    refine fm_gr O 2 (C' := (239, [(7, .inl F2.1), (6, .inl (Int32.ofNat F.1)), (5, .inl i), (0, .inr (.inr (.inr (.inr (50, 0))))), (1, .inr (.inr (.inr (.inr (0, 0))))), (2, .inr (.inr (.inr (.inr (24, 0))))), (3, .inr (.inr (.inr (.inr (48, 0))))), (4, .inr (.inr (.inr (.inr (49, 0)))))], [.inl 0, .inr (.inr (.inr (.inr (48, 0))))], (F2.2, (fm_u J 48 0 0 (F.2.1).toInt64), G, fm_P pa pb))) rfl ?_
    refine fm_gg O rfl fm_0in1 ?_
    refine fm_gr O 3 (C' := (244, [(7, .inl F2.1), (6, .inl (Int32.ofNat F.1)), (5, .inl i), (0, .inr (.inr (.inr (.inr (50, 0))))), (1, .inr (.inr (.inr (.inr (0, 0))))), (2, .inr (.inr (.inr (.inr (24, 0))))), (3, .inr (.inr (.inr (.inr (48, 0))))), (4, .inr (.inr (.inr (.inr (49, 0)))))], [.inl (lg_cmp ((fm_u J 48 0 0 (F.2.1).toInt64) 48 0 0) F2.1.toInt64)], (F2.2, (fm_u J 48 0 0 (F.2.1).toInt64), G, fm_P pa pb))) rfl ?_
    refine fm_gb O rfl (fun _ => ?_) (fun h => absurd (show lg_cmp ((fm_u J 48 0 0 (F.2.1).toInt64) 48 0 0) F2.1.toInt64 = 0 by rw [← q5 h0]; exact fm_lgs _) h)
    refine fm_gr O 1 (C' := (558, [(7, .inl F2.1), (6, .inl (Int32.ofNat F.1)), (5, .inl i), (0, .inr (.inr (.inr (.inr (50, 0))))), (1, .inr (.inr (.inr (.inr (0, 0))))), (2, .inr (.inr (.inr (.inr (24, 0))))), (3, .inr (.inr (.inr (.inr (48, 0))))), (4, .inr (.inr (.inr (.inr (49, 0)))))], [], (F2.2, (fm_u J 48 0 0 (F.2.1).toInt64), G, fm_P pa pb))) rfl ?_
    refine fm_gL O [2, 3, 4, 5, 6, 7] (l' := [(5, .inl i), (0, .inr (.inr (.inr (.inr (50, 0))))), (1, .inr (.inr (.inr (.inr (0, 0))))), (2, .inr (.inr (.inr (.inr (24, 0))))), (3, .inr (.inr (.inr (.inr (48, 0))))), (4, .inr (.inr (.inr (.inr (49, 0)))))]) rfl ?_
    refine fm_gr O 2 (C' := (28, [(5, .inl (i + Int32.ofInt 6)), (0, .inr (.inr (.inr (.inr (50, 0))))), (1, .inr (.inr (.inr (.inr (0, 0))))), (2, .inr (.inr (.inr (.inr (24, 0))))), (3, .inr (.inr (.inr (.inr (48, 0))))), (4, .inr (.inr (.inr (.inr (49, 0)))))], [], (F2.2, (fm_u J 48 0 0 (F.2.1).toInt64), G, fm_P pa pb))) rfl ?_
    exact IH _ _ _ _ _ (q6 _ (Or.inr rfl))
  · rw [if_neg h0] at K
    refine fm_cW (as := [.inr (.inr (.inr (.inr (0, 0)))), .inl (E.2.2.2.2.2 ((i + 1).toNatClampNeg)), .inl (E.2.2.2.2.2 ((i + 2).toNatClampNeg)), .inl (E.2.2.2.2.2 ((i + 3).toNatClampNeg)), .inr (.inr (.inr (.inr (48, 0))))]) (rest := []) O fmL_emit_w rfl fk_8_51 fn_L_emit (by decide) K ?_
    refine fm_gr O 2 (C' := (198, [(6, .inl (Int32.ofNat F.1)), (5, .inl i), (0, .inr (.inr (.inr (.inr (50, 0))))), (1, .inr (.inr (.inr (.inr (0, 0))))), (2, .inr (.inr (.inr (.inr (24, 0))))), (3, .inr (.inr (.inr (.inr (48, 0))))), (4, .inr (.inr (.inr (.inr (49, 0)))))], [.inr (.inr (.inr (.inr (24, 0))))], (F.2.2, J, G, fm_P pa pb))) rfl ?_
    refine fm_gr O 4 (C' := (203, [(6, .inl (Int32.ofNat F.1)), (5, .inl i), (0, .inr (.inr (.inr (.inr (50, 0))))), (1, .inr (.inr (.inr (.inr (0, 0))))), (2, .inr (.inr (.inr (.inr (24, 0))))), (3, .inr (.inr (.inr (.inr (48, 0))))), (4, .inr (.inr (.inr (.inr (49, 0)))))], [.inl (i + 1), .inr (.inr (.inr (.inr (50, 0)))), .inr (.inr (.inr (.inr (24, 0))))], (F.2.2, J, G, fm_P pa pb))) rfl ?_
    refine fm_gx O rfl g1 ?_
    refine fm_gr O 4 (C' := (209, [(6, .inl (Int32.ofNat F.1)), (5, .inl i), (0, .inr (.inr (.inr (.inr (50, 0))))), (1, .inr (.inr (.inr (.inr (0, 0))))), (2, .inr (.inr (.inr (.inr (24, 0))))), (3, .inr (.inr (.inr (.inr (48, 0))))), (4, .inr (.inr (.inr (.inr (49, 0)))))], [.inl (i + 2), .inr (.inr (.inr (.inr (50, 0)))), .inl (E.2.2.2.2.2 ((i + 1).toNatClampNeg)), .inr (.inr (.inr (.inr (24, 0))))], (F.2.2, J, G, fm_P pa pb))) rfl ?_
    refine fm_gx O rfl g2 ?_
    refine fm_gr O 4 (C' := (215, [(6, .inl (Int32.ofNat F.1)), (5, .inl i), (0, .inr (.inr (.inr (.inr (50, 0))))), (1, .inr (.inr (.inr (.inr (0, 0))))), (2, .inr (.inr (.inr (.inr (24, 0))))), (3, .inr (.inr (.inr (.inr (48, 0))))), (4, .inr (.inr (.inr (.inr (49, 0)))))], [.inl (i + 3), .inr (.inr (.inr (.inr (50, 0)))), .inl (E.2.2.2.2.2 ((i + 2).toNatClampNeg)), .inl (E.2.2.2.2.2 ((i + 1).toNatClampNeg)), .inr (.inr (.inr (.inr (24, 0))))], (F.2.2, J, G, fm_P pa pb))) rfl ?_
    refine fm_gx O rfl g3 ?_
    refine fm_cV0 (as := [.inl (E.2.2.2.2.2 ((i + 1).toNatClampNeg)), .inl (E.2.2.2.2.2 ((i + 2).toNatClampNeg)), .inl (E.2.2.2.2.2 ((i + 3).toNatClampNeg))]) (rest := []) O fmD_emit_o rfl fk_8_54 rfl (by decide) fn_D_emit (by decide) (K2 J) ?_
    refine fm_gr O 2 (C' := (222, [(7, .inl F2.1), (6, .inl (Int32.ofNat F.1)), (5, .inl i), (0, .inr (.inr (.inr (.inr (50, 0))))), (1, .inr (.inr (.inr (.inr (0, 0))))), (2, .inr (.inr (.inr (.inr (24, 0))))), (3, .inr (.inr (.inr (.inr (48, 0))))), (4, .inr (.inr (.inr (.inr (49, 0)))))], [.inr (.inr (.inr (.inr (24, 0))))], (F2.2, J, G, fm_P pa pb))) rfl ?_
    refine fm_cV0 (as := []) (rest := []) O fmD_thrown_o rfl fk_8_47 rfl (by decide) fn_D_thrown (by decide) (fmD_thrown_c (E := E) hl (d := 15) (by omega) F2.2 J G pa pb) ?_
    refine fm_gr O 1 (C' := (227, [(7, .inl F2.1), (6, .inl (Int32.ofNat F.1)), (5, .inl i), (0, .inr (.inr (.inr (.inr (50, 0))))), (1, .inr (.inr (.inr (.inr (0, 0))))), (2, .inr (.inr (.inr (.inr (24, 0))))), (3, .inr (.inr (.inr (.inr (48, 0))))), (4, .inr (.inr (.inr (.inr (49, 0)))))], [.inl (Int32.ofNat F.1), .inl (fmD_thrown_f F2.2)], (F2.2, J, G, fm_P pa pb))) rfl ?_
    refine fm_gb O rfl (fun _ => ?_) (fun h => absurd q4 h)
    refine fm_gr O 1 (C' := (234, [(7, .inl F2.1), (6, .inl (Int32.ofNat F.1)), (5, .inl i), (0, .inr (.inr (.inr (.inr (50, 0))))), (1, .inr (.inr (.inr (.inr (0, 0))))), (2, .inr (.inr (.inr (.inr (24, 0))))), (3, .inr (.inr (.inr (.inr (48, 0))))), (4, .inr (.inr (.inr (.inr (49, 0)))))], [.inl (Int32.ofNat F.1)], (F2.2, J, G, fm_P pa pb))) rfl ?_
    refine fm_gb O rfl (fun h => absurd h (fm_on _ (by omega) h0)) (fun _ => ?_)
    refine fm_gr O 1 (C' := (558, [(7, .inl F2.1), (6, .inl (Int32.ofNat F.1)), (5, .inl i), (0, .inr (.inr (.inr (.inr (50, 0))))), (1, .inr (.inr (.inr (.inr (0, 0))))), (2, .inr (.inr (.inr (.inr (24, 0))))), (3, .inr (.inr (.inr (.inr (48, 0))))), (4, .inr (.inr (.inr (.inr (49, 0)))))], [], (F2.2, J, G, fm_P pa pb))) rfl ?_
    refine fm_gL O [2, 3, 4, 5, 6, 7] (l' := [(5, .inl i), (0, .inr (.inr (.inr (.inr (50, 0))))), (1, .inr (.inr (.inr (.inr (0, 0))))), (2, .inr (.inr (.inr (.inr (24, 0))))), (3, .inr (.inr (.inr (.inr (48, 0))))), (4, .inr (.inr (.inr (.inr (49, 0)))))]) rfl ?_
    refine fm_gr O 2 (C' := (28, [(5, .inl (i + Int32.ofInt 6)), (0, .inr (.inr (.inr (.inr (50, 0))))), (1, .inr (.inr (.inr (.inr (0, 0))))), (2, .inr (.inr (.inr (.inr (24, 0))))), (3, .inr (.inr (.inr (.inr (48, 0))))), (4, .inr (.inr (.inr (.inr (49, 0)))))], [], (F2.2, J, G, fm_P pa pb))) rfl ?_
    exact IH _ _ _ _ _ (q6 _ (Or.inl rfl))

set_option maxRecDepth 100000 in
set_option maxHeartbeats 4000000 in
theorem fm_op5 {E : fm_Ev} (hl : E.1.stackTraces = false) {Inv : fm_In} (hs : fm_sd Inv) (hL : E.2.2.2.2.1 ≤ 3072) {k m : Nat} (hk : k + 6 ≤ E.2.2.2.2.1) {i : Int32} (hi : i = Int32.ofNat k) {I : fm_MI} {J : fm_MJ} {G : fm_MG} {pa pb : Nat × Nat} (hI : Inv I J G pa pb)
    (IH : ∀ (I : fm_MI) (J : fm_MJ) (G : fm_MG) (pa pb : Nat × Nat), Inv I J G pa pb → fm_Go E 16 fmL_law m (28, [(5, .inl (i + Int32.ofInt 6)), (0, .inr (.inr (.inr (.inr (50, 0))))), (1, .inr (.inr (.inr (.inr (0, 0))))), (2, .inr (.inr (.inr (.inr (24, 0))))), (3, .inr (.inr (.inr (.inr (48, 0))))), (4, .inr (.inr (.inr (.inr (49, 0)))))], [], (I, J, G, fm_P pa pb)) (fm_Zt E)) : fm_Go E 16 fmL_law (m + 1) (456, [(5, .inl i), (0, .inr (.inr (.inr (.inr (50, 0))))), (1, .inr (.inr (.inr (.inr (0, 0))))), (2, .inr (.inr (.inr (.inr (24, 0))))), (3, .inr (.inr (.inr (.inr (48, 0))))), (4, .inr (.inr (.inr (.inr (49, 0)))))], [], (I, J, G, fm_P pa pb)) (fm_Zt E) := by
  have O := fmL_law_o
  obtain ⟨q1, q2, q3⟩ := (hs.2 _ _ _ _ _ hI).2.2.2.2.2.1 (E.2.2.2.2.2 ((i + 1).toNatClampNeg))
  have g1 : vp_in (i + 1) E.2.2.2.2.1 := by rw [hi]; exact fm_ix hL hk (j := 1) (by omega)
  have K := fmL_global_c (E := E) hl (d := 15) (by omega) I J G pa pb (E.2.2.2.2.2 ((i + 1).toNatClampNeg)) q1 q2
  rw [Nat.add_comm m 1]
  refine fm_gr O 1 (C' := (457, [(5, .inl i), (0, .inr (.inr (.inr (.inr (50, 0))))), (1, .inr (.inr (.inr (.inr (0, 0))))), (2, .inr (.inr (.inr (.inr (24, 0))))), (3, .inr (.inr (.inr (.inr (48, 0))))), (4, .inr (.inr (.inr (.inr (49, 0)))))], [.inr (.inr (.inr (.inr (0, 0))))], (I, J, G, fm_P pa pb))) rfl ?_
  refine fm_gr O 4 (C' := (462, [(5, .inl i), (0, .inr (.inr (.inr (.inr (50, 0))))), (1, .inr (.inr (.inr (.inr (0, 0))))), (2, .inr (.inr (.inr (.inr (24, 0))))), (3, .inr (.inr (.inr (.inr (48, 0))))), (4, .inr (.inr (.inr (.inr (49, 0)))))], [.inl (i + 1), .inr (.inr (.inr (.inr (50, 0)))), .inr (.inr (.inr (.inr (0, 0))))], (I, J, G, fm_P pa pb))) rfl ?_
  refine fm_gx O rfl g1 ?_
  refine fm_gr O 1 (C' := (465, [(5, .inl i), (0, .inr (.inr (.inr (.inr (50, 0))))), (1, .inr (.inr (.inr (.inr (0, 0))))), (2, .inr (.inr (.inr (.inr (24, 0))))), (3, .inr (.inr (.inr (.inr (48, 0))))), (4, .inr (.inr (.inr (.inr (49, 0)))))], [.inr (.inr (.inr (.inr (49, 0)))), .inl (E.2.2.2.2.2 ((i + 1).toNatClampNeg)), .inr (.inr (.inr (.inr (0, 0))))], (I, J, G, fm_P pa pb))) rfl ?_
  generalize hF : fmF_global_f J G (E.2.2.2.2.2 ((i + 1).toNatClampNeg)) = F at K q2 q3 ⊢
  by_cases h0 : F.1 = 0
  · rw [if_pos h0] at K
    obtain ⟨p1, p2, p3, p4⟩ := q3 (fm_u G 49 0 0 F.2) (by rw [if_pos h0])
    have K2 := fmD_global_c (E := E) hl (d := 15) (by omega) I J (fm_u G 49 0 0 F.2) pa pb (E.2.2.2.2.2 ((i + 1).toNatClampNeg)) p1
    generalize hD : fmD_global_f I J (fm_u G 49 0 0 F.2) (E.2.2.2.2.2 ((i + 1).toNatClampNeg)) = F2 at K2 p2 p3 p4
    refine fm_cW (as := [.inr (.inr (.inr (.inr (0, 0)))), .inl (E.2.2.2.2.2 ((i + 1).toNatClampNeg)), .inr (.inr (.inr (.inr (49, 0))))]) (rest := []) O fmL_global_w rfl fk_8_69 fn_L_global (by decide) K ?_
    refine fm_gr O 2 (C' := (471, [(6, .inl (Int32.ofNat F.1)), (5, .inl i), (0, .inr (.inr (.inr (.inr (50, 0))))), (1, .inr (.inr (.inr (.inr (0, 0))))), (2, .inr (.inr (.inr (.inr (24, 0))))), (3, .inr (.inr (.inr (.inr (48, 0))))), (4, .inr (.inr (.inr (.inr (49, 0)))))], [.inr (.inr (.inr (.inr (24, 0))))], (I, J, (fm_u G 49 0 0 F.2), fm_P pa pb))) rfl ?_
    refine fm_gr O 4 (C' := (476, [(6, .inl (Int32.ofNat F.1)), (5, .inl i), (0, .inr (.inr (.inr (.inr (50, 0))))), (1, .inr (.inr (.inr (.inr (0, 0))))), (2, .inr (.inr (.inr (.inr (24, 0))))), (3, .inr (.inr (.inr (.inr (48, 0))))), (4, .inr (.inr (.inr (.inr (49, 0)))))], [.inl (i + 1), .inr (.inr (.inr (.inr (50, 0)))), .inr (.inr (.inr (.inr (24, 0))))], (I, J, (fm_u G 49 0 0 F.2), fm_P pa pb))) rfl ?_
    refine fm_gx O rfl g1 ?_
    refine fm_cV0 (as := [.inl (E.2.2.2.2.2 ((i + 1).toNatClampNeg))]) (rest := []) O fmD_global_o rfl fk_8_72 rfl (by decide) fn_D_global (by decide) K2 ?_
    refine fm_gr O 2 (C' := (483, [(7, .inr (.inr (.inr (.inl (F2.1))))), (6, .inl (Int32.ofNat F.1)), (5, .inl i), (0, .inr (.inr (.inr (.inr (50, 0))))), (1, .inr (.inr (.inr (.inr (0, 0))))), (2, .inr (.inr (.inr (.inr (24, 0))))), (3, .inr (.inr (.inr (.inr (48, 0))))), (4, .inr (.inr (.inr (.inr (49, 0)))))], [.inr (.inr (.inr (.inr (24, 0))))], (F2.2, J, (fm_u G 49 0 0 F.2), fm_P pa pb))) rfl ?_
    refine fm_cV0 (as := []) (rest := []) O fmD_thrown_o rfl fk_8_47 rfl (by decide) fn_D_thrown (by decide) (fmD_thrown_c (E := E) hl (d := 15) (by omega) F2.2 J (fm_u G 49 0 0 F.2) pa pb) ?_
    refine fm_gr O 1 (C' := (488, [(7, .inr (.inr (.inr (.inl (F2.1))))), (6, .inl (Int32.ofNat F.1)), (5, .inl i), (0, .inr (.inr (.inr (.inr (50, 0))))), (1, .inr (.inr (.inr (.inr (0, 0))))), (2, .inr (.inr (.inr (.inr (24, 0))))), (3, .inr (.inr (.inr (.inr (48, 0))))), (4, .inr (.inr (.inr (.inr (49, 0)))))], [.inl (Int32.ofNat F.1), .inl (fmD_thrown_f F2.2)], (F2.2, J, (fm_u G 49 0 0 F.2), fm_P pa pb))) rfl ?_
    refine fm_gb O rfl (fun _ => ?_) (fun h => absurd p2 h)
    refine fm_gr O 1 (C' := (495, [(7, .inr (.inr (.inr (.inl (F2.1))))), (6, .inl (Int32.ofNat F.1)), (5, .inl i), (0, .inr (.inr (.inr (.inr (50, 0))))), (1, .inr (.inr (.inr (.inr (0, 0))))), (2, .inr (.inr (.inr (.inr (24, 0))))), (3, .inr (.inr (.inr (.inr (48, 0))))), (4, .inr (.inr (.inr (.inr (49, 0)))))], [.inl (Int32.ofNat F.1)], (F2.2, J, (fm_u G 49 0 0 F.2), fm_P pa pb))) rfl ?_
    refine fm_gb O rfl (fun _ => ?_) (fun h => absurd (show Int32.ofNat F.1 = 0 by rw [h0]; rfl) h)
    refine fm_gr O 2 (C' := (501, [(7, .inr (.inr (.inr (.inl (F2.1))))), (6, .inl (Int32.ofNat F.1)), (5, .inl i), (0, .inr (.inr (.inr (.inr (50, 0))))), (1, .inr (.inr (.inr (.inr (0, 0))))), (2, .inr (.inr (.inr (.inr (24, 0))))), (3, .inr (.inr (.inr (.inr (48, 0))))), (4, .inr (.inr (.inr (.inr (49, 0)))))], [.inl 0, .inr (.inr (.inr (.inr (49, 0))))], (F2.2, J, (fm_u G 49 0 0 F.2), fm_P pa pb))) rfl ?_
    refine fm_gg O rfl fm_0in1 ?_
    refine fm_gr O 2 (C' := (505, [(7, .inr (.inr (.inr (.inl (F2.1))))), (6, .inl (Int32.ofNat F.1)), (5, .inl i), (0, .inr (.inr (.inr (.inr (50, 0))))), (1, .inr (.inr (.inr (.inr (0, 0))))), (2, .inr (.inr (.inr (.inr (24, 0))))), (3, .inr (.inr (.inr (.inr (48, 0))))), (4, .inr (.inr (.inr (.inr (49, 0)))))], [.inl (Op.cmpValue (FP.dcmp ((fm_u G 49 0 0 F.2) 49 0 0) F2.1) .l)], (F2.2, J, (fm_u G 49 0 0 F.2), fm_P pa pb))) rfl ?_
    refine fm_gb O rfl (fun _ => ?_) (fun hne => ?_)
    · refine fm_gr O 1 (C' := (558, [(7, .inr (.inr (.inr (.inl (F2.1))))), (6, .inl (Int32.ofNat F.1)), (5, .inl i), (0, .inr (.inr (.inr (.inr (50, 0))))), (1, .inr (.inr (.inr (.inr (0, 0))))), (2, .inr (.inr (.inr (.inr (24, 0))))), (3, .inr (.inr (.inr (.inr (48, 0))))), (4, .inr (.inr (.inr (.inr (49, 0)))))], [], (F2.2, J, (fm_u G 49 0 0 F.2), fm_P pa pb))) rfl ?_
      refine fm_gL O [2, 3, 4, 5, 6, 7] (l' := [(5, .inl i), (0, .inr (.inr (.inr (.inr (50, 0))))), (1, .inr (.inr (.inr (.inr (0, 0))))), (2, .inr (.inr (.inr (.inr (24, 0))))), (3, .inr (.inr (.inr (.inr (48, 0))))), (4, .inr (.inr (.inr (.inr (49, 0)))))]) rfl ?_
      refine fm_gr O 2 (C' := (28, [(5, .inl (i + Int32.ofInt 6)), (0, .inr (.inr (.inr (.inr (50, 0))))), (1, .inr (.inr (.inr (.inr (0, 0))))), (2, .inr (.inr (.inr (.inr (24, 0))))), (3, .inr (.inr (.inr (.inr (48, 0))))), (4, .inr (.inr (.inr (.inr (49, 0)))))], [], (F2.2, J, (fm_u G 49 0 0 F.2), fm_P pa pb))) rfl ?_
      exact IH _ _ _ _ _ p4
    · refine fm_gr O 2 (C' := (511, [(7, .inr (.inr (.inr (.inl (F2.1))))), (6, .inl (Int32.ofNat F.1)), (5, .inl i), (0, .inr (.inr (.inr (.inr (50, 0))))), (1, .inr (.inr (.inr (.inr (0, 0))))), (2, .inr (.inr (.inr (.inr (24, 0))))), (3, .inr (.inr (.inr (.inr (48, 0))))), (4, .inr (.inr (.inr (.inr (49, 0)))))], [.inl 0, .inr (.inr (.inr (.inr (49, 0))))], (F2.2, J, (fm_u G 49 0 0 F.2), fm_P pa pb))) rfl ?_
      refine fm_gg O rfl fm_0in1 ?_
      refine fm_gr O 2 (C' := (515, [(7, .inr (.inr (.inr (.inl (F2.1))))), (6, .inl (Int32.ofNat F.1)), (5, .inl i), (0, .inr (.inr (.inr (.inr (50, 0))))), (1, .inr (.inr (.inr (.inr (0, 0))))), (2, .inr (.inr (.inr (.inr (24, 0))))), (3, .inr (.inr (.inr (.inr (48, 0))))), (4, .inr (.inr (.inr (.inr (49, 0)))))], [.inl 0, .inr (.inr (.inr (.inr (49, 0)))), .inr (.inr (.inr (.inl ((fm_u G 49 0 0 F.2) 49 0 0))))], (F2.2, J, (fm_u G 49 0 0 F.2), fm_P pa pb))) rfl ?_
      refine fm_gg O rfl fm_0in1 ?_
      refine fm_gr O 1 (C' := (517, [(7, .inr (.inr (.inr (.inl (F2.1))))), (6, .inl (Int32.ofNat F.1)), (5, .inl i), (0, .inr (.inr (.inr (.inr (50, 0))))), (1, .inr (.inr (.inr (.inr (0, 0))))), (2, .inr (.inr (.inr (.inr (24, 0))))), (3, .inr (.inr (.inr (.inr (48, 0))))), (4, .inr (.inr (.inr (.inr (49, 0)))))], [.inl (Op.cmpValue (FP.dcmp ((fm_u G 49 0 0 F.2) 49 0 0) ((fm_u G 49 0 0 F.2) 49 0 0)) .l)], (F2.2, J, (fm_u G 49 0 0 F.2), fm_P pa pb))) rfl ?_
      obtain ⟨e1, e2⟩ := (p3 h0).resolve_left hne
      refine fm_gb O rfl (fun h => absurd h e1) (fun _ => ?_)
      refine fm_gr O 3 (C' := (525, [(7, .inr (.inr (.inr (.inl (F2.1))))), (6, .inl (Int32.ofNat F.1)), (5, .inl i), (0, .inr (.inr (.inr (.inr (50, 0))))), (1, .inr (.inr (.inr (.inr (0, 0))))), (2, .inr (.inr (.inr (.inr (24, 0))))), (3, .inr (.inr (.inr (.inr (48, 0))))), (4, .inr (.inr (.inr (.inr (49, 0)))))], [.inl (Op.cmpValue (FP.dcmp F2.1 F2.1) .l)], (F2.2, J, (fm_u G 49 0 0 F.2), fm_P pa pb))) rfl ?_
      refine fm_gb O rfl (fun h => absurd h e2) (fun _ => ?_)
      refine fm_gr O 1 (C' := (558, [(7, .inr (.inr (.inr (.inl (F2.1))))), (6, .inl (Int32.ofNat F.1)), (5, .inl i), (0, .inr (.inr (.inr (.inr (50, 0))))), (1, .inr (.inr (.inr (.inr (0, 0))))), (2, .inr (.inr (.inr (.inr (24, 0))))), (3, .inr (.inr (.inr (.inr (48, 0))))), (4, .inr (.inr (.inr (.inr (49, 0)))))], [], (F2.2, J, (fm_u G 49 0 0 F.2), fm_P pa pb))) rfl ?_
      refine fm_gL O [2, 3, 4, 5, 6, 7] (l' := [(5, .inl i), (0, .inr (.inr (.inr (.inr (50, 0))))), (1, .inr (.inr (.inr (.inr (0, 0))))), (2, .inr (.inr (.inr (.inr (24, 0))))), (3, .inr (.inr (.inr (.inr (48, 0))))), (4, .inr (.inr (.inr (.inr (49, 0)))))]) rfl ?_
      refine fm_gr O 2 (C' := (28, [(5, .inl (i + Int32.ofInt 6)), (0, .inr (.inr (.inr (.inr (50, 0))))), (1, .inr (.inr (.inr (.inr (0, 0))))), (2, .inr (.inr (.inr (.inr (24, 0))))), (3, .inr (.inr (.inr (.inr (48, 0))))), (4, .inr (.inr (.inr (.inr (49, 0)))))], [], (F2.2, J, (fm_u G 49 0 0 F.2), fm_P pa pb))) rfl ?_
      exact IH _ _ _ _ _ p4
  · rw [if_neg h0] at K
    obtain ⟨p1, p2, p3, p4⟩ := q3 G (by rw [if_neg h0])
    have K2 := fmD_global_c (E := E) hl (d := 15) (by omega) I J G pa pb (E.2.2.2.2.2 ((i + 1).toNatClampNeg)) p1
    generalize hD : fmD_global_f I J G (E.2.2.2.2.2 ((i + 1).toNatClampNeg)) = F2 at K2 p2 p3 p4
    refine fm_cW (as := [.inr (.inr (.inr (.inr (0, 0)))), .inl (E.2.2.2.2.2 ((i + 1).toNatClampNeg)), .inr (.inr (.inr (.inr (49, 0))))]) (rest := []) O fmL_global_w rfl fk_8_69 fn_L_global (by decide) K ?_
    refine fm_gr O 2 (C' := (471, [(6, .inl (Int32.ofNat F.1)), (5, .inl i), (0, .inr (.inr (.inr (.inr (50, 0))))), (1, .inr (.inr (.inr (.inr (0, 0))))), (2, .inr (.inr (.inr (.inr (24, 0))))), (3, .inr (.inr (.inr (.inr (48, 0))))), (4, .inr (.inr (.inr (.inr (49, 0)))))], [.inr (.inr (.inr (.inr (24, 0))))], (I, J, G, fm_P pa pb))) rfl ?_
    refine fm_gr O 4 (C' := (476, [(6, .inl (Int32.ofNat F.1)), (5, .inl i), (0, .inr (.inr (.inr (.inr (50, 0))))), (1, .inr (.inr (.inr (.inr (0, 0))))), (2, .inr (.inr (.inr (.inr (24, 0))))), (3, .inr (.inr (.inr (.inr (48, 0))))), (4, .inr (.inr (.inr (.inr (49, 0)))))], [.inl (i + 1), .inr (.inr (.inr (.inr (50, 0)))), .inr (.inr (.inr (.inr (24, 0))))], (I, J, G, fm_P pa pb))) rfl ?_
    refine fm_gx O rfl g1 ?_
    refine fm_cV0 (as := [.inl (E.2.2.2.2.2 ((i + 1).toNatClampNeg))]) (rest := []) O fmD_global_o rfl fk_8_72 rfl (by decide) fn_D_global (by decide) K2 ?_
    refine fm_gr O 2 (C' := (483, [(7, .inr (.inr (.inr (.inl (F2.1))))), (6, .inl (Int32.ofNat F.1)), (5, .inl i), (0, .inr (.inr (.inr (.inr (50, 0))))), (1, .inr (.inr (.inr (.inr (0, 0))))), (2, .inr (.inr (.inr (.inr (24, 0))))), (3, .inr (.inr (.inr (.inr (48, 0))))), (4, .inr (.inr (.inr (.inr (49, 0)))))], [.inr (.inr (.inr (.inr (24, 0))))], (F2.2, J, G, fm_P pa pb))) rfl ?_
    refine fm_cV0 (as := []) (rest := []) O fmD_thrown_o rfl fk_8_47 rfl (by decide) fn_D_thrown (by decide) (fmD_thrown_c (E := E) hl (d := 15) (by omega) F2.2 J G pa pb) ?_
    refine fm_gr O 1 (C' := (488, [(7, .inr (.inr (.inr (.inl (F2.1))))), (6, .inl (Int32.ofNat F.1)), (5, .inl i), (0, .inr (.inr (.inr (.inr (50, 0))))), (1, .inr (.inr (.inr (.inr (0, 0))))), (2, .inr (.inr (.inr (.inr (24, 0))))), (3, .inr (.inr (.inr (.inr (48, 0))))), (4, .inr (.inr (.inr (.inr (49, 0)))))], [.inl (Int32.ofNat F.1), .inl (fmD_thrown_f F2.2)], (F2.2, J, G, fm_P pa pb))) rfl ?_
    refine fm_gb O rfl (fun _ => ?_) (fun h => absurd p2 h)
    refine fm_gr O 1 (C' := (495, [(7, .inr (.inr (.inr (.inl (F2.1))))), (6, .inl (Int32.ofNat F.1)), (5, .inl i), (0, .inr (.inr (.inr (.inr (50, 0))))), (1, .inr (.inr (.inr (.inr (0, 0))))), (2, .inr (.inr (.inr (.inr (24, 0))))), (3, .inr (.inr (.inr (.inr (48, 0))))), (4, .inr (.inr (.inr (.inr (49, 0)))))], [.inl (Int32.ofNat F.1)], (F2.2, J, G, fm_P pa pb))) rfl ?_
    refine fm_gb O rfl (fun h => absurd h (fm_on _ (by omega) h0)) (fun _ => ?_)
    refine fm_gr O 1 (C' := (558, [(7, .inr (.inr (.inr (.inl (F2.1))))), (6, .inl (Int32.ofNat F.1)), (5, .inl i), (0, .inr (.inr (.inr (.inr (50, 0))))), (1, .inr (.inr (.inr (.inr (0, 0))))), (2, .inr (.inr (.inr (.inr (24, 0))))), (3, .inr (.inr (.inr (.inr (48, 0))))), (4, .inr (.inr (.inr (.inr (49, 0)))))], [], (F2.2, J, G, fm_P pa pb))) rfl ?_
    refine fm_gL O [2, 3, 4, 5, 6, 7] (l' := [(5, .inl i), (0, .inr (.inr (.inr (.inr (50, 0))))), (1, .inr (.inr (.inr (.inr (0, 0))))), (2, .inr (.inr (.inr (.inr (24, 0))))), (3, .inr (.inr (.inr (.inr (48, 0))))), (4, .inr (.inr (.inr (.inr (49, 0)))))]) rfl ?_
    refine fm_gr O 2 (C' := (28, [(5, .inl (i + Int32.ofInt 6)), (0, .inr (.inr (.inr (.inr (50, 0))))), (1, .inr (.inr (.inr (.inr (0, 0))))), (2, .inr (.inr (.inr (.inr (24, 0))))), (3, .inr (.inr (.inr (.inr (48, 0))))), (4, .inr (.inr (.inr (.inr (49, 0)))))], [], (F2.2, J, G, fm_P pa pb))) rfl ?_
    exact IH _ _ _ _ _ p4

set_option maxRecDepth 100000 in
set_option maxHeartbeats 4000000 in
theorem fm_op4 {E : fm_Ev} (hl : E.1.stackTraces = false) {Inv : fm_In} (hs : fm_sd Inv) (hL : E.2.2.2.2.1 ≤ 3072) {k m : Nat} (hk : k + 6 ≤ E.2.2.2.2.1) {i : Int32} (hi : i = Int32.ofNat k) {I : fm_MI} {J : fm_MJ} {G : fm_MG} {pa pb : Nat × Nat} (hI : Inv I J G pa pb)
    (IH : ∀ (I : fm_MI) (J : fm_MJ) (G : fm_MG) (pa pb : Nat × Nat), Inv I J G pa pb → fm_Go E 16 fmL_law m (28, [(5, .inl (i + Int32.ofInt 6)), (0, .inr (.inr (.inr (.inr (50, 0))))), (1, .inr (.inr (.inr (.inr (0, 0))))), (2, .inr (.inr (.inr (.inr (24, 0))))), (3, .inr (.inr (.inr (.inr (48, 0))))), (4, .inr (.inr (.inr (.inr (49, 0)))))], [], (I, J, G, fm_P pa pb)) (fm_Zt E)) : fm_Go E 16 fmL_law (m + 1) (301, [(5, .inl i), (0, .inr (.inr (.inr (.inr (50, 0))))), (1, .inr (.inr (.inr (.inr (0, 0))))), (2, .inr (.inr (.inr (.inr (24, 0))))), (3, .inr (.inr (.inr (.inr (48, 0))))), (4, .inr (.inr (.inr (.inr (49, 0)))))], [], (I, J, G, fm_P pa pb)) (fm_Zt E) := by
  have O := fmL_law_o
  obtain ⟨q1, q2, q3⟩ := (hs.2 _ _ _ _ _ hI).2.2.2.2.1 (E.2.2.2.2.2 ((i + 1).toNatClampNeg)) (E.2.2.2.2.2 ((i + 2).toNatClampNeg)) (E.2.2.2.2.2 ((i + 3).toNatClampNeg)) (E.2.2.2.2.2 ((i + 4).toNatClampNeg)) (E.2.2.2.2.2 ((i + 5).toNatClampNeg)) _ _ _ rfl rfl rfl
  have g1 : vp_in (i + 1) E.2.2.2.2.1 := by rw [hi]; exact fm_ix hL hk (j := 1) (by omega)
  have g2 : vp_in (i + 2) E.2.2.2.2.1 := by rw [hi]; exact fm_ix hL hk (j := 2) (by omega)
  have g3 : vp_in (i + 3) E.2.2.2.2.1 := by rw [hi]; exact fm_ix hL hk (j := 3) (by omega)
  have g4 : vp_in (i + 4) E.2.2.2.2.1 := by rw [hi]; exact fm_ix hL hk (j := 4) (by omega)
  have g5 : vp_in (i + 5) E.2.2.2.2.1 := by rw [hi]; exact fm_ix hL hk (j := 5) (by omega)
  have K := fmL_run_c (E := E) hl (d := 15) (by omega) I J G pa pb (E.2.2.2.2.2 ((i + 1).toNatClampNeg)) (FP.dmul (FP.i2d (E.2.2.2.2.2 ((i + 2).toNatClampNeg))) 4593671619917905920) (FP.dmul (FP.i2d (E.2.2.2.2.2 ((i + 3).toNatClampNeg))) 4593671619917905920) (FP.dmul (FP.i2d (E.2.2.2.2.2 ((i + 4).toNatClampNeg))) 4593671619917905920) (E.2.2.2.2.2 ((i + 5).toNatClampNeg)) q1 q2
  rw [Nat.add_comm m 1]
  refine fm_gr O 1 (C' := (302, [(5, .inl i), (0, .inr (.inr (.inr (.inr (50, 0))))), (1, .inr (.inr (.inr (.inr (0, 0))))), (2, .inr (.inr (.inr (.inr (24, 0))))), (3, .inr (.inr (.inr (.inr (48, 0))))), (4, .inr (.inr (.inr (.inr (49, 0)))))], [.inr (.inr (.inr (.inr (0, 0))))], (I, J, G, fm_P pa pb))) rfl ?_
  refine fm_gr O 4 (C' := (307, [(5, .inl i), (0, .inr (.inr (.inr (.inr (50, 0))))), (1, .inr (.inr (.inr (.inr (0, 0))))), (2, .inr (.inr (.inr (.inr (24, 0))))), (3, .inr (.inr (.inr (.inr (48, 0))))), (4, .inr (.inr (.inr (.inr (49, 0)))))], [.inl (i + 1), .inr (.inr (.inr (.inr (50, 0)))), .inr (.inr (.inr (.inr (0, 0))))], (I, J, G, fm_P pa pb))) rfl ?_
  refine fm_gx O rfl g1 ?_
  refine fm_gr O 4 (C' := (313, [(5, .inl i), (0, .inr (.inr (.inr (.inr (50, 0))))), (1, .inr (.inr (.inr (.inr (0, 0))))), (2, .inr (.inr (.inr (.inr (24, 0))))), (3, .inr (.inr (.inr (.inr (48, 0))))), (4, .inr (.inr (.inr (.inr (49, 0)))))], [.inl (i + 2), .inr (.inr (.inr (.inr (50, 0)))), .inl (E.2.2.2.2.2 ((i + 1).toNatClampNeg)), .inr (.inr (.inr (.inr (0, 0))))], (I, J, G, fm_P pa pb))) rfl ?_
  refine fm_gx O rfl g2 ?_
  refine fm_gr O 2 (C' := (318, [(5, .inl i), (0, .inr (.inr (.inr (.inr (50, 0))))), (1, .inr (.inr (.inr (.inr (0, 0))))), (2, .inr (.inr (.inr (.inr (24, 0))))), (3, .inr (.inr (.inr (.inr (48, 0))))), (4, .inr (.inr (.inr (.inr (49, 0)))))], [.inr (.inr (.inr (.inl (4593671619917905920)))), .inr (.inr (.inr (.inl (FP.i2d (E.2.2.2.2.2 ((i + 2).toNatClampNeg)))))), .inl (E.2.2.2.2.2 ((i + 1).toNatClampNeg)), .inr (.inr (.inr (.inr (0, 0))))], (I, J, G, fm_P pa pb))) rfl ?_
  refine fm_gg O rfl (hs.1 _) ?_
  refine fm_gr O 4 (C' := (324, [(5, .inl i), (0, .inr (.inr (.inr (.inr (50, 0))))), (1, .inr (.inr (.inr (.inr (0, 0))))), (2, .inr (.inr (.inr (.inr (24, 0))))), (3, .inr (.inr (.inr (.inr (48, 0))))), (4, .inr (.inr (.inr (.inr (49, 0)))))], [.inl (i + 3), .inr (.inr (.inr (.inr (50, 0)))), .inr (.inr (.inr (.inl ((FP.dmul (FP.i2d (E.2.2.2.2.2 ((i + 2).toNatClampNeg))) 4593671619917905920))))), .inl (E.2.2.2.2.2 ((i + 1).toNatClampNeg)), .inr (.inr (.inr (.inr (0, 0))))], (I, J, G, fm_P pa pb))) rfl ?_
  refine fm_gx O rfl g3 ?_
  refine fm_gr O 2 (C' := (329, [(5, .inl i), (0, .inr (.inr (.inr (.inr (50, 0))))), (1, .inr (.inr (.inr (.inr (0, 0))))), (2, .inr (.inr (.inr (.inr (24, 0))))), (3, .inr (.inr (.inr (.inr (48, 0))))), (4, .inr (.inr (.inr (.inr (49, 0)))))], [.inr (.inr (.inr (.inl (4593671619917905920)))), .inr (.inr (.inr (.inl (FP.i2d (E.2.2.2.2.2 ((i + 3).toNatClampNeg)))))), .inr (.inr (.inr (.inl ((FP.dmul (FP.i2d (E.2.2.2.2.2 ((i + 2).toNatClampNeg))) 4593671619917905920))))), .inl (E.2.2.2.2.2 ((i + 1).toNatClampNeg)), .inr (.inr (.inr (.inr (0, 0))))], (I, J, G, fm_P pa pb))) rfl ?_
  refine fm_gg O rfl (hs.1 _) ?_
  refine fm_gr O 4 (C' := (335, [(5, .inl i), (0, .inr (.inr (.inr (.inr (50, 0))))), (1, .inr (.inr (.inr (.inr (0, 0))))), (2, .inr (.inr (.inr (.inr (24, 0))))), (3, .inr (.inr (.inr (.inr (48, 0))))), (4, .inr (.inr (.inr (.inr (49, 0)))))], [.inl (i + 4), .inr (.inr (.inr (.inr (50, 0)))), .inr (.inr (.inr (.inl ((FP.dmul (FP.i2d (E.2.2.2.2.2 ((i + 3).toNatClampNeg))) 4593671619917905920))))), .inr (.inr (.inr (.inl ((FP.dmul (FP.i2d (E.2.2.2.2.2 ((i + 2).toNatClampNeg))) 4593671619917905920))))), .inl (E.2.2.2.2.2 ((i + 1).toNatClampNeg)), .inr (.inr (.inr (.inr (0, 0))))], (I, J, G, fm_P pa pb))) rfl ?_
  refine fm_gx O rfl g4 ?_
  refine fm_gr O 2 (C' := (340, [(5, .inl i), (0, .inr (.inr (.inr (.inr (50, 0))))), (1, .inr (.inr (.inr (.inr (0, 0))))), (2, .inr (.inr (.inr (.inr (24, 0))))), (3, .inr (.inr (.inr (.inr (48, 0))))), (4, .inr (.inr (.inr (.inr (49, 0)))))], [.inr (.inr (.inr (.inl (4593671619917905920)))), .inr (.inr (.inr (.inl (FP.i2d (E.2.2.2.2.2 ((i + 4).toNatClampNeg)))))), .inr (.inr (.inr (.inl ((FP.dmul (FP.i2d (E.2.2.2.2.2 ((i + 3).toNatClampNeg))) 4593671619917905920))))), .inr (.inr (.inr (.inl ((FP.dmul (FP.i2d (E.2.2.2.2.2 ((i + 2).toNatClampNeg))) 4593671619917905920))))), .inl (E.2.2.2.2.2 ((i + 1).toNatClampNeg)), .inr (.inr (.inr (.inr (0, 0))))], (I, J, G, fm_P pa pb))) rfl ?_
  refine fm_gg O rfl (hs.1 _) ?_
  refine fm_gr O 4 (C' := (346, [(5, .inl i), (0, .inr (.inr (.inr (.inr (50, 0))))), (1, .inr (.inr (.inr (.inr (0, 0))))), (2, .inr (.inr (.inr (.inr (24, 0))))), (3, .inr (.inr (.inr (.inr (48, 0))))), (4, .inr (.inr (.inr (.inr (49, 0)))))], [.inl (i + 5), .inr (.inr (.inr (.inr (50, 0)))), .inr (.inr (.inr (.inl ((FP.dmul (FP.i2d (E.2.2.2.2.2 ((i + 4).toNatClampNeg))) 4593671619917905920))))), .inr (.inr (.inr (.inl ((FP.dmul (FP.i2d (E.2.2.2.2.2 ((i + 3).toNatClampNeg))) 4593671619917905920))))), .inr (.inr (.inr (.inl ((FP.dmul (FP.i2d (E.2.2.2.2.2 ((i + 2).toNatClampNeg))) 4593671619917905920))))), .inl (E.2.2.2.2.2 ((i + 1).toNatClampNeg)), .inr (.inr (.inr (.inr (0, 0))))], (I, J, G, fm_P pa pb))) rfl ?_
  refine fm_gx O rfl g5 ?_
  refine fm_gr O 1 (C' := (349, [(5, .inl i), (0, .inr (.inr (.inr (.inr (50, 0))))), (1, .inr (.inr (.inr (.inr (0, 0))))), (2, .inr (.inr (.inr (.inr (24, 0))))), (3, .inr (.inr (.inr (.inr (48, 0))))), (4, .inr (.inr (.inr (.inr (49, 0)))))], [.inr (.inr (.inr (.inr (49, 0)))), .inl (E.2.2.2.2.2 ((i + 5).toNatClampNeg)), .inr (.inr (.inr (.inl ((FP.dmul (FP.i2d (E.2.2.2.2.2 ((i + 4).toNatClampNeg))) 4593671619917905920))))), .inr (.inr (.inr (.inl ((FP.dmul (FP.i2d (E.2.2.2.2.2 ((i + 3).toNatClampNeg))) 4593671619917905920))))), .inr (.inr (.inr (.inl ((FP.dmul (FP.i2d (E.2.2.2.2.2 ((i + 2).toNatClampNeg))) 4593671619917905920))))), .inl (E.2.2.2.2.2 ((i + 1).toNatClampNeg)), .inr (.inr (.inr (.inr (0, 0))))], (I, J, G, fm_P pa pb))) rfl ?_
  generalize hF : fmF_run_f I J G pa pb (E.2.2.2.2.2 ((i + 1).toNatClampNeg)) (FP.dmul (FP.i2d (E.2.2.2.2.2 ((i + 2).toNatClampNeg))) 4593671619917905920) (FP.dmul (FP.i2d (E.2.2.2.2.2 ((i + 3).toNatClampNeg))) 4593671619917905920) (FP.dmul (FP.i2d (E.2.2.2.2.2 ((i + 4).toNatClampNeg))) 4593671619917905920) (E.2.2.2.2.2 ((i + 5).toNatClampNeg)) = F at K q2 q3 ⊢
  by_cases h0 : F.1 = 0
  · rw [if_pos h0] at K
    obtain ⟨p1, p2, p3, p4⟩ := q3 (fm_u F.2.2.2.2.1 49 0 0 F.2.1) (by rw [if_pos h0])
    have K2 := fmD_run_c (E := E) hl (d := 15) (by omega) F.2.2.1 F.2.2.2.1 (fm_u F.2.2.2.2.1 49 0 0 F.2.1) pa F.2.2.2.2.2 (E.2.2.2.2.2 ((i + 1).toNatClampNeg)) (FP.dmul (FP.i2d (E.2.2.2.2.2 ((i + 2).toNatClampNeg))) 4593671619917905920) (FP.dmul (FP.i2d (E.2.2.2.2.2 ((i + 3).toNatClampNeg))) 4593671619917905920) (FP.dmul (FP.i2d (E.2.2.2.2.2 ((i + 4).toNatClampNeg))) 4593671619917905920) (E.2.2.2.2.2 ((i + 5).toNatClampNeg)) p1
    generalize hD : fmD_run_f F.2.2.1 F.2.2.2.1 (fm_u F.2.2.2.2.1 49 0 0 F.2.1) pa F.2.2.2.2.2 (E.2.2.2.2.2 ((i + 1).toNatClampNeg)) (FP.dmul (FP.i2d (E.2.2.2.2.2 ((i + 2).toNatClampNeg))) 4593671619917905920) (FP.dmul (FP.i2d (E.2.2.2.2.2 ((i + 3).toNatClampNeg))) 4593671619917905920) (FP.dmul (FP.i2d (E.2.2.2.2.2 ((i + 4).toNatClampNeg))) 4593671619917905920) (E.2.2.2.2.2 ((i + 5).toNatClampNeg)) = F2 at K2 p2 p3 p4
    refine fm_cW (as := [.inr (.inr (.inr (.inr (0, 0)))), .inl (E.2.2.2.2.2 ((i + 1).toNatClampNeg)), .inr (.inr (.inr (.inl ((FP.dmul (FP.i2d (E.2.2.2.2.2 ((i + 2).toNatClampNeg))) 4593671619917905920))))), .inr (.inr (.inr (.inl ((FP.dmul (FP.i2d (E.2.2.2.2.2 ((i + 3).toNatClampNeg))) 4593671619917905920))))), .inr (.inr (.inr (.inl ((FP.dmul (FP.i2d (E.2.2.2.2.2 ((i + 4).toNatClampNeg))) 4593671619917905920))))), .inl (E.2.2.2.2.2 ((i + 5).toNatClampNeg)), .inr (.inr (.inr (.inr (49, 0))))]) (rest := []) O fmL_run_w rfl fk_8_65 fn_L_run (by decide) K ?_
    refine fm_gr O 2 (C' := (355, [(6, .inl (Int32.ofNat F.1)), (5, .inl i), (0, .inr (.inr (.inr (.inr (50, 0))))), (1, .inr (.inr (.inr (.inr (0, 0))))), (2, .inr (.inr (.inr (.inr (24, 0))))), (3, .inr (.inr (.inr (.inr (48, 0))))), (4, .inr (.inr (.inr (.inr (49, 0)))))], [.inr (.inr (.inr (.inr (24, 0))))], (F.2.2.1, F.2.2.2.1, (fm_u F.2.2.2.2.1 49 0 0 F.2.1), fm_P pa F.2.2.2.2.2))) rfl ?_
    refine fm_gr O 4 (C' := (360, [(6, .inl (Int32.ofNat F.1)), (5, .inl i), (0, .inr (.inr (.inr (.inr (50, 0))))), (1, .inr (.inr (.inr (.inr (0, 0))))), (2, .inr (.inr (.inr (.inr (24, 0))))), (3, .inr (.inr (.inr (.inr (48, 0))))), (4, .inr (.inr (.inr (.inr (49, 0)))))], [.inl (i + 1), .inr (.inr (.inr (.inr (50, 0)))), .inr (.inr (.inr (.inr (24, 0))))], (F.2.2.1, F.2.2.2.1, (fm_u F.2.2.2.2.1 49 0 0 F.2.1), fm_P pa F.2.2.2.2.2))) rfl ?_
    refine fm_gx O rfl g1 ?_
    refine fm_gr O 4 (C' := (366, [(6, .inl (Int32.ofNat F.1)), (5, .inl i), (0, .inr (.inr (.inr (.inr (50, 0))))), (1, .inr (.inr (.inr (.inr (0, 0))))), (2, .inr (.inr (.inr (.inr (24, 0))))), (3, .inr (.inr (.inr (.inr (48, 0))))), (4, .inr (.inr (.inr (.inr (49, 0)))))], [.inl (i + 2), .inr (.inr (.inr (.inr (50, 0)))), .inl (E.2.2.2.2.2 ((i + 1).toNatClampNeg)), .inr (.inr (.inr (.inr (24, 0))))], (F.2.2.1, F.2.2.2.1, (fm_u F.2.2.2.2.1 49 0 0 F.2.1), fm_P pa F.2.2.2.2.2))) rfl ?_
    refine fm_gx O rfl g2 ?_
    refine fm_gr O 2 (C' := (371, [(6, .inl (Int32.ofNat F.1)), (5, .inl i), (0, .inr (.inr (.inr (.inr (50, 0))))), (1, .inr (.inr (.inr (.inr (0, 0))))), (2, .inr (.inr (.inr (.inr (24, 0))))), (3, .inr (.inr (.inr (.inr (48, 0))))), (4, .inr (.inr (.inr (.inr (49, 0)))))], [.inr (.inr (.inr (.inl (4593671619917905920)))), .inr (.inr (.inr (.inl (FP.i2d (E.2.2.2.2.2 ((i + 2).toNatClampNeg)))))), .inl (E.2.2.2.2.2 ((i + 1).toNatClampNeg)), .inr (.inr (.inr (.inr (24, 0))))], (F.2.2.1, F.2.2.2.1, (fm_u F.2.2.2.2.1 49 0 0 F.2.1), fm_P pa F.2.2.2.2.2))) rfl ?_
    refine fm_gg O rfl (hs.1 _) ?_
    refine fm_gr O 4 (C' := (377, [(6, .inl (Int32.ofNat F.1)), (5, .inl i), (0, .inr (.inr (.inr (.inr (50, 0))))), (1, .inr (.inr (.inr (.inr (0, 0))))), (2, .inr (.inr (.inr (.inr (24, 0))))), (3, .inr (.inr (.inr (.inr (48, 0))))), (4, .inr (.inr (.inr (.inr (49, 0)))))], [.inl (i + 3), .inr (.inr (.inr (.inr (50, 0)))), .inr (.inr (.inr (.inl ((FP.dmul (FP.i2d (E.2.2.2.2.2 ((i + 2).toNatClampNeg))) 4593671619917905920))))), .inl (E.2.2.2.2.2 ((i + 1).toNatClampNeg)), .inr (.inr (.inr (.inr (24, 0))))], (F.2.2.1, F.2.2.2.1, (fm_u F.2.2.2.2.1 49 0 0 F.2.1), fm_P pa F.2.2.2.2.2))) rfl ?_
    refine fm_gx O rfl g3 ?_
    refine fm_gr O 2 (C' := (382, [(6, .inl (Int32.ofNat F.1)), (5, .inl i), (0, .inr (.inr (.inr (.inr (50, 0))))), (1, .inr (.inr (.inr (.inr (0, 0))))), (2, .inr (.inr (.inr (.inr (24, 0))))), (3, .inr (.inr (.inr (.inr (48, 0))))), (4, .inr (.inr (.inr (.inr (49, 0)))))], [.inr (.inr (.inr (.inl (4593671619917905920)))), .inr (.inr (.inr (.inl (FP.i2d (E.2.2.2.2.2 ((i + 3).toNatClampNeg)))))), .inr (.inr (.inr (.inl ((FP.dmul (FP.i2d (E.2.2.2.2.2 ((i + 2).toNatClampNeg))) 4593671619917905920))))), .inl (E.2.2.2.2.2 ((i + 1).toNatClampNeg)), .inr (.inr (.inr (.inr (24, 0))))], (F.2.2.1, F.2.2.2.1, (fm_u F.2.2.2.2.1 49 0 0 F.2.1), fm_P pa F.2.2.2.2.2))) rfl ?_
    refine fm_gg O rfl (hs.1 _) ?_
    refine fm_gr O 4 (C' := (388, [(6, .inl (Int32.ofNat F.1)), (5, .inl i), (0, .inr (.inr (.inr (.inr (50, 0))))), (1, .inr (.inr (.inr (.inr (0, 0))))), (2, .inr (.inr (.inr (.inr (24, 0))))), (3, .inr (.inr (.inr (.inr (48, 0))))), (4, .inr (.inr (.inr (.inr (49, 0)))))], [.inl (i + 4), .inr (.inr (.inr (.inr (50, 0)))), .inr (.inr (.inr (.inl ((FP.dmul (FP.i2d (E.2.2.2.2.2 ((i + 3).toNatClampNeg))) 4593671619917905920))))), .inr (.inr (.inr (.inl ((FP.dmul (FP.i2d (E.2.2.2.2.2 ((i + 2).toNatClampNeg))) 4593671619917905920))))), .inl (E.2.2.2.2.2 ((i + 1).toNatClampNeg)), .inr (.inr (.inr (.inr (24, 0))))], (F.2.2.1, F.2.2.2.1, (fm_u F.2.2.2.2.1 49 0 0 F.2.1), fm_P pa F.2.2.2.2.2))) rfl ?_
    refine fm_gx O rfl g4 ?_
    refine fm_gr O 2 (C' := (393, [(6, .inl (Int32.ofNat F.1)), (5, .inl i), (0, .inr (.inr (.inr (.inr (50, 0))))), (1, .inr (.inr (.inr (.inr (0, 0))))), (2, .inr (.inr (.inr (.inr (24, 0))))), (3, .inr (.inr (.inr (.inr (48, 0))))), (4, .inr (.inr (.inr (.inr (49, 0)))))], [.inr (.inr (.inr (.inl (4593671619917905920)))), .inr (.inr (.inr (.inl (FP.i2d (E.2.2.2.2.2 ((i + 4).toNatClampNeg)))))), .inr (.inr (.inr (.inl ((FP.dmul (FP.i2d (E.2.2.2.2.2 ((i + 3).toNatClampNeg))) 4593671619917905920))))), .inr (.inr (.inr (.inl ((FP.dmul (FP.i2d (E.2.2.2.2.2 ((i + 2).toNatClampNeg))) 4593671619917905920))))), .inl (E.2.2.2.2.2 ((i + 1).toNatClampNeg)), .inr (.inr (.inr (.inr (24, 0))))], (F.2.2.1, F.2.2.2.1, (fm_u F.2.2.2.2.1 49 0 0 F.2.1), fm_P pa F.2.2.2.2.2))) rfl ?_
    refine fm_gg O rfl (hs.1 _) ?_
    refine fm_gr O 4 (C' := (399, [(6, .inl (Int32.ofNat F.1)), (5, .inl i), (0, .inr (.inr (.inr (.inr (50, 0))))), (1, .inr (.inr (.inr (.inr (0, 0))))), (2, .inr (.inr (.inr (.inr (24, 0))))), (3, .inr (.inr (.inr (.inr (48, 0))))), (4, .inr (.inr (.inr (.inr (49, 0)))))], [.inl (i + 5), .inr (.inr (.inr (.inr (50, 0)))), .inr (.inr (.inr (.inl ((FP.dmul (FP.i2d (E.2.2.2.2.2 ((i + 4).toNatClampNeg))) 4593671619917905920))))), .inr (.inr (.inr (.inl ((FP.dmul (FP.i2d (E.2.2.2.2.2 ((i + 3).toNatClampNeg))) 4593671619917905920))))), .inr (.inr (.inr (.inl ((FP.dmul (FP.i2d (E.2.2.2.2.2 ((i + 2).toNatClampNeg))) 4593671619917905920))))), .inl (E.2.2.2.2.2 ((i + 1).toNatClampNeg)), .inr (.inr (.inr (.inr (24, 0))))], (F.2.2.1, F.2.2.2.1, (fm_u F.2.2.2.2.1 49 0 0 F.2.1), fm_P pa F.2.2.2.2.2))) rfl ?_
    refine fm_gx O rfl g5 ?_
    refine fm_cV0 (as := [.inl (E.2.2.2.2.2 ((i + 1).toNatClampNeg)), .inr (.inr (.inr (.inl ((FP.dmul (FP.i2d (E.2.2.2.2.2 ((i + 2).toNatClampNeg))) 4593671619917905920))))), .inr (.inr (.inr (.inl ((FP.dmul (FP.i2d (E.2.2.2.2.2 ((i + 3).toNatClampNeg))) 4593671619917905920))))), .inr (.inr (.inr (.inl ((FP.dmul (FP.i2d (E.2.2.2.2.2 ((i + 4).toNatClampNeg))) 4593671619917905920))))), .inl (E.2.2.2.2.2 ((i + 5).toNatClampNeg))]) (rest := []) O fmD_run_o rfl fk_8_68 rfl (by decide) fn_D_run (by decide) K2 ?_
    refine fm_gr O 2 (C' := (406, [(7, .inr (.inr (.inr (.inl (F2.1))))), (6, .inl (Int32.ofNat F.1)), (5, .inl i), (0, .inr (.inr (.inr (.inr (50, 0))))), (1, .inr (.inr (.inr (.inr (0, 0))))), (2, .inr (.inr (.inr (.inr (24, 0))))), (3, .inr (.inr (.inr (.inr (48, 0))))), (4, .inr (.inr (.inr (.inr (49, 0)))))], [.inr (.inr (.inr (.inr (24, 0))))], (F2.2.1, F2.2.2.1, F2.2.2.2, fm_P pa F.2.2.2.2.2))) rfl ?_
    refine fm_cV0 (as := []) (rest := []) O fmD_thrown_o rfl fk_8_47 rfl (by decide) fn_D_thrown (by decide) (fmD_thrown_c (E := E) hl (d := 15) (by omega) F2.2.1 F2.2.2.1 F2.2.2.2 pa F.2.2.2.2.2) ?_
    refine fm_gr O 1 (C' := (411, [(7, .inr (.inr (.inr (.inl (F2.1))))), (6, .inl (Int32.ofNat F.1)), (5, .inl i), (0, .inr (.inr (.inr (.inr (50, 0))))), (1, .inr (.inr (.inr (.inr (0, 0))))), (2, .inr (.inr (.inr (.inr (24, 0))))), (3, .inr (.inr (.inr (.inr (48, 0))))), (4, .inr (.inr (.inr (.inr (49, 0)))))], [.inl (Int32.ofNat F.1), .inl (fmD_thrown_f F2.2.1)], (F2.2.1, F2.2.2.1, F2.2.2.2, fm_P pa F.2.2.2.2.2))) rfl ?_
    refine fm_gb O rfl (fun _ => ?_) (fun h => absurd p2 h)
    refine fm_gr O 1 (C' := (418, [(7, .inr (.inr (.inr (.inl (F2.1))))), (6, .inl (Int32.ofNat F.1)), (5, .inl i), (0, .inr (.inr (.inr (.inr (50, 0))))), (1, .inr (.inr (.inr (.inr (0, 0))))), (2, .inr (.inr (.inr (.inr (24, 0))))), (3, .inr (.inr (.inr (.inr (48, 0))))), (4, .inr (.inr (.inr (.inr (49, 0)))))], [.inl (Int32.ofNat F.1)], (F2.2.1, F2.2.2.1, F2.2.2.2, fm_P pa F.2.2.2.2.2))) rfl ?_
    refine fm_gb O rfl (fun _ => ?_) (fun h => absurd (show Int32.ofNat F.1 = 0 by rw [h0]; rfl) h)
    refine fm_gr O 2 (C' := (424, [(7, .inr (.inr (.inr (.inl (F2.1))))), (6, .inl (Int32.ofNat F.1)), (5, .inl i), (0, .inr (.inr (.inr (.inr (50, 0))))), (1, .inr (.inr (.inr (.inr (0, 0))))), (2, .inr (.inr (.inr (.inr (24, 0))))), (3, .inr (.inr (.inr (.inr (48, 0))))), (4, .inr (.inr (.inr (.inr (49, 0)))))], [.inl 0, .inr (.inr (.inr (.inr (49, 0))))], (F2.2.1, F2.2.2.1, F2.2.2.2, fm_P pa F.2.2.2.2.2))) rfl ?_
    refine fm_gg O rfl fm_0in1 ?_
    refine fm_gr O 2 (C' := (428, [(7, .inr (.inr (.inr (.inl (F2.1))))), (6, .inl (Int32.ofNat F.1)), (5, .inl i), (0, .inr (.inr (.inr (.inr (50, 0))))), (1, .inr (.inr (.inr (.inr (0, 0))))), (2, .inr (.inr (.inr (.inr (24, 0))))), (3, .inr (.inr (.inr (.inr (48, 0))))), (4, .inr (.inr (.inr (.inr (49, 0)))))], [.inl (Op.cmpValue (FP.dcmp (F2.2.2.2 49 0 0) F2.1) .l)], (F2.2.1, F2.2.2.1, F2.2.2.2, fm_P pa F.2.2.2.2.2))) rfl ?_
    refine fm_gb O rfl (fun _ => ?_) (fun hne => ?_)
    · refine fm_gr O 1 (C' := (558, [(7, .inr (.inr (.inr (.inl (F2.1))))), (6, .inl (Int32.ofNat F.1)), (5, .inl i), (0, .inr (.inr (.inr (.inr (50, 0))))), (1, .inr (.inr (.inr (.inr (0, 0))))), (2, .inr (.inr (.inr (.inr (24, 0))))), (3, .inr (.inr (.inr (.inr (48, 0))))), (4, .inr (.inr (.inr (.inr (49, 0)))))], [], (F2.2.1, F2.2.2.1, F2.2.2.2, fm_P pa F.2.2.2.2.2))) rfl ?_
      refine fm_gL O [2, 3, 4, 5, 6, 7] (l' := [(5, .inl i), (0, .inr (.inr (.inr (.inr (50, 0))))), (1, .inr (.inr (.inr (.inr (0, 0))))), (2, .inr (.inr (.inr (.inr (24, 0))))), (3, .inr (.inr (.inr (.inr (48, 0))))), (4, .inr (.inr (.inr (.inr (49, 0)))))]) rfl ?_
      refine fm_gr O 2 (C' := (28, [(5, .inl (i + Int32.ofInt 6)), (0, .inr (.inr (.inr (.inr (50, 0))))), (1, .inr (.inr (.inr (.inr (0, 0))))), (2, .inr (.inr (.inr (.inr (24, 0))))), (3, .inr (.inr (.inr (.inr (48, 0))))), (4, .inr (.inr (.inr (.inr (49, 0)))))], [], (F2.2.1, F2.2.2.1, F2.2.2.2, fm_P pa F.2.2.2.2.2))) rfl ?_
      exact IH _ _ _ _ _ p4
    · refine fm_gr O 2 (C' := (434, [(7, .inr (.inr (.inr (.inl (F2.1))))), (6, .inl (Int32.ofNat F.1)), (5, .inl i), (0, .inr (.inr (.inr (.inr (50, 0))))), (1, .inr (.inr (.inr (.inr (0, 0))))), (2, .inr (.inr (.inr (.inr (24, 0))))), (3, .inr (.inr (.inr (.inr (48, 0))))), (4, .inr (.inr (.inr (.inr (49, 0)))))], [.inl 0, .inr (.inr (.inr (.inr (49, 0))))], (F2.2.1, F2.2.2.1, F2.2.2.2, fm_P pa F.2.2.2.2.2))) rfl ?_
      refine fm_gg O rfl fm_0in1 ?_
      refine fm_gr O 2 (C' := (438, [(7, .inr (.inr (.inr (.inl (F2.1))))), (6, .inl (Int32.ofNat F.1)), (5, .inl i), (0, .inr (.inr (.inr (.inr (50, 0))))), (1, .inr (.inr (.inr (.inr (0, 0))))), (2, .inr (.inr (.inr (.inr (24, 0))))), (3, .inr (.inr (.inr (.inr (48, 0))))), (4, .inr (.inr (.inr (.inr (49, 0)))))], [.inl 0, .inr (.inr (.inr (.inr (49, 0)))), .inr (.inr (.inr (.inl (F2.2.2.2 49 0 0))))], (F2.2.1, F2.2.2.1, F2.2.2.2, fm_P pa F.2.2.2.2.2))) rfl ?_
      refine fm_gg O rfl fm_0in1 ?_
      refine fm_gr O 1 (C' := (440, [(7, .inr (.inr (.inr (.inl (F2.1))))), (6, .inl (Int32.ofNat F.1)), (5, .inl i), (0, .inr (.inr (.inr (.inr (50, 0))))), (1, .inr (.inr (.inr (.inr (0, 0))))), (2, .inr (.inr (.inr (.inr (24, 0))))), (3, .inr (.inr (.inr (.inr (48, 0))))), (4, .inr (.inr (.inr (.inr (49, 0)))))], [.inl (Op.cmpValue (FP.dcmp (F2.2.2.2 49 0 0) (F2.2.2.2 49 0 0)) .l)], (F2.2.1, F2.2.2.1, F2.2.2.2, fm_P pa F.2.2.2.2.2))) rfl ?_
      obtain ⟨e1, e2⟩ := (p3 h0).resolve_left hne
      refine fm_gb O rfl (fun h => absurd h e1) (fun _ => ?_)
      refine fm_gr O 3 (C' := (448, [(7, .inr (.inr (.inr (.inl (F2.1))))), (6, .inl (Int32.ofNat F.1)), (5, .inl i), (0, .inr (.inr (.inr (.inr (50, 0))))), (1, .inr (.inr (.inr (.inr (0, 0))))), (2, .inr (.inr (.inr (.inr (24, 0))))), (3, .inr (.inr (.inr (.inr (48, 0))))), (4, .inr (.inr (.inr (.inr (49, 0)))))], [.inl (Op.cmpValue (FP.dcmp F2.1 F2.1) .l)], (F2.2.1, F2.2.2.1, F2.2.2.2, fm_P pa F.2.2.2.2.2))) rfl ?_
      refine fm_gb O rfl (fun h => absurd h e2) (fun _ => ?_)
      refine fm_gr O 1 (C' := (558, [(7, .inr (.inr (.inr (.inl (F2.1))))), (6, .inl (Int32.ofNat F.1)), (5, .inl i), (0, .inr (.inr (.inr (.inr (50, 0))))), (1, .inr (.inr (.inr (.inr (0, 0))))), (2, .inr (.inr (.inr (.inr (24, 0))))), (3, .inr (.inr (.inr (.inr (48, 0))))), (4, .inr (.inr (.inr (.inr (49, 0)))))], [], (F2.2.1, F2.2.2.1, F2.2.2.2, fm_P pa F.2.2.2.2.2))) rfl ?_
      refine fm_gL O [2, 3, 4, 5, 6, 7] (l' := [(5, .inl i), (0, .inr (.inr (.inr (.inr (50, 0))))), (1, .inr (.inr (.inr (.inr (0, 0))))), (2, .inr (.inr (.inr (.inr (24, 0))))), (3, .inr (.inr (.inr (.inr (48, 0))))), (4, .inr (.inr (.inr (.inr (49, 0)))))]) rfl ?_
      refine fm_gr O 2 (C' := (28, [(5, .inl (i + Int32.ofInt 6)), (0, .inr (.inr (.inr (.inr (50, 0))))), (1, .inr (.inr (.inr (.inr (0, 0))))), (2, .inr (.inr (.inr (.inr (24, 0))))), (3, .inr (.inr (.inr (.inr (48, 0))))), (4, .inr (.inr (.inr (.inr (49, 0)))))], [], (F2.2.1, F2.2.2.1, F2.2.2.2, fm_P pa F.2.2.2.2.2))) rfl ?_
      exact IH _ _ _ _ _ p4
  · rw [if_neg h0] at K
    obtain ⟨p1, p2, p3, p4⟩ := q3 F.2.2.2.2.1 (by rw [if_neg h0])
    have K2 := fmD_run_c (E := E) hl (d := 15) (by omega) F.2.2.1 F.2.2.2.1 F.2.2.2.2.1 pa F.2.2.2.2.2 (E.2.2.2.2.2 ((i + 1).toNatClampNeg)) (FP.dmul (FP.i2d (E.2.2.2.2.2 ((i + 2).toNatClampNeg))) 4593671619917905920) (FP.dmul (FP.i2d (E.2.2.2.2.2 ((i + 3).toNatClampNeg))) 4593671619917905920) (FP.dmul (FP.i2d (E.2.2.2.2.2 ((i + 4).toNatClampNeg))) 4593671619917905920) (E.2.2.2.2.2 ((i + 5).toNatClampNeg)) p1
    generalize hD : fmD_run_f F.2.2.1 F.2.2.2.1 F.2.2.2.2.1 pa F.2.2.2.2.2 (E.2.2.2.2.2 ((i + 1).toNatClampNeg)) (FP.dmul (FP.i2d (E.2.2.2.2.2 ((i + 2).toNatClampNeg))) 4593671619917905920) (FP.dmul (FP.i2d (E.2.2.2.2.2 ((i + 3).toNatClampNeg))) 4593671619917905920) (FP.dmul (FP.i2d (E.2.2.2.2.2 ((i + 4).toNatClampNeg))) 4593671619917905920) (E.2.2.2.2.2 ((i + 5).toNatClampNeg)) = F2 at K2 p2 p3 p4
    refine fm_cW (as := [.inr (.inr (.inr (.inr (0, 0)))), .inl (E.2.2.2.2.2 ((i + 1).toNatClampNeg)), .inr (.inr (.inr (.inl ((FP.dmul (FP.i2d (E.2.2.2.2.2 ((i + 2).toNatClampNeg))) 4593671619917905920))))), .inr (.inr (.inr (.inl ((FP.dmul (FP.i2d (E.2.2.2.2.2 ((i + 3).toNatClampNeg))) 4593671619917905920))))), .inr (.inr (.inr (.inl ((FP.dmul (FP.i2d (E.2.2.2.2.2 ((i + 4).toNatClampNeg))) 4593671619917905920))))), .inl (E.2.2.2.2.2 ((i + 5).toNatClampNeg)), .inr (.inr (.inr (.inr (49, 0))))]) (rest := []) O fmL_run_w rfl fk_8_65 fn_L_run (by decide) K ?_
    refine fm_gr O 2 (C' := (355, [(6, .inl (Int32.ofNat F.1)), (5, .inl i), (0, .inr (.inr (.inr (.inr (50, 0))))), (1, .inr (.inr (.inr (.inr (0, 0))))), (2, .inr (.inr (.inr (.inr (24, 0))))), (3, .inr (.inr (.inr (.inr (48, 0))))), (4, .inr (.inr (.inr (.inr (49, 0)))))], [.inr (.inr (.inr (.inr (24, 0))))], (F.2.2.1, F.2.2.2.1, F.2.2.2.2.1, fm_P pa F.2.2.2.2.2))) rfl ?_
    refine fm_gr O 4 (C' := (360, [(6, .inl (Int32.ofNat F.1)), (5, .inl i), (0, .inr (.inr (.inr (.inr (50, 0))))), (1, .inr (.inr (.inr (.inr (0, 0))))), (2, .inr (.inr (.inr (.inr (24, 0))))), (3, .inr (.inr (.inr (.inr (48, 0))))), (4, .inr (.inr (.inr (.inr (49, 0)))))], [.inl (i + 1), .inr (.inr (.inr (.inr (50, 0)))), .inr (.inr (.inr (.inr (24, 0))))], (F.2.2.1, F.2.2.2.1, F.2.2.2.2.1, fm_P pa F.2.2.2.2.2))) rfl ?_
    refine fm_gx O rfl g1 ?_
    refine fm_gr O 4 (C' := (366, [(6, .inl (Int32.ofNat F.1)), (5, .inl i), (0, .inr (.inr (.inr (.inr (50, 0))))), (1, .inr (.inr (.inr (.inr (0, 0))))), (2, .inr (.inr (.inr (.inr (24, 0))))), (3, .inr (.inr (.inr (.inr (48, 0))))), (4, .inr (.inr (.inr (.inr (49, 0)))))], [.inl (i + 2), .inr (.inr (.inr (.inr (50, 0)))), .inl (E.2.2.2.2.2 ((i + 1).toNatClampNeg)), .inr (.inr (.inr (.inr (24, 0))))], (F.2.2.1, F.2.2.2.1, F.2.2.2.2.1, fm_P pa F.2.2.2.2.2))) rfl ?_
    refine fm_gx O rfl g2 ?_
    refine fm_gr O 2 (C' := (371, [(6, .inl (Int32.ofNat F.1)), (5, .inl i), (0, .inr (.inr (.inr (.inr (50, 0))))), (1, .inr (.inr (.inr (.inr (0, 0))))), (2, .inr (.inr (.inr (.inr (24, 0))))), (3, .inr (.inr (.inr (.inr (48, 0))))), (4, .inr (.inr (.inr (.inr (49, 0)))))], [.inr (.inr (.inr (.inl (4593671619917905920)))), .inr (.inr (.inr (.inl (FP.i2d (E.2.2.2.2.2 ((i + 2).toNatClampNeg)))))), .inl (E.2.2.2.2.2 ((i + 1).toNatClampNeg)), .inr (.inr (.inr (.inr (24, 0))))], (F.2.2.1, F.2.2.2.1, F.2.2.2.2.1, fm_P pa F.2.2.2.2.2))) rfl ?_
    refine fm_gg O rfl (hs.1 _) ?_
    refine fm_gr O 4 (C' := (377, [(6, .inl (Int32.ofNat F.1)), (5, .inl i), (0, .inr (.inr (.inr (.inr (50, 0))))), (1, .inr (.inr (.inr (.inr (0, 0))))), (2, .inr (.inr (.inr (.inr (24, 0))))), (3, .inr (.inr (.inr (.inr (48, 0))))), (4, .inr (.inr (.inr (.inr (49, 0)))))], [.inl (i + 3), .inr (.inr (.inr (.inr (50, 0)))), .inr (.inr (.inr (.inl ((FP.dmul (FP.i2d (E.2.2.2.2.2 ((i + 2).toNatClampNeg))) 4593671619917905920))))), .inl (E.2.2.2.2.2 ((i + 1).toNatClampNeg)), .inr (.inr (.inr (.inr (24, 0))))], (F.2.2.1, F.2.2.2.1, F.2.2.2.2.1, fm_P pa F.2.2.2.2.2))) rfl ?_
    refine fm_gx O rfl g3 ?_
    refine fm_gr O 2 (C' := (382, [(6, .inl (Int32.ofNat F.1)), (5, .inl i), (0, .inr (.inr (.inr (.inr (50, 0))))), (1, .inr (.inr (.inr (.inr (0, 0))))), (2, .inr (.inr (.inr (.inr (24, 0))))), (3, .inr (.inr (.inr (.inr (48, 0))))), (4, .inr (.inr (.inr (.inr (49, 0)))))], [.inr (.inr (.inr (.inl (4593671619917905920)))), .inr (.inr (.inr (.inl (FP.i2d (E.2.2.2.2.2 ((i + 3).toNatClampNeg)))))), .inr (.inr (.inr (.inl ((FP.dmul (FP.i2d (E.2.2.2.2.2 ((i + 2).toNatClampNeg))) 4593671619917905920))))), .inl (E.2.2.2.2.2 ((i + 1).toNatClampNeg)), .inr (.inr (.inr (.inr (24, 0))))], (F.2.2.1, F.2.2.2.1, F.2.2.2.2.1, fm_P pa F.2.2.2.2.2))) rfl ?_
    refine fm_gg O rfl (hs.1 _) ?_
    refine fm_gr O 4 (C' := (388, [(6, .inl (Int32.ofNat F.1)), (5, .inl i), (0, .inr (.inr (.inr (.inr (50, 0))))), (1, .inr (.inr (.inr (.inr (0, 0))))), (2, .inr (.inr (.inr (.inr (24, 0))))), (3, .inr (.inr (.inr (.inr (48, 0))))), (4, .inr (.inr (.inr (.inr (49, 0)))))], [.inl (i + 4), .inr (.inr (.inr (.inr (50, 0)))), .inr (.inr (.inr (.inl ((FP.dmul (FP.i2d (E.2.2.2.2.2 ((i + 3).toNatClampNeg))) 4593671619917905920))))), .inr (.inr (.inr (.inl ((FP.dmul (FP.i2d (E.2.2.2.2.2 ((i + 2).toNatClampNeg))) 4593671619917905920))))), .inl (E.2.2.2.2.2 ((i + 1).toNatClampNeg)), .inr (.inr (.inr (.inr (24, 0))))], (F.2.2.1, F.2.2.2.1, F.2.2.2.2.1, fm_P pa F.2.2.2.2.2))) rfl ?_
    refine fm_gx O rfl g4 ?_
    refine fm_gr O 2 (C' := (393, [(6, .inl (Int32.ofNat F.1)), (5, .inl i), (0, .inr (.inr (.inr (.inr (50, 0))))), (1, .inr (.inr (.inr (.inr (0, 0))))), (2, .inr (.inr (.inr (.inr (24, 0))))), (3, .inr (.inr (.inr (.inr (48, 0))))), (4, .inr (.inr (.inr (.inr (49, 0)))))], [.inr (.inr (.inr (.inl (4593671619917905920)))), .inr (.inr (.inr (.inl (FP.i2d (E.2.2.2.2.2 ((i + 4).toNatClampNeg)))))), .inr (.inr (.inr (.inl ((FP.dmul (FP.i2d (E.2.2.2.2.2 ((i + 3).toNatClampNeg))) 4593671619917905920))))), .inr (.inr (.inr (.inl ((FP.dmul (FP.i2d (E.2.2.2.2.2 ((i + 2).toNatClampNeg))) 4593671619917905920))))), .inl (E.2.2.2.2.2 ((i + 1).toNatClampNeg)), .inr (.inr (.inr (.inr (24, 0))))], (F.2.2.1, F.2.2.2.1, F.2.2.2.2.1, fm_P pa F.2.2.2.2.2))) rfl ?_
    refine fm_gg O rfl (hs.1 _) ?_
    refine fm_gr O 4 (C' := (399, [(6, .inl (Int32.ofNat F.1)), (5, .inl i), (0, .inr (.inr (.inr (.inr (50, 0))))), (1, .inr (.inr (.inr (.inr (0, 0))))), (2, .inr (.inr (.inr (.inr (24, 0))))), (3, .inr (.inr (.inr (.inr (48, 0))))), (4, .inr (.inr (.inr (.inr (49, 0)))))], [.inl (i + 5), .inr (.inr (.inr (.inr (50, 0)))), .inr (.inr (.inr (.inl ((FP.dmul (FP.i2d (E.2.2.2.2.2 ((i + 4).toNatClampNeg))) 4593671619917905920))))), .inr (.inr (.inr (.inl ((FP.dmul (FP.i2d (E.2.2.2.2.2 ((i + 3).toNatClampNeg))) 4593671619917905920))))), .inr (.inr (.inr (.inl ((FP.dmul (FP.i2d (E.2.2.2.2.2 ((i + 2).toNatClampNeg))) 4593671619917905920))))), .inl (E.2.2.2.2.2 ((i + 1).toNatClampNeg)), .inr (.inr (.inr (.inr (24, 0))))], (F.2.2.1, F.2.2.2.1, F.2.2.2.2.1, fm_P pa F.2.2.2.2.2))) rfl ?_
    refine fm_gx O rfl g5 ?_
    refine fm_cV0 (as := [.inl (E.2.2.2.2.2 ((i + 1).toNatClampNeg)), .inr (.inr (.inr (.inl ((FP.dmul (FP.i2d (E.2.2.2.2.2 ((i + 2).toNatClampNeg))) 4593671619917905920))))), .inr (.inr (.inr (.inl ((FP.dmul (FP.i2d (E.2.2.2.2.2 ((i + 3).toNatClampNeg))) 4593671619917905920))))), .inr (.inr (.inr (.inl ((FP.dmul (FP.i2d (E.2.2.2.2.2 ((i + 4).toNatClampNeg))) 4593671619917905920))))), .inl (E.2.2.2.2.2 ((i + 5).toNatClampNeg))]) (rest := []) O fmD_run_o rfl fk_8_68 rfl (by decide) fn_D_run (by decide) K2 ?_
    refine fm_gr O 2 (C' := (406, [(7, .inr (.inr (.inr (.inl (F2.1))))), (6, .inl (Int32.ofNat F.1)), (5, .inl i), (0, .inr (.inr (.inr (.inr (50, 0))))), (1, .inr (.inr (.inr (.inr (0, 0))))), (2, .inr (.inr (.inr (.inr (24, 0))))), (3, .inr (.inr (.inr (.inr (48, 0))))), (4, .inr (.inr (.inr (.inr (49, 0)))))], [.inr (.inr (.inr (.inr (24, 0))))], (F2.2.1, F2.2.2.1, F2.2.2.2, fm_P pa F.2.2.2.2.2))) rfl ?_
    refine fm_cV0 (as := []) (rest := []) O fmD_thrown_o rfl fk_8_47 rfl (by decide) fn_D_thrown (by decide) (fmD_thrown_c (E := E) hl (d := 15) (by omega) F2.2.1 F2.2.2.1 F2.2.2.2 pa F.2.2.2.2.2) ?_
    refine fm_gr O 1 (C' := (411, [(7, .inr (.inr (.inr (.inl (F2.1))))), (6, .inl (Int32.ofNat F.1)), (5, .inl i), (0, .inr (.inr (.inr (.inr (50, 0))))), (1, .inr (.inr (.inr (.inr (0, 0))))), (2, .inr (.inr (.inr (.inr (24, 0))))), (3, .inr (.inr (.inr (.inr (48, 0))))), (4, .inr (.inr (.inr (.inr (49, 0)))))], [.inl (Int32.ofNat F.1), .inl (fmD_thrown_f F2.2.1)], (F2.2.1, F2.2.2.1, F2.2.2.2, fm_P pa F.2.2.2.2.2))) rfl ?_
    refine fm_gb O rfl (fun _ => ?_) (fun h => absurd p2 h)
    refine fm_gr O 1 (C' := (418, [(7, .inr (.inr (.inr (.inl (F2.1))))), (6, .inl (Int32.ofNat F.1)), (5, .inl i), (0, .inr (.inr (.inr (.inr (50, 0))))), (1, .inr (.inr (.inr (.inr (0, 0))))), (2, .inr (.inr (.inr (.inr (24, 0))))), (3, .inr (.inr (.inr (.inr (48, 0))))), (4, .inr (.inr (.inr (.inr (49, 0)))))], [.inl (Int32.ofNat F.1)], (F2.2.1, F2.2.2.1, F2.2.2.2, fm_P pa F.2.2.2.2.2))) rfl ?_
    refine fm_gb O rfl (fun h => absurd h (fm_on _ (by omega) h0)) (fun _ => ?_)
    refine fm_gr O 1 (C' := (558, [(7, .inr (.inr (.inr (.inl (F2.1))))), (6, .inl (Int32.ofNat F.1)), (5, .inl i), (0, .inr (.inr (.inr (.inr (50, 0))))), (1, .inr (.inr (.inr (.inr (0, 0))))), (2, .inr (.inr (.inr (.inr (24, 0))))), (3, .inr (.inr (.inr (.inr (48, 0))))), (4, .inr (.inr (.inr (.inr (49, 0)))))], [], (F2.2.1, F2.2.2.1, F2.2.2.2, fm_P pa F.2.2.2.2.2))) rfl ?_
    refine fm_gL O [2, 3, 4, 5, 6, 7] (l' := [(5, .inl i), (0, .inr (.inr (.inr (.inr (50, 0))))), (1, .inr (.inr (.inr (.inr (0, 0))))), (2, .inr (.inr (.inr (.inr (24, 0))))), (3, .inr (.inr (.inr (.inr (48, 0))))), (4, .inr (.inr (.inr (.inr (49, 0)))))]) rfl ?_
    refine fm_gr O 2 (C' := (28, [(5, .inl (i + Int32.ofInt 6)), (0, .inr (.inr (.inr (.inr (50, 0))))), (1, .inr (.inr (.inr (.inr (0, 0))))), (2, .inr (.inr (.inr (.inr (24, 0))))), (3, .inr (.inr (.inr (.inr (48, 0))))), (4, .inr (.inr (.inr (.inr (49, 0)))))], [], (F2.2.1, F2.2.2.1, F2.2.2.2, fm_P pa F.2.2.2.2.2))) rfl ?_
    exact IH _ _ _ _ _ p4

set_option maxRecDepth 100000 in
set_option maxHeartbeats 4000000 in
theorem fm_loop {E : fm_Ev} (hl : E.1.stackTraces = false) {Inv : fm_In} (hs : fm_sd Inv) (hL : E.2.2.2.2.1 ≤ 3072) : ∀ (m k : Nat) (i : Int32) (I : fm_MI) (J : fm_MJ) (G : fm_MG) (pa pb : Nat × Nat), E.2.2.2.2.1 < k + 6 * (m + 1) → k ≤ 4000 → i = Int32.ofNat k → Inv I J G pa pb → fm_Go E 16 fmL_law m (28, [(5, .inl i), (0, .inr (.inr (.inr (.inr (50, 0))))), (1, .inr (.inr (.inr (.inr (0, 0))))), (2, .inr (.inr (.inr (.inr (24, 0))))), (3, .inr (.inr (.inr (.inr (48, 0))))), (4, .inr (.inr (.inr (.inr (49, 0)))))], [], (I, J, G, fm_P pa pb)) (fm_Zt E)
  | m, k, i, I, J, G, pa, pb, hm, hk4, hi, hI => by
    have O := fmL_law_o
    refine fm_gr O 2 (C' := (31, [(5, .inl i), (0, .inr (.inr (.inr (.inr (50, 0))))), (1, .inr (.inr (.inr (.inr (0, 0))))), (2, .inr (.inr (.inr (.inr (24, 0))))), (3, .inr (.inr (.inr (.inr (48, 0))))), (4, .inr (.inr (.inr (.inr (49, 0)))))], [.inr (.inr (.inr (.inr (50, 0)))), .inl i], (I, J, G, fm_P pa pb))) rfl ?_
    refine fm_gx O rfl trivial ?_
    refine fm_gr O 2 (C' := (35, [(5, .inl i), (0, .inr (.inr (.inr (.inr (50, 0))))), (1, .inr (.inr (.inr (.inr (0, 0))))), (2, .inr (.inr (.inr (.inr (24, 0))))), (3, .inr (.inr (.inr (.inr (48, 0))))), (4, .inr (.inr (.inr (.inr (49, 0)))))], [.inl (nI E.2.2.2.2.1 - 6), .inl i], (I, J, G, fm_P pa pb))) rfl ?_
    refine fm_gb O rfl (fun _ => ?_) (fun h => ?_)
    · refine fm_gr O 1 (C' := (565, [(5, .inl i), (0, .inr (.inr (.inr (.inr (50, 0))))), (1, .inr (.inr (.inr (.inr (0, 0))))), (2, .inr (.inr (.inr (.inr (24, 0))))), (3, .inr (.inr (.inr (.inr (48, 0))))), (4, .inr (.inr (.inr (.inr (49, 0)))))], [.inl 1], (I, J, G, fm_P pa pb))) rfl ?_
      exact fm_gwt (Nat.zero_le m) (fm_gZt (fm_gRe O rfl (Or.inr rfl) rfl rfl))
    · have hk : k + 6 ≤ E.2.2.2.2.1 := by
        have h' : ¬ (nI E.2.2.2.2.1 - 6 < i) := h
        rw [hi, fm_lp hL hk4] at h'
        omega
      cases m with
      | zero => omega
      | succ m =>
      have IH : ∀ (I : fm_MI) (J : fm_MJ) (G : fm_MG) (pa pb : Nat × Nat), Inv I J G pa pb → fm_Go E 16 fmL_law m (28, [(5, .inl (i + Int32.ofInt 6)), (0, .inr (.inr (.inr (.inr (50, 0))))), (1, .inr (.inr (.inr (.inr (0, 0))))), (2, .inr (.inr (.inr (.inr (24, 0))))), (3, .inr (.inr (.inr (.inr (48, 0))))), (4, .inr (.inr (.inr (.inr (49, 0)))))], [], (I, J, G, fm_P pa pb)) (fm_Zt E) := by
        intro I J G pa pb hI'
        refine fm_loop hl hs hL m (k + 6) _ I J G pa pb (by omega) (by omega) ?_ hI'
        rw [hi, Int32.ofNat_add]
        rfl
      refine fm_gr O 2 (C' := (41, [(5, .inl i), (0, .inr (.inr (.inr (.inr (50, 0))))), (1, .inr (.inr (.inr (.inr (0, 0))))), (2, .inr (.inr (.inr (.inr (24, 0))))), (3, .inr (.inr (.inr (.inr (48, 0))))), (4, .inr (.inr (.inr (.inr (49, 0)))))], [.inl i, .inr (.inr (.inr (.inr (50, 0))))], (I, J, G, fm_P pa pb))) rfl ?_
      refine fm_gx O rfl (show vp_in i E.2.2.2.2.1 by
        have := fm_ix hL hk (j := 0) (by omega)
        rw [show Int32.ofNat k + Int32.ofNat 0 = Int32.ofNat k by simp, ← hi] at this
        exact this) ?_
      obtain ⟨n, hn8, hn⟩ := fm_and7 (E.2.2.2.2.2 i.toNatClampNeg)
      refine fm_gr O 2 (C' := (45, [(5, .inl i), (0, .inr (.inr (.inr (.inr (50, 0))))), (1, .inr (.inr (.inr (.inr (0, 0))))), (2, .inr (.inr (.inr (.inr (24, 0))))), (3, .inr (.inr (.inr (.inr (48, 0))))), (4, .inr (.inr (.inr (.inr (49, 0)))))], [.inl (E.2.2.2.2.2 i.toNatClampNeg &&& 7)], (I, J, G, fm_P pa pb))) rfl ?_
      rw [hn]
      have hc : n = 0 ∨ n = 1 ∨ n = 2 ∨ n = 3 ∨ n = 4 ∨ n = 5 ∨ n = 6 ∨ n = 7 := by omega
      rcases hc with rfl | rfl | rfl | rfl | rfl | rfl | rfl | rfl
      · refine fm_gs O 0 rfl (show (Int32.ofNat 0).toInt = 0 by decide) ?_
        exact fm_op0 hl hs hL hk hi hI IH
      · refine fm_gs O 1 rfl (show (Int32.ofNat 1).toInt = 1 by decide) ?_
        exact fm_op1 hl hs hL hk hi hI IH
      · refine fm_gs O 2 rfl (show (Int32.ofNat 2).toInt = 2 by decide) ?_
        exact fm_op2 hl hs hL hk hi hI IH
      · refine fm_gs O 3 rfl (show (Int32.ofNat 3).toInt = 3 by decide) ?_
        exact fm_op3 hl hs hL hk hi hI IH
      · refine fm_gs O 4 rfl (show (Int32.ofNat 4).toInt = 4 by decide) ?_
        exact fm_op4 hl hs hL hk hi hI IH
      · refine fm_gs O 5 rfl (show (Int32.ofNat 5).toInt = 5 by decide) ?_
        exact fm_op5 hl hs hL hk hi hI IH
      · refine fm_gs O 6 rfl (show (Int32.ofNat 6).toInt = 6 by decide) ?_
        exact fm_op6 hl hs hL hk hi hI IH
      · refine fm_gt O rfl (Or.inr (by decide)) ?_
        refine fm_gwt (Nat.le_succ m) ?_
        refine fm_gr O 2 (C' := (28, [(5, .inl (i + Int32.ofInt 6)), (0, .inr (.inr (.inr (.inr (50, 0))))), (1, .inr (.inr (.inr (.inr (0, 0))))), (2, .inr (.inr (.inr (.inr (24, 0))))), (3, .inr (.inr (.inr (.inr (48, 0))))), (4, .inr (.inr (.inr (.inr (49, 0)))))], [], (I, J, G, fm_P pa pb))) rfl ?_
        exact IH _ _ _ _ _ hI

