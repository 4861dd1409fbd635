def fk_pw (t : Int32) (x : UInt64) (u : fk_cell) : Prop := (t = 0 → u.1 = (FP.d2i x).toInt64) ∧ (t = 1 → u.1 = FP.d2l x) ∧ (t = 2 → u.2 = FP.f2d (FP.d2f x)) ∧ (t = 3 → u.2 = x)
theorem fk_pwV (HF : fk_FL) {t : Int32} {x : UInt64} {u v : fk_cell} (hx : fk_fi x) (hu : fk_pw t x u) (hv : fk_pw t x v) : fk_V t u v := by
  obtain ⟨f1, f2, f3, f4⟩ := HF.2.2.2.2.1 x hx
  refine ⟨fun q => ?_, fun q => ?_, fun q => ?_, fun q => ?_⟩
  · rw [hu.1 q, hv.1 q]; exact ⟨rfl, by simp⟩
  · rw [hu.2.1 q, hv.2.1 q]
  · rw [hu.2.2.1 q, hv.2.2.1 q]
    exact ⟨rfl, ⟨f2, f4⟩, by rw [f3]; exact f1, by rw [f3]⟩
  · rw [hu.2.2.2 q, hv.2.2.2 q]
    exact ⟨rfl, hx⟩
theorem fk_psC (HF : fk_FL) {I : fm_MI} (J : fm_MJ) (G : fm_MG) {g i np : Nat} {t : Int32} {x : UInt64} (hg : g < 4) (h22 : I 22 0 0 = Int32.ofNat g) (h1 : I 2 g 1 = Int32.ofNat np) (hnp : np ≤ 3) (hi : i < 3) (hty : i < np → I 3 g i = t ∧ fk_wb t 4 = true) (hx : fk_fi x) :
    fmM_pass_p I (Int32.ofNat i) x ∧ ∃ J1 G1, fmM_pass_f I J G (Int32.ofNat i) x = (J1, G1) ∧ (∀ n, n ≠ i → fk_cC J1 G1 n = fk_cC J G n) ∧ (i < np → fk_pw t x (fk_cC J1 G1 i)) ∧ (¬ i < np → fk_cC J1 G1 i = fk_cC J G i) ∧ (∀ k a s, k ≠ 20 → J1 k a s = J k a s) ∧ ∀ k a s, k ≠ 21 → G1 k a s = G k a s := by
  have z0 : (0 : Int32).toNatClampNeg = 0 := rfl
  have cg : (Int32.ofNat g).toNatClampNeg = g := fk_cl (by omega)
  have vg : vp_in (Int32.ofNat g) 4 := (fk_in (by omega)).mpr hg
  have ci : (Int32.ofNat i).toNatClampNeg = i := fk_cl (by omega)
  have vi : vp_in (Int32.ofNat i) 6 := (fk_in (by omega)).mpr (by omega)
  have vi2 : vp_in (Int32.ofNat i) 212 := (fk_in (by omega)).mpr (by omega)
  have v08 : vp_in 0 8 := by unfold vp_in; decide
  obtain ⟨f1, f2, f3, f4⟩ := HF.2.2.2.2.1 x hx
  have hcm := (HF.1 x hx).1
  by_cases hn : i < np
  · have hlt : Int32.ofNat i < Int32.ofNat np := (fk_lt (by omega) (by omega)).mpr hn
    obtain ⟨ht, hw⟩ := hty hn
    rcases fk_wb4c hw with rfl | rfl | rfl | rfl
    · refine ⟨?_, fm_u J 20 0 i (FP.d2i x).toInt64, G, ?_, fun n h => ?_, fun _ => ⟨fun _ => ?_, fun q => absurd q (by decide), fun q => absurd q (by decide), fun q => absurd q (by decide)⟩, fun q => absurd hn q, fun k a s h => fk_ne _ _ h, fun _ _ _ _ => rfl⟩
      · simp (config := {decide := true}) only [fmM_pass_p, z0, h22, cg, vg, h1, hlt, ci, vi, vi2, v08, ht, fm_letE, fm_letT, ↓reduceIte, false_implies, true_implies, true_and, and_true, implies_true, not_true, not_false, and_self, not_true_eq_false, not_false_eq_true]
      · simp (config := {decide := true}) only [fmM_pass_f, z0, h22, cg, h1, hlt, ci, ht, fm_letE, fm_letT, ↓reduceIte, false_implies, true_implies, true_and, and_true, implies_true, not_true, not_false, and_self, not_true_eq_false, not_false_eq_true]
      · rw [fk_cCJ, fk_up_ne h]
      · rw [fk_cCJ, fk_up_eq]
    · refine ⟨?_, fm_u J 20 0 i (FP.d2l x), G, ?_, fun n h => ?_, fun _ => ⟨fun q => absurd q (by decide), fun _ => ?_, fun q => absurd q (by decide), fun q => absurd q (by decide)⟩, fun q => absurd hn q, fun k a s h => fk_ne _ _ h, fun _ _ _ _ => rfl⟩
      · simp (config := {decide := true}) only [fmM_pass_p, z0, h22, cg, vg, h1, hlt, ci, vi, vi2, v08, ht, fm_letE, fm_letT, ↓reduceIte, false_implies, true_implies, true_and, and_true, implies_true, not_true, not_false, and_self, not_true_eq_false, not_false_eq_true]
      · simp (config := {decide := true}) only [fmM_pass_f, z0, h22, cg, h1, hlt, ci, ht, fm_letE, fm_letT, ↓reduceIte, false_implies, true_implies, true_and, and_true, implies_true, not_true, not_false, and_self, not_true_eq_false, not_false_eq_true]
      · rw [fk_cCJ, fk_up_ne h]
      · rw [fk_cCJ, fk_up_eq]
    · refine ⟨?_, J, fm_u G 21 0 i (FP.f2d (FP.d2f x)), ?_, fun n h => ?_, fun _ => ⟨fun q => absurd q (by decide), fun q => absurd q (by decide), fun _ => ?_, fun q => absurd q (by decide)⟩, fun q => absurd hn q, fun _ _ _ _ => rfl, fun k a s h => fk_ne _ _ h⟩
      · simp (config := {decide := true}) only [fmM_pass_p, fmA_asFloat_p, z0, h22, cg, vg, h1, hlt, ci, vi, vi2, v08, ht, hcm, f1, f2, fm_letE, fm_letT, ↓reduceIte, false_implies, true_implies, true_and, and_true, implies_true, not_true, not_false, and_self, not_true_eq_false, not_false_eq_true]
      · simp (config := {decide := true}) only [fmM_pass_f, fmA_asFloat_f, z0, h22, cg, h1, hlt, ci, ht, hcm, fm_letE, fm_letT, ↓reduceIte, false_implies, true_implies, true_and, and_true, implies_true, not_true, not_false, and_self, not_true_eq_false, not_false_eq_true]
      · rw [fk_cCG, fk_up_ne h]
      · rw [fk_cCG, fk_up_eq]
    · refine ⟨?_, J, fm_u G 21 0 i x, ?_, fun n h => ?_, fun _ => ⟨fun q => absurd q (by decide), fun q => absurd q (by decide), fun q => absurd q (by decide), fun _ => ?_⟩, fun q => absurd hn q, fun _ _ _ _ => rfl, fun k a s h => fk_ne _ _ h⟩
      · simp (config := {decide := true}) only [fmM_pass_p, z0, h22, cg, vg, h1, hlt, ci, vi, vi2, v08, ht, fm_letE, fm_letT, ↓reduceIte, false_implies, true_implies, true_and, and_true, implies_true, not_true, not_false, and_self, not_true_eq_false, not_false_eq_true]
      · simp (config := {decide := true}) only [fmM_pass_f, z0, h22, cg, h1, hlt, ci, ht, fm_letE, fm_letT, ↓reduceIte, false_implies, true_implies, true_and, and_true, implies_true, not_true, not_false, and_self, not_true_eq_false, not_false_eq_true]
      · rw [fk_cCG, fk_up_ne h]
      · rw [fk_cCG, fk_up_eq]
  · have hlt : ¬ Int32.ofNat i < Int32.ofNat np := fun w => hn ((fk_lt (by omega) (by omega)).mp w)
    refine ⟨?_, J, G, ?_, fun _ _ => rfl, fun q => absurd q hn, fun _ => rfl, fun _ _ _ _ => rfl, fun _ _ _ _ => rfl⟩
    · simp (config := {decide := true}) only [fmM_pass_p, z0, h22, cg, vg, h1, hlt, v08, fm_letE, fm_letT, ↓reduceIte, false_implies, true_implies, true_and, and_true, implies_true, not_true, not_false, and_self, not_true_eq_false, not_false_eq_true]
    · simp (config := {decide := true}) only [fmM_pass_f, z0, h22, cg, h1, hlt, fm_letE, fm_letT, ↓reduceIte, false_implies, true_implies, true_and, and_true, implies_true, not_true, not_false, and_self, not_true_eq_false, not_false_eq_true]
theorem fk_psD (HF : fk_FL) {I : fm_MI} (J : fm_MJ) (G : fm_MG) {D : fk_D} {g i top : Nat} {x : UInt64} (hg : g < 4) (ht : D.1 g = true) (hdk : fk_dk D) (hmD : fk_mD I D) (hi : i < 3) (h28 : I 24 0 28 = Int32.ofNat top) (h260 : top < 200) (hx : fk_fi x) :
    fmD_pass_p I (Int32.ofNat g) (Int32.ofNat i) x ∧ ∃ I1 J1 G1, fmD_pass_f I J G (Int32.ofNat g) (Int32.ofNat i) x = (I1, J1, G1) ∧ (∀ k a s, (k = 24 → s ≠ 28) → I1 k a s = I k a s) ∧ I1 24 0 28 = Int32.ofNat (if i < D.2.1 g then top + 1 else top) ∧ (∀ n, n ≠ top → fk_cD J1 G1 n = fk_cD J G n) ∧ (i < D.2.1 g → fk_pw (D.2.2.2.2.1 g i) x (fk_cD J1 G1 top)) ∧ fk_cG J1 G1 = fk_cG J G ∧ (∀ k a s, k ≠ 40 → J1 k a s = J k a s) ∧ ∀ k a s, k ≠ 41 → G1 k a s = G k a s := by
  obtain ⟨m1, m2, m3, m4, m5, m6, m7⟩ := hdk g hg ht
  obtain ⟨d1, d2, d3, d4, d5, d6⟩ := (hmD g hg).2 ht
  have cg : (Int32.ofNat g).toNatClampNeg = g := fk_cl (by omega)
  have vg : vp_in (Int32.ofNat g) 4 := (fk_in (by omega)).mpr hg
  obtain ⟨f1, f2, f3, f4⟩ := HF.2.2.2.2.1 x hx
  by_cases hn : i < D.2.1 g
  · have hlt : Int32.ofNat i < Int32.ofNat (D.2.1 g) := (fk_lt (by omega) (by omega)).mpr hn
    have e6 : Int32.ofNat g * 6 + Int32.ofNat i = Int32.ofNat (g * 6 + i) := by
      rw [show (6 : Int32) = Int32.ofNat 6 from rfl, ← Int32.ofNat_mul, fk_add]
    have c6 : (Int32.ofNat (g * 6 + i)).toNatClampNeg = g * 6 + i := fk_cl (by omega)
    have v6 : vp_in (Int32.ofNat (g * 6 + i)) 24 := (fk_in (by omega)).mpr (by omega)
    have ety := d5 i (by omega)
    have hP : ∀ v : Int64, fmD_push_p I (D.2.2.2.2.1 g i) x ∧ fmD_push_f I J G (D.2.2.2.2.1 g i) v x = (fm_u I 24 0 28 (Int32.ofNat (top + 1)), fm_u J 40 0 top (if D.2.2.2.2.1 g i = 0 then v.toInt32.toInt64 else v), fm_u G 41 0 top (if D.2.2.2.2.1 g i = 2 then FP.f2d (FP.d2f x) else x)) := fun v => fk_pushD J G (D.2.2.2.2.1 g i) v x h28 (by omega) (fun _ => ⟨f1, f2⟩)
    obtain ⟨v, hv, hp, hf⟩ : ∃ v : Int64, fk_pw (D.2.2.2.2.1 g i) x (if D.2.2.2.2.1 g i = 0 then v.toInt32.toInt64 else v, if D.2.2.2.2.1 g i = 2 then FP.f2d (FP.d2f x) else x) ∧ fmD_pass_p I (Int32.ofNat g) (Int32.ofNat i) x ∧ fmD_pass_f I J G (Int32.ofNat g) (Int32.ofNat i) x = fmD_push_f I J G (D.2.2.2.2.1 g i) v x := by
      by_cases h0 : D.2.2.2.2.1 g i = 0
      · refine ⟨(FP.d2i x).toInt64, ⟨fun _ => ?_, fun q => absurd (h0.symm.trans q) (by decide), fun q => absurd (h0.symm.trans q) (by decide), fun q => absurd (h0.symm.trans q) (by decide)⟩, ?_, ?_⟩
        · rw [if_pos h0]; simp
        · have hp0 := (hP 0).1
          rw [h0] at ety hp0
          simp (config := {decide := true}) only [fmD_pass_p, cg, vg, d1, hlt, e6, c6, v6, ety, hp0, fm_letE, fm_letT, ↓reduceIte, false_implies, true_implies, true_and, and_true, implies_true, not_true, not_false, and_self, not_true_eq_false, not_false_eq_true]
        · rw [h0] at ety
          simp (config := {decide := true}) only [fmD_pass_f, cg, d1, hlt, e6, c6, ety, h0, fm_letE, fm_letT, ↓reduceIte, false_implies, true_implies, true_and, and_true, implies_true, not_true, not_false, and_self, not_true_eq_false, not_false_eq_true]
      · refine ⟨FP.d2l x, ⟨fun q => absurd q h0, fun _ => ?_, fun q => ?_, fun q => ?_⟩, ?_, ?_⟩
        · rw [if_neg h0]
        · rw [if_pos q]
        · rw [if_neg (show ¬ D.2.2.2.2.1 g i = 2 by rw [q]; decide)]
        · have hp0 := (hP 0).1
          simp only [fmD_pass_p, cg, vg, d1, hlt, e6, c6, v6, ety, h0, hp0, fm_letE, fm_letT, ↓reduceIte, false_implies, true_implies, true_and, and_true, implies_true, not_true, not_false, and_self, not_true_eq_false, not_false_eq_true]
        · simp only [fmD_pass_f, cg, d1, hlt, e6, c6, ety, h0, fm_letE, fm_letT, ↓reduceIte, false_implies, true_implies, true_and, and_true, implies_true, not_true, not_false, and_self, not_true_eq_false, not_false_eq_true]
    refine ⟨hp, fm_u I 24 0 28 (Int32.ofNat (top + 1)), fm_u J 40 0 top (if D.2.2.2.2.1 g i = 0 then v.toInt32.toInt64 else v), fm_u G 41 0 top (if D.2.2.2.2.1 g i = 2 then FP.f2d (FP.d2f x) else x), by rw [hf]; exact (hP v).2, fun k a s h => fk_ne3 _ _ h, by rw [if_pos hn]; exact fk_u_eq _, fun n h => by rw [fk_cDB, fk_up_ne h], fun _ => by rw [fk_cDB, fk_up_eq]; exact hv, fk_cGD _ _ _ _ _, fun k a s h => fk_ne _ _ h, fun k a s h => fk_ne _ _ h⟩
  · have hlt : ¬ Int32.ofNat i < Int32.ofNat (D.2.1 g) := fun w => hn ((fk_lt (by omega) (by omega)).mp w)
    refine ⟨?_, I, J, G, ?_, fun _ _ _ _ => rfl, by rw [if_neg hn]; exact h28, fun _ _ => rfl, fun q => absurd q hn, rfl, fun _ _ _ _ => rfl, fun _ _ _ _ => rfl⟩
    · simp (config := {decide := true}) only [fmD_pass_p, cg, vg, d1, hlt, fm_letE, fm_letT, ↓reduceIte, false_implies, true_implies, true_and, and_true, implies_true, not_true, not_false, and_self, not_true_eq_false, not_false_eq_true]
    · simp (config := {decide := true}) only [fmD_pass_f, cg, d1, hlt, fm_letE, fm_letT, ↓reduceIte, false_implies, true_implies, true_and, and_true, implies_true, not_true, not_false, and_self, not_true_eq_false, not_false_eq_true]
theorem fk_KK {D : fk_D} {I : fm_MI} (h : ∀ g, g < 4 → fk_fl I D g) : ∃ K : Nat → fk_K, ∀ g, g < 4 → D.1 g = true → fk_gd D g (K g) ∧ I 6 g 0 = Int32.ofNat (K g).2.2.1 ∧ (K g).2.2.1 ≤ 40 ∧ fk_rws I g (K g).2.2.1 (K g).2.2.2 := by
  have : ∀ g : Nat, ∃ K : fk_K, g < 4 → D.1 g = true → fk_gd D g K ∧ I 6 g 0 = Int32.ofNat K.2.2.1 ∧ K.2.2.1 ≤ 40 ∧ fk_rws I g K.2.2.1 K.2.2.2 := fun g => by
    by_cases hg : g < 4 ∧ D.1 g = true
    · obtain ⟨K, k1, k2, k3, k4⟩ := h g hg.1 hg.2
      exact ⟨K, fun _ _ => ⟨fk_gd_of k1, k2, k3, k4⟩⟩
    · exact ⟨fk_k0 D g, fun a b => absurd ⟨a, b⟩ hg⟩
  exact ⟨fun g => Classical.choose (this g), fun g => Classical.choose_spec (this g)⟩
theorem fk_infu (fu : Int32) : (fu < 1 ∧ fmD_in_f fu 1 300 = 0) ∨ (¬ fu < 1 ∧ ¬ fu ≤ 300 ∧ fmD_in_f fu 1 300 = 0) ∨ (¬ fu < 1 ∧ fu ≤ 300 ∧ fmD_in_f fu 1 300 = 1 ∧ ∃ fl, 1 ≤ fl ∧ fl ≤ 300 ∧ fu = Int32.ofNat fl) := by
  unfold fmD_in_f
  by_cases h1 : fu < 1
  · rw [if_pos h1]; exact Or.inl ⟨h1, rfl⟩
  · rw [if_neg h1]
    by_cases h2 : 300 < fu
    · rw [if_pos h2]
      refine Or.inr (Or.inl ⟨h1, fun q => ?_, rfl⟩)
      rw [Int32.lt_iff_toInt_lt] at h2
      rw [Int32.le_iff_toInt_le] at q
      omega
    · rw [if_neg h2]
      have h3 : fu ≤ 300 := by
        rw [Int32.lt_iff_toInt_lt] at h2
        rw [Int32.le_iff_toInt_le]
        omega
      have e1 : (1 : Int32).toInt = 1 := rfl
      have e300 : (300 : Int32).toInt = 300 := rfl
      have a1 := h1
      have a3 := h3
      rw [Int32.lt_iff_toInt_lt, e1] at a1
      rw [Int32.le_iff_toInt_le, e300] at a3
      have h5 : fu = Int32.ofNat fu.toNatClampNeg := fk_ofc (show vp_in fu (fu.toNatClampNeg + 1) from fun q => q.elim (fun w => by
        rw [Int32.lt_iff_toInt_lt] at w
        have e0 : (0 : Int32).toInt = 0 := rfl
        omega) (fun w => by omega))
      refine Or.inr (Or.inr ⟨h1, h3, rfl, fu.toNatClampNeg, ?_, ?_, h5⟩)
      · unfold Int32.toNatClampNeg; omega
      · unfold Int32.toNatClampNeg; omega
set_option maxHeartbeats 4000000 in
set_option maxRecDepth 100000 in
theorem fk_opU (HF : fk_FL) {D : fk_D} {I : fm_MI} {J : fm_MJ} {G : fm_MG} (pa pb : Nat × Nat) (h : fk_iv D I J G) (f : Int32) (x y z : UInt64) (fu : Int32) (hx : fk_fi x) (hy : fk_fi y) (hz : fk_fi z) {R : Nat × UInt64 × fm_MI × fm_MJ × fm_MG × (Nat × Nat)} (hR : R = fmF_run_f I J G pa pb f x y z fu) : fmF_run_p I J G pa f x y z fu ∧ R.1 ≤ 4 ∧
    ∀ G1, (G1 = (if R.1 = 0 then fm_u R.2.2.2.2.1 49 0 0 R.2.1 else R.2.2.2.2.1)) → fmD_run_p R.2.2.1 R.2.2.2.1 G1 pa R.2.2.2.2.2 f x y z fu ∧ fmD_thrown_f (fmD_run_f R.2.2.1 R.2.2.2.1 G1 pa R.2.2.2.2.2 f x y z fu).2.1 = Int32.ofNat R.1 ∧ (R.1 = 0 → fm_eqd ((fmD_run_f R.2.2.1 R.2.2.2.1 G1 pa R.2.2.2.2.2 f x y z fu).2.2.2 49 0 0) (fmD_run_f R.2.2.1 R.2.2.2.1 G1 pa R.2.2.2.2.2 f x y z fu).1) ∧ ∃ D', fk_iv D' (fmD_run_f R.2.2.1 R.2.2.2.1 G1 pa R.2.2.2.2.2 f x y z fu).2.1 (fmD_run_f R.2.2.1 R.2.2.2.1 G1 pa R.2.2.2.2.2 f x y z fu).2.2.1 (fmD_run_f R.2.2.1 R.2.2.2.1 G1 pa R.2.2.2.2.2 f x y z fu).2.2.2 := by
  obtain ⟨t1, t2, t3, t4⟩ := fk_there h.1 h.2.1 f
  have bad : ∀ n : Nat, n = 1 ∨ n = 2 → ∀ Ix, (∀ E, fk_iv E I J G → fk_iv E Ix J G) → Ix 24 0 18 = Int32.ofNat n → (fmF_run_p I J G pa f x y z fu ∧ fmF_run_f I J G pa pb f x y z fu = (n, FP.dconst0, I, J, G, pb)) → (fmD_run_p I J G pa pb f x y z fu ∧ fmD_run_f I J G pa pb f x y z fu = (FP.dconst0, Ix, J, G)) → fmF_run_p I J G pa f x y z fu ∧ R.1 ≤ 4 ∧
    ∀ G1, (G1 = (if R.1 = 0 then fm_u R.2.2.2.2.1 49 0 0 R.2.1 else R.2.2.2.2.1)) → fmD_run_p R.2.2.1 R.2.2.2.1 G1 pa R.2.2.2.2.2 f x y z fu ∧ fmD_thrown_f (fmD_run_f R.2.2.1 R.2.2.2.1 G1 pa R.2.2.2.2.2 f x y z fu).2.1 = Int32.ofNat R.1 ∧ (R.1 = 0 → fm_eqd ((fmD_run_f R.2.2.1 R.2.2.2.1 G1 pa R.2.2.2.2.2 f x y z fu).2.2.2 49 0 0) (fmD_run_f R.2.2.1 R.2.2.2.1 G1 pa R.2.2.2.2.2 f x y z fu).1) ∧ ∃ D', fk_iv D' (fmD_run_f R.2.2.1 R.2.2.2.1 G1 pa R.2.2.2.2.2 f x y z fu).2.1 (fmD_run_f R.2.2.1 R.2.2.2.1 G1 pa R.2.2.2.2.2 f x y z fu).2.2.1 (fmD_run_f R.2.2.1 R.2.2.2.1 G1 pa R.2.2.2.2.2 f x y z fu).2.2.2 := fun n hn Ix hIx h18 e1 e2 => by
    rw [e1.2] at hR
    rw [hR]
    refine ⟨e1.1, by dsimp only; omega, fun G1 hG1 => ?_⟩
    rw [if_neg (by dsimp only; omega)] at hG1
    dsimp only at hG1
    subst hG1
    dsimp only
    rw [e2.2]
    exact ⟨e2.1, h18, fun q => absurd q (by omega), D, hIx D h⟩
  rcases t4 with t4 | ⟨t4, g, hg, rfl, ht⟩
  · exact bad 1 (Or.inl rfl) (fm_u I 24 0 18 1) (fun E => fk_iv_18 1) (fk_u_eq _) (by simp (config := {decide := true}) only [fmF_run_p, fmF_run_f, t1, t4, fm_letE, fm_letT, ↓reduceIte, false_implies, true_implies, true_and, and_true, implies_true, not_true, not_false, and_self, not_true_eq_false, not_false_eq_true]) (by simp (config := {decide := true}) only [fmD_run_p, fmD_run_f, t2, t3, t4, fk_bad0, fm_letE, fm_letT, ↓reduceIte, false_implies, true_implies, true_and, and_true, implies_true, not_true, not_false, and_self, not_true_eq_false, not_false_eq_true])
  rcases fk_infu fu with ⟨w1, w2⟩ | ⟨w1, w2, w3⟩ | ⟨w1, w2, w3, fl, hf1, hf2, rfl⟩
  · exact bad 1 (Or.inl rfl) (fm_u I 24 0 18 1) (fun E => fk_iv_18 1) (fk_u_eq _) (by simp (config := {decide := true}) only [fmF_run_p, fmF_run_f, t1, t4, w1, fm_letE, fm_letT, ↓reduceIte, false_implies, true_implies, true_and, and_true, implies_true, not_true, not_false, and_self, not_true_eq_false, not_false_eq_true]) (by simp (config := {decide := true}) only [fmD_run_p, fmD_run_f, t2, t3, t4, w2, fk_bad0, fm_letE, fm_letT, ↓reduceIte, false_implies, true_implies, true_and, and_true, implies_true, not_true, not_false, and_self, not_true_eq_false, not_false_eq_true])
  · exact bad 1 (Or.inl rfl) (fm_u I 24 0 18 1) (fun E => fk_iv_18 1) (fk_u_eq _) (by simp (config := {decide := true}) only [fmF_run_p, fmF_run_f, t1, t4, w1, w2, fm_letE, fm_letT, ↓reduceIte, false_implies, true_implies, true_and, and_true, implies_true, not_true, not_false, and_self, not_true_eq_false, not_false_eq_true]) (by simp (config := {decide := true}) only [fmD_run_p, fmD_run_f, t2, t3, t4, w3, fk_bad0, fm_letE, fm_letT, ↓reduceIte, false_implies, true_implies, true_and, and_true, implies_true, not_true, not_false, and_self, not_true_eq_false, not_false_eq_true])
  obtain ⟨h1, h2, h3, h4, h5, h6⟩ := id h
  rcases h6 with ⟨k0, k19⟩ | ⟨k0, k19, hfl⟩
  · have k19' : (fm_u I 24 0 18 0) 24 0 19 = 0 := by rw [fk_ne3 _ _ (by omega)]; exact k19
    exact bad 2 (Or.inr rfl) (fm_u (fm_u I 24 0 18 0) 24 0 18 2) (fun E hE => fk_iv_18 2 (fk_iv_18 0 hE)) (fk_u_eq _) (by simp (config := {decide := true}) only [fmF_run_p, fmF_run_f, t1, t4, w1, w2, k0, fm_letE, fm_letT, ↓reduceIte, false_implies, true_implies, true_and, and_true, implies_true, not_true, not_false, and_self, not_true_eq_false, not_false_eq_true]) (by simp (config := {decide := true}) only [fmD_run_p, fmD_run_f, t2, t3, t4, w3, k19', fk_bad1, fm_letE, fm_letT, ↓reduceIte, false_implies, true_implies, true_and, and_true, implies_true, not_true, not_false, and_self, not_true_eq_false, not_false_eq_true])
  have hdk := fk_dk_of h1
  obtain ⟨m1, m2, m3, m4, m5, m6, m7⟩ := hdk g hg ht
  obtain ⟨K, hK⟩ := fk_KK hfl
  have hsc : fk_sc D K I := ⟨h1, hK⟩
  have cg : (Int32.ofNat g).toNatClampNeg = g := fk_cl (by omega)
  have vg : vp_in (Int32.ofNat g) 4 := (fk_in (by omega)).mpr hg
  obtain ⟨I0, hI0⟩ : ∃ I0, I0 = fm_u (fm_u (fm_u I 18 0 0 0) 18 0 1 0) 18 0 5 0 := ⟨_, rfl⟩
  have f0 : ∀ k i s, (k = 18 → s ≠ 0 ∧ s ≠ 1 ∧ s ≠ 5) → I0 k i s = I k i s := fun k i s a => by rw [hI0, fk_ne3 _ _ (by omega), fk_ne3 _ _ (by omega), fk_ne3 _ _ (by omega)]
  have a5 : I0 18 0 5 = Int32.ofNat 0 := by rw [hI0, fk_u_eq]; rfl
  have a0 : I0 18 0 0 = Int32.ofNat 0 := by rw [hI0, fk_ne3 _ _ (by omega), fk_ne3 _ _ (by omega), fk_u_eq]; rfl
  have a1 : I0 18 0 1 = 0 := by rw [hI0, fk_ne3 _ _ (by omega), fk_u_eq]
  obtain ⟨en1, I1, J1, G1, en2, en3, en4, en5, en6, en7, en8, en9⟩ := fk_enC pa (I := I0) J G hg ht (fk_mC_fr h1 (fun k i s a b => f0 k i s (by omega))) (d := 0) (by omega) a5
  have fC := fk_xc_en I0 J G pa (Int32.ofNat g)
  rw [en2] at fC
  dsimp only at fC
  have xI : ∀ k i s, k ≠ 18 → k ≠ 22 → k ≠ 23 → I1 k i s = I k i s := fun k i s a b c => by rw [en3 k i s (by omega) (by omega), f0 k i s (by omega)]
  have hmC1 := (h1 g hg).2.2 ht
  have q1 : I1 2 g 1 = Int32.ofNat (D.2.1 g) := by rw [xI 2 _ _ (by omega) (by omega) (by omega)]; exact hmC1.1
  have qty : ∀ i, i < D.2.1 g → I1 3 g i = D.2.2.2.2.1 g i ∧ fk_wb (D.2.2.2.2.1 g i) 4 = true := fun i hi => by
    rw [xI 3 _ _ (by omega) (by omega) (by omega)]; exact hmC1.2.2.2.2.2.2.2.2.2.1 i (by omega)
  obtain ⟨c1p, J2, G2, c1e, c1n, c1v, c1o, c1J, c1G⟩ := fk_psC HF J1 G1 (i := 0) (t := D.2.2.2.2.1 g 0) hg en4 q1 m1 (by omega) (qty 0) hx
  obtain ⟨c2p, J3, G3, c2e, c2n, c2v, c2o, c2J, c2G⟩ := fk_psC HF J2 G2 (i := 1) (t := D.2.2.2.2.1 g 1) hg en4 q1 m1 (by omega) (qty 1) hy
  obtain ⟨c3p, J4, G4, c3e, c3n, c3v, c3o, c3J, c3G⟩ := fk_psC HF J3 G3 (i := 2) (t := D.2.2.2.2.1 g 2) hg en4 q1 m1 (by omega) (qty 2) hz
  obtain ⟨S, hS⟩ : ∃ S, S = fk_Wf 302 I1 J4 G4 pa (Int32.ofNat fl) := ⟨_, rfl⟩
  have hXS := fk_xc_work I1 J4 G4 pa (Int32.ofNat fl)
  rw [show fmM_work_f I1 J4 G4 pa (Int32.ofNat fl) = S from hS.symm] at hXS
  have sI : ∀ k i s, k ≠ 18 → k ≠ 22 → k ≠ 23 → S.2.1 k i s = I k i s := fun k i s a b c => by rw [hXS.1 k i s a b c, xI k i s a b c]
  have sJ : ∀ k i s, k ≠ 20 → S.2.2.1 k i s = J k i s := fun k i s a => by rw [hXS.2.1 k i s a, c3J k i s a, c2J k i s a, c1J k i s a, fC.2.1 k i s a]
  have sG : ∀ k i s, k ≠ 21 → S.2.2.2 k i s = G k i s := fun k i s a => by rw [hXS.2.2 k i s a, c3G k i s a, c2G k i s a, c1G k i s a, fC.2.2 k i s a]
  have ref : ∀ (G' : fm_MG) (pb' : Nat × Nat), (∀ k i s, k ≠ 49 → G' k i s = S.2.2.2 k i s) → fk_Wp 302 I1 J4 G4 pa (Int32.ofNat fl) ∧ ∃ Y : fm_MI × fm_MJ × fm_MG, fmD_run_p S.2.1 S.2.2.1 G' pa pb' (Int32.ofNat g) x y z (Int32.ofNat fl) ∧ fmD_run_f S.2.1 S.2.2.1 G' pa pb' (Int32.ofNat g) x y z (Int32.ofNat fl) = (if Y.1 24 0 18 ≤ 0 then fmD_told_f (Y.1 31 0 g) (Y.2.1 40 0 0) (Y.2.2 41 0 0) else FP.dconst0, Y) ∧ fk_done D g S Y ∧ fk_XD S.2.1 S.2.2.1 G' Y.1 Y.2.1 Y.2.2 := by
    intro G' pb' hG'
    obtain ⟨Ib, hIb⟩ : ∃ Ib, Ib = fm_u (fm_u (fm_u (fm_u (fm_u (fm_u S.2.1 24 0 18 0) 24 0 32 0) 24 0 31 0) 24 0 30 0) 24 0 29 0) 24 0 28 0 := ⟨_, rfl⟩
    have bI : ∀ k i s, k ≠ 24 ∨ s = 19 → Ib k i s = S.2.1 k i s := fun k i s a => by rw [hIb, fk_ne3 _ _ (by omega), fk_ne3 _ _ (by omega), fk_ne3 _ _ (by omega), fk_ne3 _ _ (by omega), fk_ne3 _ _ (by omega), fk_ne3 _ _ (by omega)]
    have b28 : Ib 24 0 28 = Int32.ofNat 0 := by rw [hIb, fk_u_eq]; rfl
    have b29 : Ib 24 0 29 = Int32.ofNat 0 := by rw [hIb, fk_ne3 _ _ (by omega), fk_u_eq]; rfl
    have b30 : Ib 24 0 30 = Int32.ofNat 0 := by rw [hIb, fk_ne3 _ _ (by omega), fk_ne3 _ _ (by omega), fk_u_eq]; rfl
    have b31 : Ib 24 0 31 = Int32.ofNat 0 := by rw [hIb, fk_ne3 _ _ (by omega), fk_ne3 _ _ (by omega), fk_ne3 _ _ (by omega), fk_u_eq]; rfl
    have b32 : Ib 24 0 32 = 0 := by rw [hIb, fk_ne3 _ _ (by omega), fk_ne3 _ _ (by omega), fk_ne3 _ _ (by omega), fk_ne3 _ _ (by omega), fk_u_eq]
    have b18 : Ib 24 0 18 = 0 := by rw [hIb, fk_ne3 _ _ (by omega), fk_ne3 _ _ (by omega), fk_ne3 _ _ (by omega), fk_ne3 _ _ (by omega), fk_ne3 _ _ (by omega), fk_u_eq]
    have hmb : fk_mD Ib D := fk_mD_fr h2 (fun k i s a b => by rw [bI k i s (by omega), sI k i s (by omega) (by omega) (by omega)])
    obtain ⟨d1p, I2, J2', G2', d1e, d1I, d1t, d1n, d1v, d1g, d1J, d1G⟩ := fk_psD HF (I := Ib) S.2.2.1 G' (i := 0) hg ht hdk hmb (by omega) b28 (by omega) hx
    have hm2 : fk_mD I2 D := fk_mD_fr hmb (fun k i s a b => d1I k i s (by omega))
    obtain ⟨d2p, I3, J3', G3', d2e, d2I, d2t, d2n, d2v, d2g, d2J, d2G⟩ := fk_psD HF (I := I2) J2' G2' (i := 1) hg ht hdk hm2 (by omega) d1t (by split <;> omega) hy
    have hm3 : fk_mD I3 D := fk_mD_fr hm2 (fun k i s a b => d2I k i s (by omega))
    obtain ⟨d3p, I4, J4', G4', d3e, d3I, d3t, d3n, d3v, d3g, d3J, d3G⟩ := fk_psD HF (I := I3) J3' G3' (i := 2) hg ht hdk hm3 (by omega) d2t (by split <;> (split <;> omega)) hz
    have hm4 : fk_mD I4 D := fk_mD_fr hm3 (fun k i s a b => d3I k i s (by omega))
    have i4 : ∀ k i s, (k = 24 → s ≠ 28) → I4 k i s = Ib k i s := fun k i s a => by rw [d3I k i s a, d2I k i s a, d1I k i s a]
    have t28 : I4 24 0 28 = Int32.ofNat (0 + D.2.1 g) := by
      rw [d3t]
      have : D.2.1 g = 0 ∨ D.2.1 g = 1 ∨ D.2.1 g = 2 ∨ D.2.1 g = 3 := by omega
      rcases this with w | w | w | w <;> rw [w] <;> rfl
    obtain ⟨ed1, I5, J5, G5, ed2, ed3, ed4, ed5, ed6, ed7, ed8, ed9, ed10, ed11, ed12⟩ := fk_enD pa pb' (I := I4) J4' G4' hg ht hdk hm4 (d := 0) (top := 0) (by omega) (by rw [i4 _ _ _ (by omega)]; exact b29) t28 (by omega)
    have fD := fk_xd_en I4 J4' G4' pa pb' (Int32.ofNat g)
    rw [ed2] at fD
    have fD : fk_XD I4 J4' G4' I5 J5 G5 := fD
    have hV : ∀ j, j < D.2.2.1 g → fk_V (D.2.2.2.2.1 g j) (fk_cC J4 G4 j) (fk_cD J5 G5 j) := by
      intro j hj
      rw [ed11 j]
      by_cases hjn : j < D.2.1 g
      · rw [if_neg (by omega)]
        have hj3 : j = 0 ∨ j = 1 ∨ j = 2 := by omega
        have p0 : 0 < D.2.1 g := by omega
        rcases hj3 with rfl | rfl | rfl
        · refine fk_pwV HF hx (by rw [c3n 0 (by omega), c2n 0 (by omega)]; exact c1v hjn) ?_
          rw [d3n 0 (by rw [if_pos p0]; split <;> omega), d2n 0 (by rw [if_pos p0]; omega)]
          exact d1v hjn
        · refine fk_pwV HF hy (by rw [c3n 1 (by omega)]; exact c2v hjn) ?_
          have := d2v hjn
          rw [if_pos p0] at this
          rw [d3n 1 (by rw [if_pos hjn, if_pos p0]; omega)]
          exact this
        · refine fk_pwV HF hz (c3v hjn) ?_
          have := d3v hjn
          rw [if_pos (by omega), if_pos p0] at this
          exact this
      · rw [if_pos (by omega)]
        have hC0 : fk_cC J4 G4 j = fk_cC J1 G1 j := by
          have e3 : fk_cC J4 G4 j = fk_cC J3 G3 j := by
            by_cases w : j = 2
            · subst w; exact c3o hjn
            · exact c3n j w
          have e2 : fk_cC J3 G3 j = fk_cC J2 G2 j := by
            by_cases w : j = 1
            · subst w; exact c2o hjn
            · exact c2n j w
          have e1 : fk_cC J2 G2 j = fk_cC J1 G1 j := by
            by_cases w : j = 0
            · subst w; exact c1o hjn
            · exact c1n j w
          rw [e3, e2, e1]
        rw [hC0, en9 j, if_pos (by omega)]
        exact fk_Vz _
    have hgl : fk_gl J4 G4 J5 G5 := fun n hn => by
      have e1 : fk_cC J4 G4 (208 + n) = fk_cC J G (208 + n) := by rw [c3n _ (by omega), c2n _ (by omega), c1n _ (by omega), en9 _, if_neg (by omega)]
      have e2 : fk_cG J5 G5 n = fk_cG J G n := by
        rw [ed12, d3g, d2g, d1g]
        unfold fk_cG
        rw [sJ 33 _ _ (by omega), hG' 34 _ _ (by omega), sG 34 _ _ (by omega)]
      rw [e1, e2]
      exact h5 n hn
    have hRR : fk_RR D K I1 J4 G4 I5 J5 G5 [(g, 0, [], [fk_F0 D g])] := by
      refine ⟨⟨⟨⟨hg, ht, by omega, by simp, by simp, by simp⟩, ⟨en4, en5⟩, ⟨ed4, ed5, ed6, ?_⟩, fun j hj => ?_, trivial, ⟨fun w => absurd rfl w, trivial⟩, trivial⟩, by simp, en6, fun _ => en7, ed8, ?_, ?_, ?_, ?_, ?_, hgl⟩, ?_, ?_, ⟨rfl, rfl, rfl⟩, trivial⟩
      · refine ed7.trans ?_
        rw [i4 _ _ _ (by omega)]; exact b30
      · show fk_V (D.2.2.2.2.1 g j) (fk_cC J4 G4 (26 * 0 + j)) (fk_cD J5 G5 (0 + j))
        rw [show 26 * 0 + j = j by omega]
        first
          | exact hV j hj
          | (rw [Nat.zero_add]; exact hV j hj)
      · rw [ed9]; rfl
      · rw [ed3 24 _ _ (by omega) (by omega), i4 _ _ _ (by omega), b30]; rfl
      · rw [ed3 24 _ _ (by omega) (by omega), i4 _ _ _ (by omega), b18]
      · rw [ed3 24 _ _ (by omega) (by omega), i4 _ _ _ (by omega), b31, en3 18 0 0 (by omega) (by omega), a0]
      · rw [en8, ed10, i4 _ _ _ (by omega), b32, a1]
        exact fk_mxe
      · exact fk_sc_k hsc (fun k i s a b c => xI k i s a b c)
      · exact fk_mD_fr hm4 (fun k i s a b => ed3 k i s (by omega) (by omega))
    obtain ⟨s1, s2, s3⟩ := fk_sim HF (f0 := g) (fl := fl) (by omega) pa pa pb' (fl * 400 + 41) 0 g 0 [] [fk_F0 D g] [] I1 J4 G4 I5 J5 G5 302 1000000 hRR rfl (by rw [en3 18 0 0 (by omega) (by omega), a0]) (by omega) (by show (fl - 0) * 400 + (41 - 0 + 0) ≤ fl * 400 + 41; omega) (by omega) (by omega)
    obtain ⟨Y, hY⟩ : ∃ Y, Y = fmD_go_L0_f 1000000 I5 J5 G5 pa pb' (Int32.ofNat fl) := ⟨_, rfl⟩
    have fg := fk_xd_go pa pb' (Int32.ofNat fl) 1000000 I5 J5 G5
    rw [← hY] at fg s3
    rw [← hS] at s3
    have k19' : (fm_u S.2.1 24 0 18 0) 24 0 19 = 1 := by rw [fk_ne3 _ _ (by omega), sI 24 _ _ (by omega) (by omega) (by omega)]; exact k19
    have t3' : fmD_isFunction_f S.2.1 (Int32.ofNat g) = 1 := by
      have : fmD_isFunction_f S.2.1 (Int32.ofNat g) = fmD_isFunction_f I (Int32.ofNat g) := by
        unfold fmD_isFunction_f
        rw [sI 32 _ _ (by omega) (by omega) (by omega)]
      rw [this, t3, t4]
    have d1e' : fmD_pass_f Ib S.2.2.1 G' (Int32.ofNat g) 0 x = (I2, J2', G2') := d1e
    have d2e' : fmD_pass_f I2 J2' G2' (Int32.ofNat g) 1 y = (I3, J3', G3') := d2e
    have d3e' : fmD_pass_f I3 J3' G3' (Int32.ofNat g) 2 z = (I4, J4', G4') := d3e
    have d1p' : fmD_pass_p Ib (Int32.ofNat g) 0 x := d1p
    have d2p' : fmD_pass_p I2 (Int32.ofNat g) 1 y := d2p
    have d3p' : fmD_pass_p I3 (Int32.ofNat g) 2 z := d3p
    have hgo : fmD_go_f I5 J5 G5 pa pb' (Int32.ofNat fl) = Y := hY.symm
    have hgp : fmD_go_p I5 J5 G5 pa pb' (Int32.ofNat fl) := s2
    have z0 : (0 : Int32).toNatClampNeg = 0 := rfl
    have v0 : vp_in 0 260 := by unfold vp_in; decide
    rw [hIb] at d1e' d1p'
    refine ⟨s1, Y, ?_, ?_, s3, ?_⟩
    · simp (config := {decide := true}) only [fmD_run_p, t2, t3', w3, k19', fk_bad1, d1p', d1e', d2p', d2e', d3p', d3e', ed1, ed2, hgp, hgo, vg, v0, fm_letE, fm_letT, ↓reduceIte, false_implies, true_implies, true_and, and_true, implies_true, not_true, not_false, and_self, not_true_eq_false, not_false_eq_true]
    · have : fmD_run_f S.2.1 S.2.2.1 G' pa pb' (Int32.ofNat g) x y z (Int32.ofNat fl) = if Y.1 24 0 18 ≤ 0 then (fmD_told_f (Y.1 31 0 g) (Y.2.1 40 0 0) (Y.2.2 41 0 0), Y.1, Y.2.1, Y.2.2) else (FP.dconst0, Y.1, Y.2.1, Y.2.2) := by
        simp (config := {decide := true}) only [fmD_run_f, t3', w3, k19', fk_bad1, d1e', d2e', d3e', ed2, hgo, cg, z0, fm_letE, fm_letT, ↓reduceIte, false_implies, true_implies, true_and, and_true, implies_true, not_true, not_false, and_self, not_true_eq_false, not_false_eq_true]
      rw [this]
      split <;> rfl
    · refine fk_XD_t ?_ fg
      refine ⟨fun k i s a b => ?_, fun k i s a b => ?_, fun k i s a b => ?_⟩
      · rw [fD.1 k i s a b, i4 k i s (by omega), bI k i s (by omega)]
      · rw [fD.2.1 k i s a b, d3J k i s b, d2J k i s b, d1J k i s b]
      · rw [fD.2.2 k i s a b, d3G k i s b, d2G k i s b, d1G k i s b]
  have c1e' : fmM_pass_f I1 J1 G1 0 x = (J2, G2) := c1e
  have c2e' : fmM_pass_f I1 J2 G2 1 y = (J3, G3) := c2e
  have c3e' : fmM_pass_f I1 J3 G3 2 z = (J4, G4) := c3e
  have c1p' : fmM_pass_p I1 0 x := c1p
  have c2p' : fmM_pass_p I1 1 y := c2p
  have c3p' : fmM_pass_p I1 2 z := c3p
  have hbg : fmM_begin_p I J G pa (Int32.ofNat g) ∧ fmM_begin_f I J G pa (Int32.ofNat g) = (I1, J1, G1) := by
    unfold fmM_begin_p fmM_begin_f
    rw [← hI0, en2, fm_letE]
    exact ⟨en1, rfl⟩
  have hwk : fmM_work_f I1 J4 G4 pa (Int32.ofNat fl) = S := hS.symm
  have hwp : fmM_work_p I1 J4 G4 pa (Int32.ofNat fl) := (ref S.2.2.2 pb (fun _ _ _ _ => rfl)).1
  have n0 : ¬ I 0 0 3 = 0 := by rw [k0]; decide
  have r1 : S.2.1 2 g 3 = D.2.2.2.1 g := by rw [sI 2 _ _ (by omega) (by omega) (by omega)]; exact hmC1.2.2.2.2.2.1
  have r2 : S.2.1 2 g 2 = Int32.ofNat (D.2.2.1 g) := by rw [sI 2 _ _ (by omega) (by omega) (by omega)]; exact hmC1.2.2.1
  have cn : (Int32.ofNat (D.2.2.1 g)).toNatClampNeg = D.2.2.1 g := fk_cl (by omega)
  have vn : vp_in (Int32.ofNat (D.2.2.1 g)) 212 := (fk_in (by omega)).mpr (by omega)
  have hrp : fmM_result_p S.2.1 g := by
    unfold fmM_result_p fmM_valueOf_p
    rw [r2]
    exact ⟨fun _ => trivial, fun _ => ⟨fun _ => vn, fun _ => vn⟩⟩
  have eP : fmF_run_p I J G pa (Int32.ofNat g) x y z (Int32.ofNat fl) := by
    simp (config := {decide := true}) only [fmF_run_p, t1, t4, w1, w2, n0, hbg.1, hbg.2, c1p', c1e', c2p', c2e', c3p', c3e', hwp, hwk, cg, vg, hrp, fm_letE, fm_letT, ↓reduceIte, false_implies, true_implies, true_and, and_true, implies_true, not_true, not_false, and_self, not_true_eq_false, not_false_eq_true]
  have eF : R = if S.1 = 0 then (0, fmM_result_f S.2.1 S.2.2.1 S.2.2.2 g, S.2.1, S.2.2.1, S.2.2.2, (1, 0)) else (S.1, FP.dconst0, S.2.1, S.2.2.1, S.2.2.2, (1, 0)) := by
    rw [hR]
    simp (config := {decide := true}) only [fmF_run_f, t1, t4, w1, w2, n0, hbg.2, c1e', c2e', c3e', hwk, cg, fm_letE, fm_letT, ↓reduceIte, false_implies, true_implies, true_and, and_true, implies_true, not_true, not_false, and_self, not_true_eq_false, not_false_eq_true]
  obtain ⟨-, Y0, -, -, hdone, -⟩ := ref S.2.2.2 pb (fun _ _ _ _ => rfl)
  have hS4 : S.1 = 0 ∨ S.1 = 2 ∨ S.1 = 3 ∨ S.1 = 4 := hdone.2.1
  have eR : R = (S.1, (if S.1 = 0 then fmM_result_f S.2.1 S.2.2.1 S.2.2.2 g else FP.dconst0), S.2.1, S.2.2.1, S.2.2.2, (1, 0)) := by
    rw [eF]
    by_cases w : S.1 = 0
    · rw [if_pos w, if_pos w, w]
    · rw [if_neg w, if_neg w]
  clear eF hR
  refine ⟨eP, by rw [eR]; dsimp only; omega, fun G1' hG1 => ?_⟩
  rw [eR] at hG1 ⊢
  dsimp only at hG1 ⊢
  have hg49 : ∀ k i s, k ≠ 49 → G1' k i s = S.2.2.2 k i s := fun k i s a => by
    rw [hG1]
    split
    · rw [fk_ne _ _ a]
    · rfl
  obtain ⟨-, Y, Y1, Y2, Y3, Y4⟩ := ref G1' (1, 0) hg49
  rw [Y2]
  dsimp only
  obtain ⟨y1, y2, y3, y4, y5⟩ := Y3
  refine ⟨Y1, y1, fun w => ?_, D, ?_⟩
  · have e49 : Y.2.2 49 0 0 = fmM_result_f S.2.1 S.2.2.1 S.2.2.2 g := by
      rw [Y4.2.2 49 _ _ (by omega) (by omega), hG1, if_pos w, fk_u_eq, if_pos w]
    have hle : Y.1 24 0 18 ≤ 0 := by rw [y1, w]; decide
    rw [if_pos hle, e49]
    have e31 : Y.1 31 0 g = D.2.2.2.1 g := by
      rw [Y4.1 31 _ _ (by omega) (by omega), sI 31 _ _ (by omega) (by omega) (by omega)]
      exact ((h2 g hg).2 ht).2.2.1
    rw [e31]
    by_cases hr4 : D.2.2.2.1 g = 4
    · have : fmM_result_f S.2.1 S.2.2.1 S.2.2.2 g = fmD_told_f (D.2.2.2.1 g) (Y.2.1 40 0 0) (Y.2.2 41 0 0) := by
        unfold fmM_result_f fmD_told_f
        rw [r1, if_pos hr4, if_pos hr4]
      rw [this]
      exact fk_eqd_r _
    · obtain ⟨rn, re⟩ := fk_wbn m4
      have rn3 : (D.2.2.2.1 g).toNatClampNeg ≤ 3 := by
        have : (D.2.2.2.1 g).toNatClampNeg ≠ 4 := fun w => hr4 (by rw [re, w]; rfl)
        omega
      have hv := y5 w hr4
      rw [re] at hv
      have htl := fk_tell rn3 hv
      have : fmM_result_f S.2.1 S.2.2.1 S.2.2.2 g = fmD_told_f (D.2.2.2.1 g) (Y.2.1 40 0 0) (Y.2.2 41 0 0) := by
        unfold fmM_result_f fmM_valueOf_f
        rw [r1, r2, cn, if_neg hr4, fm_letE, re]
        exact htl
      rw [this]
      exact fk_eqd_r _
  · have yI : ∀ k i s, k ≠ 18 → k ≠ 22 → k ≠ 23 → (k < 42 ∨ 47 < k) → (k = 24 → s = 19) → Y.1 k i s = I k i s := fun k i s a b c d e => by rw [Y4.1 k i s d e, sI k i s a b c]
    refine ⟨fk_mC_fr h1 (fun k i s a b => yI k i s (by omega) (by omega) (by omega) (by omega) (by omega)), fk_mD_fr h2 (fun k i s a b => yI k i s (by omega) (by omega) (by omega) (by omega) (by omega)), fun j hj => ?_, ⟨?_, ?_⟩, fun n hn => ?_, Or.inr ⟨?_, ?_, fun g' hg' ht' => ?_⟩⟩
    · rw [yI 17 _ _ (by omega) (by omega) (by omega) (by omega) (by omega)]; exact h3 j hj
    · rw [Y4.1 18 _ _ (by omega) (by omega)]; exact y3.1
    · rw [Y4.1 18 _ _ (by omega) (by omega)]; exact y3.2
    · have := y4 n hn
      have e1 : fk_cC Y.2.1 Y.2.2 (208 + n) = fk_cC S.2.2.1 S.2.2.2 (208 + n) := by
        unfold fk_cC
        rw [Y4.2.1 20 _ _ (by omega) (by omega), Y4.2.2 21 _ _ (by omega) (by omega), hg49 21 _ _ (by omega)]
      rw [e1]
      exact this
    · rw [yI 0 _ _ (by omega) (by omega) (by omega) (by omega) (by omega)]; exact k0
    · rw [yI 24 _ _ (by omega) (by omega) (by omega) (by omega) (by omega)]; exact k19
    · obtain ⟨K', k1, k2, k3, k4⟩ := hfl g' hg' ht'
      have kk : ∀ k i s, 6 ≤ k → k ≤ 12 → Y.1 k i s = I k i s := fun k i s a b => yI k i s (by omega) (by omega) (by omega) (by omega) (by omega)
      refine ⟨K', k1, by rw [kk 6 _ _ (by omega) (by omega)]; exact k2, k3, fun r hr => ?_⟩
      obtain ⟨b1, b2, b3, b4, b5, b6⟩ := k4 r hr
      exact ⟨(kk _ _ _ (by omega) (by omega)).trans b1, (kk _ _ _ (by omega) (by omega)).trans b2, (kk _ _ _ (by omega) (by omega)).trans b3, (kk _ _ _ (by omega) (by omega)).trans b4, (kk _ _ _ (by omega) (by omega)).trans b5, (kk _ _ _ (by omega) (by omega)).trans b6⟩
