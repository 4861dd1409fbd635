theorem fk_d0 : FP.f2d (FP.d2f FP.dconst0) = FP.dconst0 ∧ vf_n32 (FP.d2f FP.dconst0) ∧ vf_n64 FP.dconst0 ∧ fmD_large_f FP.dconst0 = 0 := by
  refine ⟨by decide +kernel, ?_, ?_, by decide +kernel⟩
  · unfold vf_n32; decide +kernel
  · unfold vf_n64; decide +kernel
def fk_zz : fk_cell := (0, FP.dconst0)
theorem fk_Vz (t : Int32) : fk_V t fk_zz fk_zz := by
  obtain ⟨a, b, c, d⟩ := fk_d0
  exact ⟨fun _ => ⟨rfl, by decide⟩, fun _ => rfl, fun _ => ⟨rfl, ⟨c, d⟩, b, a⟩, fun _ => ⟨rfl, c, d⟩⟩
theorem fk_enLC (pa : Nat × Nat) {g base nl : Nat} (hg : g < 4) (hb : base + nl ≤ 212) (hnl : nl ≤ 6) : ∀ (m j : Nat) (I : fm_MI) (J : fm_MJ) (G : fm_MG), I 18 0 6 = Int32.ofNat base → I 2 g 2 = Int32.ofNat nl → j ≤ nl → nl - j < m →
    fmM_enter_L58_p m I J G pa (Int32.ofNat g) (Int32.ofNat j) ∧ ∃ J1 G1, fmM_enter_L58_f m I J G pa (Int32.ofNat g) (Int32.ofNat j) = (I, J1, G1) ∧ ∀ n, fk_cC J1 G1 n = if base + j ≤ n ∧ n < base + nl then fk_zz else fk_cC J G n
  | 0, j, I, J, G, _, _, _, hm => absurd hm (Nat.not_lt_zero _)
  | m + 1, j, I, J, G, h6, h2, hj, hm => by
    have cg : (Int32.ofNat g).toNatClampNeg = g := fk_cl (by omega)
    have vg : vp_in (Int32.ofNat g) 4 := (fk_in (by omega)).mpr hg
    unfold fmM_enter_L58_p fmM_enter_L58_f
    rw [cg, h2]
    by_cases hjn : nl ≤ j
    · have hle : Int32.ofNat nl ≤ Int32.ofNat j := (fk_le (by omega) (by omega)).mpr hjn
      rw [if_pos hle]
      refine ⟨⟨vg, fun _ => trivial, fun q => absurd hle q⟩, J, G, rfl, fun n => ?_⟩
      rw [if_neg (by omega)]
    · have hle : ¬ Int32.ofNat nl ≤ Int32.ofNat j := fun q => hjn ((fk_le (by omega) (by omega)).mp q)
      rw [if_neg hle, h6, fk_add, fk_cl (show base + j < 2147483648 by omega), fk_s]
      have v : vp_in (Int32.ofNat (base + j)) 212 := (fk_in (by omega)).mpr (by omega)
      obtain ⟨i1, J1, G1, i2, i3⟩ := fk_enLC pa hg hb hnl m (j + 1) I (fm_u J 20 0 (base + j) 0) (fm_u G 21 0 (base + j) FP.dconst0) h6 h2 (by omega) (by omega)
      refine ⟨⟨vg, fun q => absurd q hle, fun _ => ⟨v, v, i1⟩⟩, J1, G1, i2, fun n => ?_⟩
      rw [i3 n, fk_cCB]
      by_cases hn : n = base + j
      · subst hn
        rw [if_neg (by omega), if_pos (by omega), fk_up_eq]; rfl
      · rw [fk_up_ne hn]
        by_cases h1 : base + (j + 1) ≤ n ∧ n < base + nl
        · rw [if_pos h1, if_pos (by omega)]
        · rw [if_neg h1, if_neg (by omega)]
theorem fk_clLC (pa : Nat × Nat) {g base np rg : Nat} (hg : g < 4) (hb : base + np ≤ 212) (hnp : np ≤ 3) (hrg : rg + np ≤ base) : ∀ (m j : Nat) (I : fm_MI) (J : fm_MJ) (G : fm_MG), I 18 0 6 = Int32.ofNat base → I 2 g 1 = Int32.ofNat np → j ≤ np → np - j < m →
    fmM_callFunction_L24_p m I J G pa (Int32.ofNat g) (Int32.ofNat rg) (Int32.ofNat j) ∧ ∃ J1 G1, fmM_callFunction_L24_f m I J G pa (Int32.ofNat g) (Int32.ofNat rg) (Int32.ofNat j) = (0, I, J1, G1) ∧ ∀ n, fk_cC J1 G1 n = if base + j ≤ n ∧ n < base + np then fk_cC J G (rg + (n - base)) else fk_cC J G n
  | 0, j, I, J, G, _, _, _, hm => absurd hm (Nat.not_lt_zero _)
  | m + 1, j, I, J, G, h6, h2, hj, hm => by
    have cg : (Int32.ofNat g).toNatClampNeg = g := fk_cl (by omega)
    have vg : vp_in (Int32.ofNat g) 4 := (fk_in (by omega)).mpr hg
    unfold fmM_callFunction_L24_p fmM_callFunction_L24_f
    rw [cg, h2]
    by_cases hjn : np ≤ j
    · have hle : Int32.ofNat np ≤ Int32.ofNat j := (fk_le (by omega) (by omega)).mpr hjn
      rw [if_pos hle]
      refine ⟨⟨vg, fun _ => trivial, fun q => absurd hle q⟩, J, G, rfl, fun n => ?_⟩
      rw [if_neg (by omega)]
    · have hle : ¬ Int32.ofNat np ≤ Int32.ofNat j := fun q => hjn ((fk_le (by omega) (by omega)).mp q)
      obtain ⟨q1, q2, q3⟩ := fk_copy_v (a := rg + j) (b := base + j) (by omega) (by omega) J G
      rw [if_neg hle, h6, fk_add, fk_add, fk_s, q2, fm_letE]
      obtain ⟨i1, J1, G1, i2, i3⟩ := fk_clLC pa hg hb hnp hrg m (j + 1) I (fm_u J 20 0 (base + j) (J 20 0 (rg + j))) (fm_u G 21 0 (base + j) (G 21 0 (rg + j))) h6 h2 (by omega) (by omega)
      refine ⟨⟨vg, fun q => absurd q hle, fun _ => ⟨q1, fm_letQ i1⟩⟩, J1, G1, i2, fun n => ?_⟩
      rw [i3 n, q3]
      by_cases hn : n = base + j
      · subst hn
        rw [if_neg (by omega), if_pos (by omega), fk_up_eq, show base + j - base = j by omega]
      · by_cases h1 : base + (j + 1) ≤ n ∧ n < base + np
        · rw [if_pos h1, if_pos (by omega), fk_up_ne (by omega)]
        · rw [if_neg h1, if_neg (by omega), fk_up_ne hn]
theorem fk_enLD (pa pb : Nat × Nat) (y2 : Int32) {D : fk_D} {g : Nat} (hg : g < 4) (ht : D.1 g = true) (hdk : fk_dk D) : ∀ (m j top : Nat) (I : fm_MI) (J : fm_MJ) (G : fm_MG), fk_mD I D → I 24 0 28 = Int32.ofNat top → top + (D.2.2.1 g - j) ≤ 260 → j ≤ D.2.2.1 g → D.2.2.1 g - j < m →
    fmD_enter_L101_p m I J G pa pb (Int32.ofNat g) y2 (Int32.ofNat j) ∧ ∃ I1 J1 G1, fmD_enter_L101_f m I J G pa pb (Int32.ofNat g) y2 (Int32.ofNat j) = (I1, J1, G1) ∧ (∀ k i s, (k = 24 → s ≠ 28) → I1 k i s = I k i s) ∧ I1 24 0 28 = Int32.ofNat (top + (D.2.2.1 g - j)) ∧ (∀ n, fk_cD J1 G1 n = if top ≤ n ∧ n < top + (D.2.2.1 g - j) then fk_zz else fk_cD J G n) ∧ fk_cG J1 G1 = fk_cG J G
  | 0, j, top, I, J, G, _, _, _, _, hm => absurd hm (Nat.not_lt_zero _)
  | m + 1, j, top, I, J, G, hmD, h28, h260, hj, hm => by
    have cg : (Int32.ofNat g).toNatClampNeg = g := fk_cl (by omega)
    have vg : vp_in (Int32.ofNat g) 4 := (fk_in (by omega)).mpr hg
    obtain ⟨m1, m2, m3, m4, m5, m6, m7⟩ := hdk g hg ht
    obtain ⟨d1, d2, d3, d4, d5, d6⟩ := (hmD g hg).2 ht
    unfold fmD_enter_L101_p fmD_enter_L101_f
    rw [cg, d2]
    by_cases hjn : D.2.2.1 g ≤ j
    · have hle : Int32.ofNat (D.2.2.1 g) ≤ Int32.ofNat j := (fk_le (by omega) (by omega)).mpr hjn
      rw [if_pos hle]
      refine ⟨⟨vg, fun _ => trivial, fun q => absurd hle q⟩, I, J, G, rfl, fun _ _ _ _ => rfl, by rw [h28]; exact congrArg Int32.ofNat (by omega), fun n => ?_, rfl⟩
      rw [if_neg (by omega)]
    · have hle : ¬ Int32.ofNat (D.2.2.1 g) ≤ Int32.ofNat j := fun q => hjn ((fk_le (by omega) (by omega)).mp q)
      have e6 : Int32.ofNat g * 6 + Int32.ofNat j = Int32.ofNat (g * 6 + j) := by
        rw [show (6 : Int32) = Int32.ofNat 6 from rfl, ← Int32.ofNat_mul, fk_add]
      have c6 : (Int32.ofNat (g * 6 + j)).toNatClampNeg = g * 6 + j := fk_cl (by omega)
      have v6 : vp_in (Int32.ofNat (g * 6 + j)) 24 := (fk_in (by omega)).mpr (by omega)
      obtain ⟨z1, z2, z3, z4⟩ := fk_d0
      obtain ⟨p1, p2⟩ := fk_pushD J G (D.2.2.2.2.1 g j) 0 FP.dconst0 h28 (by omega) (fun _ => ⟨z2, by rw [z1]; exact z3⟩)
      have p2' : fmD_push_f I J G (D.2.2.2.2.1 g j) 0 FP.dconst0 = (fm_u I 24 0 28 (Int32.ofNat (top + 1)), fm_u J 40 0 top 0, fm_u G 41 0 top FP.dconst0) := by
        rw [p2]
        have w1 : (if D.2.2.2.2.1 g j = 0 then (0 : Int64).toInt32.toInt64 else 0) = 0 := by split <;> decide
        have w2 : (if D.2.2.2.2.1 g j = 2 then FP.f2d (FP.d2f FP.dconst0) else FP.dconst0) = FP.dconst0 := by
          split
          · exact z1
          · rfl
        rw [w1, w2]
      rw [if_neg hle, e6, c6, d5 j (by omega), fk_s, p2', fm_letE]
      obtain ⟨i1, I1, J1, G1, i2, i3, i4, i5, i6⟩ := fk_enLD pa pb y2 hg ht hdk m (j + 1) (top + 1) (fm_u I 24 0 28 (Int32.ofNat (top + 1))) (fm_u J 40 0 top 0) (fm_u G 41 0 top FP.dconst0) (fk_mD_k hmD (fun k i s a b => fk_ne3 _ _ (by omega))) (fk_u_eq _) (by omega) (by omega) (by omega)
      refine ⟨⟨vg, fun q => absurd q hle, fun _ => ⟨v6, p1, fm_letQ i1⟩⟩, I1, J1, G1, i2, fun k i s a => by rw [i3 k i s a, fk_ne3 _ _ a], by rw [i4]; exact congrArg Int32.ofNat (by omega), fun n => ?_, by rw [i6, fk_cGD]⟩
      rw [i5 n, fk_cDB]
      by_cases hn : n = top
      · subst hn
        rw [if_neg (by omega), if_pos (by omega), fk_up_eq]; rfl
      · rw [fk_up_ne hn]
        by_cases h1 : top + 1 ≤ n ∧ n < top + 1 + (D.2.2.1 g - (j + 1))
        · rw [if_pos h1, if_pos (by omega)]
        · rw [if_neg h1, if_neg (by omega)]
theorem fk_enC (pa : Nat × Nat) {I : fm_MI} (J : fm_MJ) (G : fm_MG) {D : fk_D} {g d : Nat} (hg : g < 4) (ht : D.1 g = true) (hC : fk_mC I D) (hd : d < 8) (h5 : I 18 0 5 = Int32.ofNat d) :
    fmM_enter_p I J G pa (Int32.ofNat g) ∧ ∃ I1 J1 G1, fmM_enter_f I J G pa (Int32.ofNat g) = (I1, J1, G1) ∧ (∀ k i s, (k = 22 ∨ k = 23 → s ≠ d) → (k = 18 → s ≠ 1 ∧ s ≠ 5 ∧ s ≠ 6) → I1 k i s = I k i s) ∧ I1 22 0 d = Int32.ofNat g ∧ I1 23 0 d = Int32.ofNat 0 ∧ I1 18 0 5 = Int32.ofNat (d + 1) ∧ I1 18 0 6 = Int32.ofNat (26 * d) ∧ I1 18 0 1 = (if I 18 0 1 < Int32.ofNat (d + 1) then Int32.ofNat (d + 1) else I 18 0 1) ∧ ∀ n, fk_cC J1 G1 n = if 26 * d ≤ n ∧ n < 26 * d + D.2.2.1 g then fk_zz else fk_cC J G n := by
  have cd : (Int32.ofNat d).toNatClampNeg = d := fk_cl (by omega)
  have vd : vp_in (Int32.ofNat d) 8 := (fk_in (by omega)).mpr hd
  have e26 : Int32.ofNat d * 26 = Int32.ofNat (26 * d) := by rw [show (26 : Int32) = Int32.ofNat 26 from rfl, ← Int32.ofNat_mul, Nat.mul_comm]
  have hC' := (hC g hg).2.2 ht
  unfold fmM_enter_p fmM_enter_f
  rw [h5, cd, e26, fk_s]
  obtain ⟨I0, hI0⟩ : ∃ I0, I0 = fm_u (fm_u (fm_u (fm_u (fm_u I 22 0 d (Int32.ofNat g)) 23 0 d 0) 18 0 6 (Int32.ofNat (26 * d))) 18 0 5 (Int32.ofNat (d + 1))) 18 0 1 (if I 18 0 1 < Int32.ofNat (d + 1) then Int32.ofNat (d + 1) else I 18 0 1) := ⟨_, rfl⟩
  rw [← hI0]
  have f0 : ∀ k i s, (k = 22 ∨ k = 23 → s ≠ d) → (k = 18 → s ≠ 1 ∧ s ≠ 5 ∧ s ≠ 6) → I0 k i s = I k i s := fun k i s a b => by
    rw [hI0, fk_ne3 _ _ (by omega), fk_ne3 _ _ (by omega), fk_ne3 _ _ (by omega), fk_ne3 _ _ (by omega), fk_ne3 _ _ (by omega)]
  have a6 : I0 18 0 6 = Int32.ofNat (26 * d) := by rw [hI0, fk_ne3 _ _ (by omega), fk_ne3 _ _ (by omega), fk_u_eq]
  obtain ⟨i1, J1, G1, i2, i3⟩ := fk_enLC pa hg (base := 26 * d) (nl := D.2.2.1 g) (by omega) hC'.2.2.2.2.1 7 0 I0 J G a6 (by rw [f0 2 g 2 (by omega) (by omega)]; exact hC'.2.2.1) (by omega) (by omega)
  refine ⟨⟨vd, vd, i1⟩, I0, J1, G1, i2, f0, ?_, ?_, ?_, a6, ?_, fun n => ?_⟩
  · rw [hI0, fk_ne _ _ (by decide), fk_ne _ _ (by decide), fk_ne _ _ (by decide), fk_ne _ _ (by decide), fk_u_eq]
  · rw [hI0, fk_ne _ _ (by decide), fk_ne _ _ (by decide), fk_ne _ _ (by decide), fk_u_eq]; rfl
  · rw [hI0, fk_ne3 _ _ (by omega), fk_u_eq]
  · rw [hI0, fk_u_eq]
  · rw [i3 n]; rfl
theorem fk_enD (pa pb : Nat × Nat) {I : fm_MI} (J : fm_MJ) (G : fm_MG) {D : fk_D} {g d top : Nat} (hg : g < 4) (ht : D.1 g = true) (hdk : fk_dk D) (hmD : fk_mD I D) (hd : d < 8) (h29 : I 24 0 29 = Int32.ofNat d) (h28 : I 24 0 28 = Int32.ofNat (top + D.2.1 g)) (h260 : top + D.2.2.1 g ≤ 260) :
    fmD_enter_p I J G pa pb (Int32.ofNat g) ∧ ∃ I1 J1 G1, fmD_enter_f I J G pa pb (Int32.ofNat g) = (I1, J1, G1) ∧ (∀ k i s, (k = 42 ∨ k = 43 ∨ k = 44 ∨ k = 47 → s ≠ d) → (k = 24 → s ≠ 28 ∧ s ≠ 29 ∧ s ≠ 32) → I1 k i s = I k i s) ∧ I1 42 0 d = Int32.ofNat g ∧ I1 43 0 d = Int32.ofNat 0 ∧ I1 44 0 d = Int32.ofNat top ∧ I1 47 0 d = I 24 0 30 ∧ I1 24 0 29 = Int32.ofNat (d + 1) ∧ I1 24 0 28 = Int32.ofNat (top + D.2.2.1 g) ∧ I1 24 0 32 = (if Int32.ofNat (d + 1) ≤ I 24 0 32 then I 24 0 32 else Int32.ofNat (d + 1)) ∧ (∀ n, fk_cD J1 G1 n = if top + D.2.1 g ≤ n ∧ n < top + D.2.2.1 g then fk_zz else fk_cD J G n) ∧ fk_cG J1 G1 = fk_cG J G := by
  have cd : (Int32.ofNat d).toNatClampNeg = d := fk_cl (by omega)
  have vd : vp_in (Int32.ofNat d) 10 := (fk_in (by omega)).mpr (by omega)
  have cg : (Int32.ofNat g).toNatClampNeg = g := fk_cl (by omega)
  have vg : vp_in (Int32.ofNat g) 4 := (fk_in (by omega)).mpr hg
  obtain ⟨m1, m2, m3, m4, m5, m6, m7⟩ := hdk g hg ht
  obtain ⟨d1, d2, d3, d4, d5, d6⟩ := (hmD g hg).2 ht
  have n8 : ¬ Int32.ofNat d = 8 := fun q => by
    have := (fk_ie (b := 8) (by omega) (by omega)).mp q
    omega
  have et : Int32.ofNat (top + D.2.1 g) - Int32.ofNat (D.2.1 g) = Int32.ofNat top := by rw [fk_sb (by omega)]; exact congrArg Int32.ofNat (by omega)
  obtain ⟨I0, hI0⟩ : ∃ I0, I0 = fm_u (fm_u (fm_u (fm_u (fm_u I 42 0 d (Int32.ofNat g)) 43 0 d 0) 44 0 d (Int32.ofNat top)) 47 0 d (I 24 0 30)) 24 0 29 (Int32.ofNat (d + 1)) := ⟨_, rfl⟩
  obtain ⟨I0', hI0'⟩ : ∃ I0', I0' = if Int32.ofNat (d + 1) ≤ I 24 0 32 then I0 else fm_u I0 24 0 32 (Int32.ofNat (d + 1)) := ⟨_, rfl⟩
  have f0 : ∀ k i s, (k = 42 ∨ k = 43 ∨ k = 44 ∨ k = 47 → s ≠ d) → (k = 24 → s ≠ 29) → I0 k i s = I k i s := fun k i s a b => by
    rw [hI0, fk_ne3 _ _ (by omega), fk_ne3 _ _ (by omega), fk_ne3 _ _ (by omega), fk_ne3 _ _ (by omega), fk_ne3 _ _ (by omega)]
  have f1 : ∀ k i s, (k = 24 → s ≠ 32) → I0' k i s = I0 k i s := fun k i s a => by
    rw [hI0']
    split
    · rfl
    · exact fk_ne3 _ _ a
  have hmD' : fk_mD I0' D := fk_mD_k hmD (fun k i s a b => by rw [f1 k i s (by omega), f0 k i s (by omega) (by omega)])
  obtain ⟨i1, I1, J1, G1, i2, i3, i4, i5, i6⟩ := fk_enLD pa pb (Int32.ofNat (D.2.1 g)) hg ht hdk 7 (D.2.1 g) (top + D.2.1 g) I0' J G hmD' (by rw [f1 _ _ _ (by omega), f0 _ _ _ (by omega) (by omega)]; exact h28) (by omega) m2 (by omega)
  have e1 : top + D.2.1 g + (D.2.2.1 g - D.2.1 g) = top + D.2.2.1 g := by omega
  rw [e1] at i4 i5
  have hP : fmD_enter_p I J G pa pb (Int32.ofNat g) ∧ fmD_enter_f I J G pa pb (Int32.ofNat g) = fmD_enter_L101_f 7 I0' J G pa pb (Int32.ofNat g) (Int32.ofNat (D.2.1 g)) (Int32.ofNat (D.2.1 g)) := by
    unfold fmD_enter_p fmD_enter_f
    rw [h29, cd, cg, d1, h28, et, fk_s, if_neg n8, ← hI0]
    by_cases hle : Int32.ofNat (d + 1) ≤ I 24 0 32
    · rw [if_pos hle] at hI0' ⊢
      rw [hI0'] at i1 ⊢
      exact ⟨⟨fun q => absurd q n8, fun _ => ⟨vg, vd, vd, vd, vd, fun _ => i1, fun q => absurd hle q⟩⟩, rfl⟩
    · rw [if_neg hle] at hI0' ⊢
      rw [hI0'] at i1 ⊢
      exact ⟨⟨fun q => absurd q n8, fun _ => ⟨vg, vd, vd, vd, vd, fun q => absurd q hle, fun _ => i1⟩⟩, rfl⟩
  refine ⟨hP.1, I1, J1, G1, hP.2.trans i2, fun k i s a b => ?_, ?_, ?_, ?_, ?_, ?_, i4, ?_, i5, i6⟩
  · rw [i3 k i s (by omega), f1 k i s (by omega), f0 k i s (by omega) (by omega)]
  · rw [i3 _ _ _ (by omega), f1 _ _ _ (by omega), hI0, fk_ne _ _ (by decide), fk_ne _ _ (by decide), fk_ne _ _ (by decide), fk_ne _ _ (by decide), fk_u_eq]
  · rw [i3 _ _ _ (by omega), f1 _ _ _ (by omega), hI0, fk_ne _ _ (by decide), fk_ne _ _ (by decide), fk_ne _ _ (by decide), fk_u_eq]; rfl
  · rw [i3 _ _ _ (by omega), f1 _ _ _ (by omega), hI0, fk_ne _ _ (by decide), fk_ne _ _ (by decide), fk_u_eq]
  · rw [i3 _ _ _ (by omega), f1 _ _ _ (by omega), hI0, fk_ne _ _ (by decide), fk_u_eq]
  · rw [i3 _ _ _ (by omega), f1 _ _ _ (by omega), hI0, fk_u_eq]
  · rw [i3 _ _ _ (by omega), hI0']
    split
    · rw [f0 _ _ _ (by omega) (by omega)]
    · rw [fk_u_eq]
theorem fk_mxe {a b : Int32} : (if a < b then b else a) = (if b ≤ a then a else b) := by
  by_cases h : a < b
  · rw [if_pos h, if_neg]
    intro q
    rw [Int32.lt_iff_toInt_lt] at h
    rw [Int32.le_iff_toInt_le] at q
    omega
  · rw [if_neg h, if_pos]
    rw [Int32.lt_iff_toInt_lt] at h
    rw [Int32.le_iff_toInt_le]
    omega
def fk_F0 (D : fk_D) (g : Nat) : fk_F := (0, D.2.2.2.1 g, 0, true, false, 0, 0, -1)
theorem fk_tr0 (D : fk_D) (g : Nat) : (fk_tr D g 0).1 = [] ∧ (fk_tr D g 0).2.1 = [fk_F0 D g] ∧ (fk_tr D g 0).2.2.1 = 0 := ⟨rfl, rfl, rfl⟩
theorem fk_st29 {D : fk_D} {K : Nat → fk_K} {I : fm_MI} {J : fm_MJ} {G : fm_MG} {I' : fm_MI} {J' : fm_MJ} {G' : fm_MG} {f p : Nat} {ts : List Int32} {fs : List fk_F} {r : List fk_en'} {f0 : Nat} {I2 I3 : fm_MI} (pa pa' pb' : Nat × Nat) (h : fk_RR D K I J G I' J' G' ((f, p, ts, fs) :: r)) (hb0 : fk_bot f0 f r) (hp : p < D.2.2.2.2.2.1 f) (ho : D.2.2.2.2.2.2.1 f p = 29) (hA : fk_AD I I2 I' I3 r.length p) :
    fmM_step_p I2 J G pa ∧ fmD_perform_p I3 J' G' pa' pb' (Int32.ofNat f) (Int32.ofNat (D.2.2.2.2.2.2.1 f p)) (D.2.2.2.2.2.2.2 f p) (Int32.ofNat p) ∧ fk_nx D K f0 (I2 18 0 0) (fmM_step_f I2 J G pa) (fmD_perform_f I3 J' G' pa' pb' (Int32.ofNat f) (Int32.ofNat (D.2.2.2.2.2.2.1 f p)) (D.2.2.2.2.2.2.2 f p) (Int32.ofNat p)) := by
  obtain ⟨x, l, q, rfl, htr, hlv, hcc, hbs, hst, h30, ⟨g25, g26, g27⟩, hgd, h40, hop30, hwt⟩ := fk_pre h hp
  obtain ⟨⟨hc, hf, ht, hp0, h20, hl1, hl9⟩, ⟨⟨b1, b2, i5, i6⟩, ⟨c1, c2, c3, c4⟩, j29, j28, j30, j18⟩, hud, hpl, hop, hel, ⟨hex1, hex2⟩, hsc, hmD, hdk⟩ := fk_at h
  obtain ⟨m1, m2, m3, m4, m5, m6, m7⟩ := hdk f hf ht
  obtain ⟨A1, A2, A3, A4, A5⟩ := hA
  have hsc2 : fk_sc D K I2 := fk_sc_k hsc (fun k i s a b c => A1 k i s (by omega))
  obtain ⟨tm, hvi, hk', hbm, hcc'⟩ := fk_inv hdk hf ht hst (Or.inr ho) hlv hcc hbs
  rw [ho] at hvi hk'
  obtain ⟨w4, hth, ⟨ps, hps1, hps2, hps3⟩, hres⟩ := (show fk_wb (D.2.2.2.2.2.2.2 f p) 4 = true ∧ D.1 (D.2.2.2.2.2.2.2 f p).toNatClampNeg = true ∧ (∃ ps, ps.length = D.2.1 (D.2.2.2.2.2.2.2 f p).toNatClampNeg ∧ ts = ps ++ tm ∧ ∀ j, j < D.2.1 (D.2.2.2.2.2.2.2 f p).toNatClampNeg → ps[j]? = some (D.2.2.2.2.1 (D.2.2.2.2.2.2.2 f p).toNatClampNeg (D.2.1 (D.2.2.2.2.2.2.2 f p).toNatClampNeg - 1 - j))) ∧ ((D.2.2.2.1 (D.2.2.2.2.2.2.2 f p).toNatClampNeg = 4 ∧ (fk_tr D f (p + 1)).1 = tm) ∨ (D.2.2.2.1 (D.2.2.2.2.2.2.2 f p).toNatClampNeg ≠ 4 ∧ (fk_tr D f (p + 1)).1 = D.2.2.2.1 (D.2.2.2.2.2.2.2 f p).toNatClampNeg :: tm)) from hvi)
  obtain ⟨hg4, hga⟩ := fk_wbn w4
  generalize hgg : (D.2.2.2.2.2.2.2 f p).toNatClampNeg = g at hg4 hga hth hps1 hps3 hres
  obtain ⟨gm1, gm2, gm3, gm4, gm5, gm6, gm7⟩ := hdk g hg4 hth
  have hq : (fk_tr D f (p + 1)).2.2 = (fk_row (D.2.2.1 f) (Int32.ofNat 29) (D.2.2.2.2.2.2.2 f p) (tm, x :: l, q)).2.2 := by rw [hk']
  have hfs : (fk_tr D f (p + 1)).2.1 = x :: l := by rw [hk']
  obtain ⟨r1, r2, r3, r4, r5, r6, r7, r8, r9⟩ := fk_rowS hsc2 hf ht hp htr hlv (by omega) hq
  have hlen : ts.length = D.2.1 g + tm.length := by rw [hps2, List.length_append, hps1]
  have hrg : I2 18 0 6 + I2 9 f q.1 = Int32.ofNat (26 * r.length + D.2.2.1 f + tm.length) := by
    rw [A1 18 0 6 (by omega), i6, r5, fk_add]
    exact congrArg Int32.ofNat (by omega)
  have b2' : I2 23 0 r.length = Int32.ofNat q.1 := by rw [A1 23 0 _ (by omega), b2, htr]
  obtain ⟨-, -, s3⟩ := fk_stepC (J := J) (G := G) pa hc hf r1 (by omega) (by rw [A1 18 0 5 (by omega)]; exact i5) (by rw [A1 22 0 _ (by omega)]; exact b1) b2' r3 r4 hrg
  obtain ⟨z1, z2⟩ := s3 (by decide) (by decide)
  have v29 : vp_in (I3 24 0 29 - 1) 10 := by rw [A3 24 0 29 (by omega) (by omega), j29, fk_d (by omega)]; exact (fk_in (by omega)).mpr (by omega)
  have k29 : I3 24 0 29 = Int32.ofNat (r.length + 1) := by rw [A3 24 0 29 (by omega) (by omega)]; exact j29
  have eq : (Int32.ofNat q.1).toNatClampNeg = q.1 := fk_cl (by omega)
  have e7 : (fm_u I2 23 0 r.length (Int32.ofNat (q.1 + 1))) 7 f q.1 = 29 := by rw [fk_ne _ _ (by decide)]; exact r3
  have e8 : (fm_u I2 23 0 r.length (Int32.ofNat (q.1 + 1))) 8 f q.1 = Int32.ofNat g := by rw [fk_ne _ _ (by decide), r4]; exact hga
  have e5 : (fm_u I2 23 0 r.length (Int32.ofNat (q.1 + 1))) 18 0 5 = Int32.ofNat (r.length + 1) := by rw [fk_ne _ _ (by decide), A1 18 0 5 (by omega)]; exact i5
  have vq : vp_in (Int32.ofNat q.1) 40 := (fk_in (by omega)).mpr r1
  rw [ho]
  by_cases h8 : r.length + 1 = 8
  · have hgo : fmM_step_p I2 J G pa ∧ fmM_step_f I2 J G pa = (2, fm_u I2 23 0 r.length (Int32.ofNat (q.1 + 1)), J, G) := by
      rw [h8] at e5
      rw [z1, z2]
      have e5' : (fm_u I2 23 0 r.length (Int32.ofNat (q.1 + 1))) 18 0 5 = 8 := e5
      constructor <;> simp (config := {decide := true}) only [fmM_goOnElsewhere_p, fmM_goOnElsewhere_f, fmM_callFunction_p, fmM_callFunction_f, eq, e7, e8, e5', vq, fm_letE, ↓reduceIte, false_implies, true_implies, true_and, and_true, implies_true, not_true, not_false, and_self, not_true_eq_false, not_false_eq_true]
    have k29' : I3 24 0 29 = 8 := by rw [k29, h8]; rfl
    obtain ⟨P1, P2⟩ := fk_pe29 (I := I3) (J := J') (G := G') pa' pb' (Int32.ofNat f) (D.2.2.2.2.2.2.2 f p) (Int32.ofNat p) v29 ⟨fun _ => trivial, fun w => absurd k29' w⟩
    unfold fmD_enter_f at P2
    rw [if_pos k29', fm_letE] at P2
    refine ⟨hgo.1, P1, ?_⟩
    rw [hgo.2, P2]
    refine Or.inr (Or.inl ⟨Or.inl rfl, by dsimp only; rw [fk_u_eq]; rfl, ⟨?_, ?_⟩, hpl.2.2.2.2⟩)
    · dsimp only
      rw [fk_ne _ _ (by decide), fk_ne3 _ _ (by omega), A2, A5, hud.1]
    · dsimp only
      rw [fk_ne _ _ (by decide), fk_ne3 _ _ (by omega), A1 _ _ _ (by omega), A3 _ _ _ (by omega) (by omega), hud.2]
  · have hC1 : fk_mC (fm_u I2 23 0 r.length (Int32.ofNat (q.1 + 1))) D := fk_mC_fr hsc.1 (fun k i s a b => by rw [fk_ne3 _ _ (by omega), A1 k i s (by omega)])
    obtain ⟨en1, I4, J4, G4, en2, en3, en4, en5, en6, en7, en8, en9⟩ := fk_enC pa (I := fm_u I2 23 0 r.length (Int32.ofNat (q.1 + 1))) J G hg4 hth hC1 (d := r.length + 1) (by omega) e5
    have hC4 := (hC1 g hg4).2.2 hth
    obtain ⟨cl1, J5, G5, cl2, cl3⟩ := fk_clLC pa (g := g) (base := 26 * (r.length + 1)) (np := D.2.1 g) (rg := 26 * r.length + D.2.2.1 f + tm.length) hg4 (by omega) gm1 (by omega) 4 0 I4 J4 G4 en7 (by rw [en3 2 _ _ (by omega) (by omega)]; exact hC4.1) (by omega) (by omega)
    have n8 : ¬ Int32.ofNat (r.length + 1) = 8 := fun w => h8 ((fk_ie (b := 8) (by omega) (by omega)).mp w)
    have hgo : fmM_step_p I2 J G pa ∧ fmM_step_f I2 J G pa = (0, I4, J5, G5) := by
      rw [z1, z2]
      have cl1' : fmM_callFunction_L24_p 4 I4 J4 G4 pa (Int32.ofNat g) (Int32.ofNat (26 * r.length + D.2.2.1 f + tm.length)) 0 := cl1
      have cl2' : fmM_callFunction_L24_f 4 I4 J4 G4 pa (Int32.ofNat g) (Int32.ofNat (26 * r.length + D.2.2.1 f + tm.length)) 0 = (0, I4, J5, G5) := cl2
      constructor <;> simp (config := {decide := true}) only [fmM_goOnElsewhere_p, fmM_goOnElsewhere_f, fmM_callFunction_p, fmM_callFunction_f, eq, e7, e8, e5, n8, vq, en1, en2, cl1', cl2', fm_letE, fm_letT, ↓reduceIte, false_implies, true_implies, true_and, and_true, implies_true, not_true, not_false, and_self, not_true_eq_false, not_false_eq_true]
    have hmD3 : fk_mD I3 D := fk_mD_k hmD (fun k i s a b => A3 k i s (by omega) (by omega))
    have k28 : I3 24 0 28 = Int32.ofNat ((fk_ex D r).1 + D.2.2.1 f + tm.length + D.2.1 g) := by rw [A3 24 0 28 (by omega) (by omega), j28, hlen]; exact congrArg Int32.ofNat (by omega)
    obtain ⟨ed1, I6, J6, G6, ed2, ed3, ed4, ed5, ed6, ed7, ed8, ed9, ed10, ed11, ed12⟩ := fk_enD pa' pb' (I := I3) J' G' hg4 hth hdk hmD3 (d := r.length + 1) (top := (fk_ex D r).1 + D.2.2.1 f + tm.length) (by omega) k29 k28 (by omega)
    obtain ⟨P1, P2⟩ := fk_pe29 (I := I3) (J := J') (G := G') pa' pb' (Int32.ofNat f) (D.2.2.2.2.2.2.2 f p) (Int32.ofNat p) v29 (by rw [hga]; exact ed1)
    have P2' : fmD_perform_f I3 J' G' pa' pb' (Int32.ofNat f) (Int32.ofNat 29) (D.2.2.2.2.2.2.2 f p) (Int32.ofNat p) = (I6, J6, G6) := by
      rw [P2, hga, ed2]; rfl
    refine ⟨hgo.1, P1, ?_⟩
    rw [hgo.2, P2']
    have xI : ∀ k i s, (k = 22 → s ≠ r.length + 1) → (k = 23 → s ≠ r.length ∧ s ≠ r.length + 1) → (k = 18 → s ≠ 0 ∧ s ≠ 1 ∧ s ≠ 5 ∧ s ≠ 6) → I4 k i s = I k i s := fun k i s a b c => by
      rw [en3 k i s (by omega) (by omega), fk_ne3 _ _ (by omega), A1 k i s (by omega)]
    have yI : ∀ k i s, (k = 42 ∨ k = 44 ∨ k = 47 → s ≠ r.length + 1) → (k = 43 → s ≠ r.length ∧ s ≠ r.length + 1) → (k = 24 → s ≠ 28 ∧ s ≠ 29 ∧ s ≠ 31 ∧ s ≠ 32) → I6 k i s = I' k i s := fun k i s a b c => by
      rw [ed3 k i s (by omega) (by omega), A3 k i s (by omega) (by omega)]
    have hCl : ∀ n, n < 26 * (r.length + 1) → fk_cC J5 G5 n = fk_cC J G n := fun n hn => by
      rw [cl3 n, if_neg (by omega), en9 n, if_neg (by omega)]
    have hCh : ∀ n, 26 * (r.length + 1) + D.2.2.1 g ≤ n → fk_cC J5 G5 n = fk_cC J G n := fun n hn => by
      rw [cl3 n, if_neg (by omega), en9 n, if_neg (by omega)]
    have hEl : ∀ n, n < (fk_ex D r).1 + D.2.2.1 f + tm.length + D.2.1 g → fk_cD J6 G6 n = fk_cD J' G' n := fun n hn => by
      rw [ed11 n, if_neg (by omega)]
    obtain ⟨hvt, hvp⟩ := fk_vs_app (ps := ps) (tm := tm) (by rw [← hps2]; exact hpl.2.2.2.1)
    have hex : fk_ex D ((f, p + 1, tm, x :: l) :: r) = ((fk_ex D r).1 + D.2.2.1 f + tm.length, (fk_ex D r).2 + l.length) := rfl
    have h4u : I4 18 0 0 = I2 18 0 0 := by rw [en3 18 0 0 (by omega) (by omega), fk_ne _ _ (by decide)]
    have hE : fk_el D I4 I6 (fk_cC J5 G5) (fk_cD J6 G6) ((f, p + 1, tm, x :: l) :: r) := by
      refine ⟨⟨hf, ht, by omega, by omega, hl1, hl9⟩, ⟨?_, ?_⟩, ⟨?_, ?_, ?_, ?_⟩, fun j hj => ?_, ?_, ?_, ?_⟩
      · rw [xI 22 _ _ (by omega) (by omega) (by omega)]; exact b1
      · rw [en3 23 _ _ (by omega) (by omega), fk_u_eq, r2]
      · rw [yI 42 _ _ (by omega) (by omega) (by omega)]; exact c1
      · rw [ed3 43 _ _ (by omega) (by omega)]; exact A4
      · rw [yI 44 _ _ (by omega) (by omega) (by omega)]; exact c3
      · rw [yI 47 _ _ (by omega) (by omega) (by omega)]; exact c4
      · rw [hCl _ (by omega), hEl _ (by omega)]; exact hpl.2.2.1 j hj
      · exact fk_vs_c (fun j hj => hCl _ (by omega)) (fun j hj => hEl _ (by omega)) hvt
      · refine fk_op_c (fun j hj => ?_) hop
        rw [yI 45 _ _ (by omega) (by omega) (by omega), yI 46 _ _ (by omega) (by omega) (by omega)]
        exact ⟨rfl, rfl⟩
      · exact fk_el_c hdk (fun k s a b => xI k 0 s (by omega) (by omega) (by omega)) (fun k s a b => yI k 0 s (by omega) (by omega) (by omega)) (fun k s a b => yI k 0 s (by omega) (by omega) (by omega)) (fun n hn => hCl n (by omega)) (fun n hn => hEl n (by omega)) hel
    refine Or.inl ⟨rfl, h4u, g, 0, [], [fk_F0 D g], (f, p + 1, tm, x :: l) :: r, hb0, ?_⟩
    dsimp only
    refine ⟨⟨⟨⟨hg4, hth, by omega, by simp, by simp, by simp⟩, ⟨en4, en5⟩, ⟨ed4, ed5, ed6, ?_⟩, fun j hj => ?_, trivial, ⟨fun w => absurd rfl w, trivial⟩, hE⟩, ?_, en6, fun _ => en7, ed8, ?_, ?_, ?_, ?_, ?_, fun gg hgg => ?_⟩, ?_, ?_, ⟨rfl, rfl, rfl⟩, ⟨⟨by omega, by rw [hfs]; exact hlv, hfs, hres, by omega, ?_⟩, hwt⟩⟩
    · refine ed7.trans ?_
      rw [A3 24 0 30 (by omega) (by omega), j30, hex]; rfl
    · show fk_V (D.2.2.2.2.1 g j) (fk_cC J5 G5 (26 * (r.length + 1) + j)) (fk_cD J6 G6 ((fk_ex D r).1 + D.2.2.1 f + tm.length + j))
      by_cases hjn : j < D.2.1 g
      · rw [cl3 _, if_pos (by omega), en9 _, if_neg (by omega), hEl _ (by omega)]
        have := hvp (D.2.1 g - 1 - j) (D.2.2.2.2.1 g j) (by rw [hps3 _ (by omega)]; exact congrArg some (congrArg (D.2.2.2.2.1 g) (by omega)))
        rw [hps1] at this
        have e1 : 26 * r.length + D.2.2.1 f + tm.length + (26 * (r.length + 1) + j - 26 * (r.length + 1)) = 26 * r.length + D.2.2.1 f + tm.length + (D.2.1 g - 1 - (D.2.1 g - 1 - j)) := by omega
        have e2 : (fk_ex D r).1 + D.2.2.1 f + tm.length + j = (fk_ex D r).1 + D.2.2.1 f + tm.length + (D.2.1 g - 1 - (D.2.1 g - 1 - j)) := by omega
        rw [e1, e2]
        exact this
      · rw [cl3 _, if_neg (by omega), en9 _, if_pos (by omega), ed11 _, if_pos (by omega)]
        exact fk_Vz _
    · simp only [List.length_cons]; omega
    · rw [ed9]; rfl
    · rw [yI 24 0 30 (by omega) (by omega) (by omega), j30]; rfl
    · rw [yI 24 0 18 (by omega) (by omega) (by omega)]; exact j18
    · rw [h4u, ed3 24 0 31 (by omega) (by omega), A2, A5, hud.1]
    · rw [en8, ed10, fk_ne _ _ (by decide), A1 18 0 1 (by omega), A3 24 0 32 (by omega) (by omega), hud.2]
      exact fk_mxe
    · rw [hCh _ (by omega), ed12]; exact hpl.2.2.2.2 gg hgg
    · exact fk_sc_k hsc (fun k i s a b c => xI k i s (by omega) (by omega) (by omega))
    · exact fk_mD_k hmD (fun k i s a b => yI k i s (by omega) (by omega) (by omega))
    · rw [r2]; exact r8
theorem fk_step (HF : fk_FL) {D : fk_D} {K : Nat → fk_K} {I : fm_MI} {J : fm_MJ} {G : fm_MG} {I' : fm_MI} {J' : fm_MJ} {G' : fm_MG} {f p : Nat} {ts : List Int32} {fs : List fk_F} {r : List fk_en'} {f0 : Nat} {I2 I3 : fm_MI} (pa pa' pb' : Nat × Nat) (h : fk_RR D K I J G I' J' G' ((f, p, ts, fs) :: r)) (hb0 : fk_bot f0 f r) (hp : p < D.2.2.2.2.2.1 f) (ho : D.2.2.2.2.2.2.1 f p ≠ 21 ∧ D.2.2.2.2.2.2.1 f p ≠ 22 ∧ D.2.2.2.2.2.2.1 f p ≠ 25) (hA : fk_AD I I2 I' I3 r.length p) :
    fmM_step_p I2 J G pa ∧ fmD_perform_p I3 J' G' pa' pb' (Int32.ofNat f) (Int32.ofNat (D.2.2.2.2.2.2.1 f p)) (D.2.2.2.2.2.2.2 f p) (Int32.ofNat p) ∧ fk_nx D K f0 (I2 18 0 0) (fmM_step_f I2 J G pa) (fmD_perform_f I3 J' G' pa' pb' (Int32.ofNat f) (Int32.ofNat (D.2.2.2.2.2.2.1 f p)) (D.2.2.2.2.2.2.2 f p) (Int32.ofNat p)) := by
  have h30 : D.2.2.2.2.2.2.1 f p ≤ 30 := by
    obtain ⟨x, l, q, -, -, -, -, -, -, w, -⟩ := fk_pre h hp
    exact w
  rcases (show D.2.2.2.2.2.2.1 f p ≤ 20 ∨ D.2.2.2.2.2.2.1 f p = 23 ∨ D.2.2.2.2.2.2.1 f p = 24 ∨ D.2.2.2.2.2.2.1 f p = 26 ∨ D.2.2.2.2.2.2.1 f p = 27 ∨ D.2.2.2.2.2.2.1 f p = 28 ∨ D.2.2.2.2.2.2.1 f p = 29 ∨ D.2.2.2.2.2.2.1 f p = 30 by omega) with w | w | w | w | w | w | w | w
  · exact fk_st20 HF pa pa' pb' h hb0 hp w hA
  · exact fk_st23 pa pa' pb' h hb0 hp w hA
  · exact fk_st24 pa pa' pb' h hb0 hp w hA
  · exact fk_st26 pa pa' pb' h hb0 hp w hA
  · exact fk_st27 pa pa' pb' h hb0 hp w hA
  · exact fk_st28 pa pa' pb' h hb0 hp w hA
  · exact fk_st29 pa pa' pb' h hb0 hp w hA
  · exact fk_st30 pa pa' pb' h hp w hA
def fk_done (D : fk_D) (f0 : Nat) (S : Nat × fm_MI × fm_MJ × fm_MG) (Y : fm_MI × fm_MJ × fm_MG) : Prop := Y.1 24 0 18 = Int32.ofNat S.1 ∧ (S.1 = 0 ∨ S.1 = 2 ∨ S.1 = 3 ∨ S.1 = 4) ∧ fk_ud S.2.1 Y.1 ∧ fk_gl S.2.2.1 S.2.2.2 Y.2.1 Y.2.2 ∧ (S.1 = 0 → D.2.2.2.1 f0 ≠ 4 → fk_V (D.2.2.2.1 f0) (fk_cC S.2.2.1 S.2.2.2 (D.2.2.1 f0)) (fk_cD Y.2.1 Y.2.2 0))
def fk_ph : List fk_en' → Nat
  | [] => 0
  | (_, p, _, _) :: r => (41 - p) + fk_ph r
theorem fk_ph_le {D : fk_D} {I I' : fm_MI} {C E : Nat → fk_cell} (hdk : fk_dk D) : ∀ {es : List fk_en'}, fk_el D I I' C E es → fk_ph es ≤ 41 * es.length
  | [], _ => Nat.le_refl _
  | (f, p, ts, fs) :: r, ⟨_, _, _, _, _, _, rest⟩ => by
    have := fk_ph_le hdk rest
    show (41 - p) + fk_ph r ≤ 41 * (r.length + 1)
    omega
theorem fk_RR_ph {D : fk_D} {K : Nat → fk_K} {I : fm_MI} {J : fm_MJ} {G : fm_MG} {I' : fm_MI} {J' : fm_MJ} {G' : fm_MG} {es : List fk_en'} (h : fk_RR D K I J G I' J' G' es) : fk_ph es ≤ 328 := by
  have := fk_ph_le (fk_dk_of h.2.1.1) h.1.1
  have := h.1.2.1
  omega
theorem fk_lvG {D : fk_D} {K : Nat → fk_K} {I : fm_MI} {J : fm_MJ} {G : fm_MG} {I' : fm_MI} {J' : fm_MJ} {G' : fm_MG} {f f0 n m T : Nat} {r : List fk_en'} (pa pa' pb' : Nat × Nat) {fu : Int32} (hn : 1 ≤ n) (hm : 1 ≤ m) (h : fk_RL D K f r I J G I' J' G' T) (hb : fk_bot f0 f r)
    (hk : ∀ (g p : Nat) (ts : List Int32) (fs : List fk_F) (r' : List fk_en') (ts' : List Int32) (x y : fm_MI × fm_MJ × fm_MG), r = (g, p, ts, fs) :: r' → fk_RR D K x.1 x.2.1 x.2.2 y.1 y.2.1 y.2.2 ((g, p, ts', fs) :: r') → x.1 18 0 0 = I 18 0 0 → fk_Wp n x.1 x.2.1 x.2.2 pa fu ∧ fmD_go_L0_p m y.1 y.2.1 y.2.2 pa' pb' fu ∧ fk_done D f0 (fk_Wf n x.1 x.2.1 x.2.2 pa fu) (fmD_go_L0_f m y.1 y.2.1 y.2.2 pa' pb' fu)) {y : fm_MI × fm_MJ × fm_MG} (hy : y = fmD_leave_f I' J' G' (Int32.ofNat f)) :
    fk_Wp n I J G pa fu ∧ fmD_leave_p I' J' G' (Int32.ofNat f) ∧ fmD_go_L0_p m y.1 y.2.1 y.2.2 pa' pb' fu ∧ fk_done D f0 (fk_Wf n I J G pa fu) (fmD_go_L0_f m y.1 y.2.1 y.2.2 pa' pb' fu) := by
  obtain ⟨x, hx⟩ : ∃ x, x = if r.length = 0 then (fm_u I 18 0 5 (Int32.ofNat r.length), J, G) else fmM_backToCaller_f (fm_u I 18 0 5 (Int32.ofNat r.length)) J G f := ⟨_, rfl⟩
  obtain ⟨L1, L2, L3, L4, L5⟩ := fk_lvJ h hx hy
  have xu : x.1 18 0 0 = I 18 0 0 := by
    rw [hx]
    split
    · dsimp only; rw [fk_ne3 _ _ (by omega)]
    · rw [fk_back5, fk_ne3 _ _ (by omega), fk_ne3 _ _ (by omega)]
  have hmain : fk_Wp n x.1 x.2.1 x.2.2 pa fu ∧ fmD_go_L0_p m y.1 y.2.1 y.2.2 pa' pb' fu ∧ fk_done D f0 (fk_Wf n x.1 x.2.1 x.2.2 pa fu) (fmD_go_L0_f m y.1 y.2.1 y.2.2 pa' pb' fu) := by
    cases hr : r with
    | nil =>
      obtain ⟨q1, q2, q3, q4, q5, q6⟩ := L4 hr
      obtain ⟨n', rfl⟩ : ∃ n', n = n' + 1 := ⟨n - 1, by omega⟩
      obtain ⟨m', rfl⟩ : ∃ m', m = m' + 1 := ⟨m - 1, by omega⟩
      obtain ⟨w1, w2⟩ := fk_W0 (J := x.2.1) (G := x.2.2) (pa := pa) (fu := fu) (n := n') q1
      obtain ⟨g1, g2⟩ := fk_goZ (I := y.1) (J := y.2.1) (G := y.2.2) (pa := pa') (pb := pb') (fu := fu) (n := m') (Or.inl q2)
      refine ⟨w1, g1, ?_⟩
      rw [w2, g2]
      rw [hr] at hb
      have hff : f = f0 := hb
      subst hff
      exact ⟨q3, Or.inl rfl, q4, q5, fun _ => q6⟩
    | cons e r' =>
      obtain ⟨g, p, ts, fs⟩ := e
      exact hk g p ts fs r' _ x y hr (L5 g p ts fs r' hr) xu
  obtain ⟨w1, w2⟩ := fk_WL L2 (Nat.le_refl _) L1 hx hmain.1
  refine ⟨w1, L3, hmain.2.1, ?_⟩
  rw [w2]
  exact hmain.2.2
theorem fk_bot_c {f0 g p : Nat} {ts : List Int32} {fs : List fk_F} {r r' : List fk_en'} {f : Nat} (h : fk_bot f0 f r) (hr : r = (g, p, ts, fs) :: r') : fk_bot f0 g r' := by
  rw [hr] at h
  exact h
set_option maxHeartbeats 4000000 in
set_option maxRecDepth 100000 in
theorem fk_sim (HF : fk_FL) {D : fk_D} {K : Nat → fk_K} {f0 fl : Nat} (hfl : fl ≤ 100000) (pa pa' pb' : Nat × Nat) : ∀ (N u f p : Nat) (ts : List Int32) (fs : List fk_F) (r : List fk_en') (I : fm_MI) (J : fm_MJ) (G : fm_MG) (I' : fm_MI) (J' : fm_MJ) (G' : fm_MG) (nC nR : Nat), fk_RR D K I J G I' J' G' ((f, p, ts, fs) :: r) → fk_bot f0 f r → I 18 0 0 = Int32.ofNat u → u ≤ fl → (fl - u) * 400 + fk_ph ((f, p, ts, fs) :: r) ≤ N → fl - u + 1 ≤ nC → N + 2 ≤ nR →
    fk_Wp nC I J G pa (Int32.ofNat fl) ∧ fmD_go_L0_p nR I' J' G' pa' pb' (Int32.ofNat fl) ∧ fk_done D f0 (fk_Wf nC I J G pa (Int32.ofNat fl)) (fmD_go_L0_f nR I' J' G' pa' pb' (Int32.ofNat fl)) := by
  intro N
  induction N using Nat.strongRecOn with
  | ind N ih =>
    intro u f p ts fs r I J G I' J' G' nC nR h hb hu hul hN hnC hnR
    have hRR := h
    obtain ⟨⟨hc, hf, ht, hp0, h20, hl1, hl9⟩, ⟨⟨b1, b2, i5, i6⟩, ⟨c1, c2, c3, c4⟩, j29, j28, j30, j18⟩, hud, hpl, hop, hel, ⟨hex1, hex2⟩, hsc, hmD, hdk⟩ := fk_at h
    obtain ⟨m1, m2, m3, m4, m5, m6, m7⟩ := hdk f hf ht
    obtain ⟨hgd, k6, k40, krw⟩ := hsc.2 f hf ht
    have hph : fk_ph ((f, p, ts, fs) :: r) = (41 - p) + fk_ph r := rfl
    have hgh : fk_gh I' r.length f p := ⟨hc, hf, j29, j18, c1, c2⟩
    obtain ⟨nR', rfl⟩ : ∃ nR', nR = nR' + 1 := ⟨nR - 1, by omega⟩
    obtain ⟨nC', rfl⟩ : ∃ nC', nC = nC' + 1 := ⟨nC - 1, by omega⟩
    have g27 : I' 27 0 f = Int32.ofNat (D.2.2.2.2.2.1 f) := ((hmD f hf).2 ht).2.2.2.1
    by_cases hp : p < D.2.2.2.2.2.1 f
    · obtain ⟨x, l, q, hfs, htr, hlv, hcc, hbs, hst, h30, ⟨g25, g26, -⟩, -, h40, hop30, hwt⟩ := fk_pre h hp
      by_cases hfree : D.2.2.2.2.2.2.1 f p = 21 ∨ D.2.2.2.2.2.2.1 f p = 22 ∨ D.2.2.2.2.2.2.1 f p = 25
      · obtain ⟨y, hy⟩ : ∃ y, y = fmD_perform_f (fm_u I' 43 0 r.length (Int32.ofNat (p + 1))) J' G' pa' pb' (Int32.ofNat f) (Int32.ofNat (D.2.2.2.2.2.2.1 f p)) (D.2.2.2.2.2.2.2 f p) (Int32.ofNat p) := ⟨_, rfl⟩
        obtain ⟨P1, ts', fs', P2⟩ := fk_free pa' pb' hRR hp hfree rfl hy
        have hph' : fk_ph ((f, p + 1, ts', fs') :: r) = (41 - (p + 1)) + fk_ph r := rfl
        obtain ⟨q1, q2, q3⟩ := ih (N - 1) (by omega) u f (p + 1) ts' fs' r I J G y.1 y.2.1 y.2.2 (nC' + 1) nR' P2 hb hu hul (by omega) hnC (by omega)
        rw [hy] at q2
        obtain ⟨g1, g2⟩ := fk_goF (J := J') (G := G') (fu := Int32.ofNat fl) (n := nR') hgh g27 m5 hp g25 g26 hfree P1 q2
        refine ⟨q1, g1, ?_⟩
        rw [g2, ← hy]
        exact q3
      · have ho : ¬ Int32.ofNat (D.2.2.2.2.2.2.1 f p) = 21 ∧ ¬ Int32.ofNat (D.2.2.2.2.2.2.1 f p) = 22 ∧ ¬ Int32.ofNat (D.2.2.2.2.2.2.1 f p) = 25 := by
          refine ⟨fun w => ?_, fun w => ?_, fun w => ?_⟩
          · have := (fk_ie (b := 21) (by omega) (by omega)).mp w; omega
          · have := (fk_ie (b := 22) (by omega) (by omega)).mp w; omega
          · have := (fk_ie (b := 25) (by omega) (by omega)).mp w; omega
        obtain ⟨a1, a2, a3, -⟩ := fk_rowC hsc hf ht hp (by rw [htr]; exact hlv) (by omega)
        rw [htr] at a1 a3 b2
        dsimp only at a1 a3 b2
        have hch : fk_ch I r.length f q.1 (K f).2.2.1 := ⟨hc, hf, i5, b1, b2, k6, by omega, by omega⟩
        by_cases huf : u = fl
        · obtain ⟨w1, w2⟩ := fk_WU (J := J) (G := G) (pa := pa) (fu := Int32.ofNat fl) (n := nC') hch a3 (by rw [hu, huf]; exact (fk_le (by omega) (by omega)).mpr (Nat.le_refl _))
          obtain ⟨g1, g2⟩ := fk_goU (J := J') (G := G') (pa := pa') (pb := pb') (fu := Int32.ofNat fl) (n := nR') hgh g27 m5 hp g25 ho (by rw [← hud.1, hu, huf])
          refine ⟨w1, g1, ?_⟩
          rw [w2, g2]
          refine ⟨by dsimp only; rw [fk_u_eq]; rfl, Or.inr (Or.inl rfl), ⟨?_, ?_⟩, hpl.2.2.2.2, fun w => absurd (show (2 : Nat) = 0 from w) (by decide)⟩
          · dsimp only; rw [fk_ne3 _ _ (by omega)]; exact hud.1
          · dsimp only; rw [fk_ne3 _ _ (by omega)]; exact hud.2
        · obtain ⟨I2, hI2⟩ : ∃ I2, I2 = fm_u I 18 0 0 (I 18 0 0 + 1) := ⟨_, rfl⟩
          obtain ⟨I3, hI3⟩ : ∃ I3, I3 = fm_u (fm_u I' 24 0 31 (I' 24 0 31 + 1)) 43 0 r.length (Int32.ofNat (p + 1)) := ⟨_, rfl⟩
          have hA : fk_AD I I2 I' I3 r.length p := by rw [hI2, hI3]; exact fk_AD_mk I I' r.length p
          obtain ⟨S, hS⟩ : ∃ S, S = fmM_step_f I2 J G pa := ⟨_, rfl⟩
          obtain ⟨Y, hY⟩ : ∃ Y, Y = fmD_perform_f I3 J' G' pa' pb' (Int32.ofNat f) (Int32.ofNat (D.2.2.2.2.2.2.1 f p)) (D.2.2.2.2.2.2.2 f p) (Int32.ofNat p) := ⟨_, rfl⟩
          obtain ⟨T1, T2, T3⟩ := fk_step HF pa pa' pb' hRR hb hp (by omega) hA
          rw [← hS, ← hY] at T3
          have hu2 : I2 18 0 0 = Int32.ofNat (u + 1) := by rw [hA.2.1, hu, fk_s]
          rw [hu2] at T3
          have hnf : ¬ Int32.ofNat fl ≤ I 18 0 0 := by
            rw [hu]
            intro w
            have := (fk_le (by omega) (by omega)).mp w
            omega
          have hnf' : ¬ I' 24 0 31 = Int32.ofNat fl := by
            rw [← hud.1, hu]
            intro w
            have := (fk_ie (by omega) (by omega)).mp w
            omega
          have key : (S.1 = 0 → fk_Wp nC' S.2.1 S.2.2.1 S.2.2.2 pa (Int32.ofNat fl)) ∧ fmD_go_L0_p nR' Y.1 Y.2.1 Y.2.2 pa' pb' (Int32.ofNat fl) ∧ fk_done D f0 (if S.1 = 0 then fk_Wf nC' S.2.1 S.2.2.1 S.2.2.2 pa (Int32.ofNat fl) else S) (fmD_go_L0_f nR' Y.1 Y.2.1 Y.2.2 pa' pb' (Int32.ofNat fl)) := by
            have hmul : (fl - (u + 1)) * 400 + 400 = (fl - u) * 400 := by
              have : fl - u = fl - (u + 1) + 1 := by omega
              rw [this, Nat.add_mul]
            rcases T3 with ⟨e0, e1, f', p', ts', fs', r', e2, e3⟩ | ⟨e0, e1, e2, e3⟩ | ⟨e0, e1, f', r', T, Z, e2, e3, e4⟩
            · have hb3 := fk_RR_ph e3
              obtain ⟨q1, q2, q3⟩ := ih (N - 1) (by omega) (u + 1) f' p' ts' fs' r' S.2.1 S.2.2.1 S.2.2.2 Y.1 Y.2.1 Y.2.2 nC' nR' e3 e2 e1 (by omega) (by omega) (by omega) (by omega)
              refine ⟨fun _ => q1, q2, ?_⟩
              rw [if_pos e0]
              exact q3
            · have hne : ¬ S.1 = 0 := by omega
              obtain ⟨nR'', rfl⟩ : ∃ nR'', nR' = nR'' + 1 := ⟨nR' - 1, by omega⟩
              obtain ⟨g1, g2⟩ := fk_goZ (I := Y.1) (J := Y.2.1) (G := Y.2.2) (pa := pa') (pb := pb') (fu := Int32.ofNat fl) (n := nR'') (Or.inr (by
                rw [e1]
                intro w
                have := (fk_ie (b := 0) (by omega) (by omega)).mp w
                omega))
              refine ⟨fun w => absurd w hne, g1, ?_⟩
              rw [if_neg hne, g2]
              exact ⟨e1, Or.inr e0, e2, e3, fun w => absurd w hne⟩
            ·
              have hk : ∀ (m : Nat), nR' ≤ m + 1 → ∀ (g p : Nat) (ts : List Int32) (fs : List fk_F) (r'' : List fk_en') (ts' : List Int32) (x y : fm_MI × fm_MJ × fm_MG), r' = (g, p, ts, fs) :: r'' → fk_RR D K x.1 x.2.1 x.2.2 y.1 y.2.1 y.2.2 ((g, p, ts', fs) :: r'') → x.1 18 0 0 = S.2.1 18 0 0 → fk_Wp nC' x.1 x.2.1 x.2.2 pa (Int32.ofNat fl) ∧ fmD_go_L0_p m y.1 y.2.1 y.2.2 pa' pb' (Int32.ofNat fl) ∧ fk_done D f0 (fk_Wf nC' x.1 x.2.1 x.2.2 pa (Int32.ofNat fl)) (fmD_go_L0_f m y.1 y.2.1 y.2.2 pa' pb' (Int32.ofNat fl)) := by
                intro m hm g p ts fs r'' ts' x y hr' hR hxu
                have hb3 := fk_RR_ph hR
                exact ih (N - 2) (by omega) (u + 1) g p ts' fs r'' x.1 x.2.1 x.2.2 y.1 y.2.1 y.2.2 nC' m hR (fk_bot_c e2 hr') (hxu.trans e1) (by omega) (by omega) (by omega) (by omega)
              rcases e4 with e4 | ⟨e4, e5⟩
              · obtain ⟨q1, q2, q3, q4⟩ := fk_lvG pa pa' pb' (fu := Int32.ofNat fl) (n := nC') (m := nR') (by omega) (by omega) e3 e2 (hk nR' (by omega)) e4
                refine ⟨fun _ => q1, q3, ?_⟩
                rw [if_pos e0]
                exact q4
              · subst e4
                obtain ⟨nR'', rfl⟩ : ∃ nR'', nR' = nR'' + 1 := ⟨nR' - 1, by omega⟩
                obtain ⟨y, hy⟩ : ∃ y, y = fmD_leave_f Y.1 Y.2.1 Y.2.2 (Int32.ofNat f') := ⟨_, rfl⟩
                obtain ⟨q1, q2, q3, q4⟩ := fk_lvG pa pa' pb' (fu := Int32.ofNat fl) (n := nC') (m := nR'') (by omega) (by omega) e3 e2 (hk nR'' (by omega)) hy
                obtain ⟨⟨l1, l2, l3⟩, -, -, -, ⟨l4, -, -⟩, ⟨l5, -, l6⟩, -, -, -, lsc, lmD⟩ := e3
                have ldk := fk_dk_of lsc.1
                rw [hy] at q3
                obtain ⟨g1, g2⟩ := fk_goL (I := Y.1) (J := Y.2.1) (G := Y.2.2) (pa := pa') (pb := pb') (fu := Int32.ofNat fl) (n := nR'') (p := D.2.2.2.2.2.1 f') ⟨l1, l2, l5, l6, l4, e5⟩ ((lmD f' l2).2 l3).2.2.2.1 (ldk f' l2 l3).2.2.2.2.1 (Nat.le_refl _) (ldk f' l2 l3).2.2.2.2.1 q2 q3
                refine ⟨fun _ => q1, g1, ?_⟩
                rw [if_pos e0, g2, ← hy]
                exact q4
          obtain ⟨k1, k2, k3⟩ := key
          rw [hI2] at T1 hS
          obtain ⟨w1, w2⟩ := fk_WS (fu := Int32.ofNat fl) (n := nC') hch a3 hnf hS T1 k1
          rw [hI3] at T2 hY
          rw [hY] at k2
          obtain ⟨g1, g2⟩ := fk_goN (J := J') (G := G') (fu := Int32.ofNat fl) (n := nR') hgh g27 m5 hp g25 g26 ho hnf' T2 k2
          refine ⟨w1, g1, ?_⟩
          rw [w2, g2, ← hY]
          exact k3
    · obtain ⟨T, hRL, hpe⟩ := fk_atend hRR hp
      obtain ⟨y, hy⟩ : ∃ y, y = fmD_leave_f I' J' G' (Int32.ofNat f) := ⟨_, rfl⟩
      obtain ⟨q1, q2, q3, q4⟩ := fk_lvG pa pa' pb' (fu := Int32.ofNat fl) (n := nC' + 1) (m := nR') (by omega) (by omega) hRL hb (fun g p' ts' fs' r'' ts'' x y hr' hR hxu => by
        have hph2 : fk_ph r = (41 - p') + fk_ph r'' := by rw [hr']; rfl
        have hph3 : fk_ph ((g, p', ts'', fs') :: r'') = (41 - p') + fk_ph r'' := rfl
        exact ih (N - 1) (by omega) u g p' ts'' fs' r'' x.1 x.2.1 x.2.2 y.1 y.2.1 y.2.2 (nC' + 1) nR' hR (fk_bot_c hb hr') (hxu.trans hu) hul (by omega) hnC (by omega)) hy
      rw [hy] at q3
      obtain ⟨g1, g2⟩ := fk_goL (J := J') (G := G') (pa := pa') (pb := pb') (fu := Int32.ofNat fl) (n := nR') hgh g27 m5 (by omega) (by omega) q2 q3
      refine ⟨q1, g1, ?_⟩
      rw [g2, ← hy]
      exact q4
