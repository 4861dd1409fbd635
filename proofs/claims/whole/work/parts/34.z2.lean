theorem fk_and3 (y : Int32) : fk_wb (y &&& 3) 4 = true := by
  have h : (y &&& 3).toBitVec.toNat ≤ 3 := by
    rw [Int32.toBitVec_and, BitVec.toNat_and]
    exact Nat.and_le_right
  have h2 : y &&& 3 = Int32.ofNat (y &&& 3).toBitVec.toNat := by
    apply Int32.toBitVec_inj.mp
    rw [Int32.toBitVec_ofNat']
    simp
  have : ∀ k, k ≤ 3 → fk_wb (Int32.ofNat k) 4 = true := fun k hk => fk_wb_o hk
  rw [h2]
  exact this _ h
def fk_tyOf (tp : Int32) (j : Nat) : Int32 := (tp >>> ((2 * Int32.ofNat j) &&& 31)) &&& 3
theorem fk_dcL (J : fm_MJ) (G : fm_MG) (pa pb : Nat × Nat) (n m tp rs : Int32) {g nl : Nat} (hnl : nl ≤ 6) : ∀ (q j : Nat) (I : fm_MI), I 2 g 2 = Int32.ofNat nl → j ≤ nl → nl - j < q →
    fmU_declare_L31_p q I J G pa pb g n m tp rs (Int32.ofNat j) ∧ ∃ I1, fmU_declare_L31_f q I J G pa pb g n m tp rs (Int32.ofNat j) = I1 ∧ ∀ k i s, I1 k i s = if k = 3 ∧ i = g ∧ j ≤ s ∧ s < nl then fk_tyOf tp s else I k i s
  | 0, j, I, _, _, h => absurd h (Nat.not_lt_zero _)
  | q + 1, j, I, h2, hj, hq => by
    unfold fmU_declare_L31_p fmU_declare_L31_f
    rw [h2]
    by_cases hle : nl ≤ j
    · have h1 : Int32.ofNat nl ≤ Int32.ofNat j := (fk_le (by omega) (by omega)).mpr hle
      rw [if_pos h1]
      refine ⟨⟨fun _ => trivial, fun w => absurd h1 w⟩, I, rfl, fun k i s => ?_⟩
      rw [if_neg (by omega)]
    · have h1 : ¬ Int32.ofNat nl ≤ Int32.ofNat j := fun w => hle ((fk_le (by omega) (by omega)).mp w)
      have cj : (Int32.ofNat j).toNatClampNeg = j := fk_cl (by omega)
      have vj : vp_in (Int32.ofNat j) 6 := (fk_in (by omega)).mpr (by omega)
      rw [if_neg h1, cj, fk_s]
      obtain ⟨i1, I1, i2, i3⟩ := fk_dcL J G pa pb n m tp rs hnl q (j + 1) (fm_u I 3 g j (fk_tyOf tp j)) (by rw [fk_ne _ _ (by decide)]; exact h2) (by omega) (by omega)
      refine ⟨⟨fun w => absurd w h1, fun _ => ⟨vj, i1⟩⟩, I1, i2, fun k i s => ?_⟩
      rw [i3 k i s, fm_u_if]
      by_cases e : k = 3 ∧ i = g ∧ s = j
      · obtain ⟨rfl, rfl, rfl⟩ := e
        rw [if_neg (by omega), if_pos ⟨rfl, rfl, rfl⟩, if_pos (by omega)]
      · rw [if_neg e]
        by_cases e2 : k = 3 ∧ i = g ∧ j + 1 ≤ s ∧ s < nl
        · rw [if_pos e2, if_pos (by omega)]
        · rw [if_neg e2, if_neg (by omega)]
theorem fk_fnL (J : fm_MJ) (G : fm_MG) (pa pb : Nat × Nat) (tp rs : Int32) {g a b : Nat} (hg : g < 4) (hab : a + b ≤ 6) : ∀ (q j : Nat) (I : fm_MI), j ≤ a + b → a + b - j < q →
    fmD_function_L91_p q I J G pa pb (Int32.ofNat g) (Int32.ofNat a) (Int32.ofNat b) tp rs (Int32.ofNat j) ∧ ∃ I1, fmD_function_L91_f q I J G pa pb (Int32.ofNat g) (Int32.ofNat a) (Int32.ofNat b) tp rs (Int32.ofNat j) = fm_u I1 24 0 19 0 ∧ ∀ k i s, I1 k i s = if k = 30 ∧ i = 0 ∧ g * 6 + j ≤ s ∧ s < g * 6 + (a + b) then fk_tyOf tp (s - g * 6) else I k i s
  | 0, j, I, _, h => absurd h (Nat.not_lt_zero _)
  | q + 1, j, I, hj, hq => by
    unfold fmD_function_L91_p fmD_function_L91_f
    rw [fk_add]
    by_cases hle : a + b ≤ j
    · have h1 : Int32.ofNat (a + b) ≤ Int32.ofNat j := (fk_le (by omega) (by omega)).mpr hle
      rw [if_pos h1]
      refine ⟨⟨fun _ => trivial, fun w => absurd h1 w⟩, I, rfl, fun k i s => ?_⟩
      rw [if_neg (by omega)]
    · have h1 : ¬ Int32.ofNat (a + b) ≤ Int32.ofNat j := fun w => hle ((fk_le (by omega) (by omega)).mp w)
      have e6 : Int32.ofNat g * 6 + Int32.ofNat j = Int32.ofNat (g * 6 + j) := by
        rw [show (6 : Int32) = Int32.ofNat 6 from rfl, ← Int32.ofNat_mul, fk_add]
      have c6 : (Int32.ofNat (g * 6 + j)).toNatClampNeg = g * 6 + j := fk_cl (by omega)
      have v6 : vp_in (Int32.ofNat (g * 6 + j)) 24 := (fk_in (by omega)).mpr (by omega)
      rw [if_neg h1, e6, c6, fk_s]
      obtain ⟨i1, I1, i2, i3⟩ := fk_fnL J G pa pb tp rs hg hab q (j + 1) (fm_u I 30 0 (g * 6 + j) (fk_tyOf tp j)) (by omega) (by omega)
      refine ⟨⟨fun w => absurd w h1, fun _ => ⟨v6, i1⟩⟩, I1, i2, fun k i s => ?_⟩
      rw [i3 k i s, fm_u_if]
      by_cases e : k = 30 ∧ i = 0 ∧ s = g * 6 + j
      · obtain ⟨rfl, rfl, rfl⟩ := e
        rw [if_neg (by omega), if_pos ⟨rfl, rfl, rfl⟩, if_pos (by omega), show g * 6 + j - g * 6 = j by omega]
      · rw [if_neg e]
        by_cases e2 : k = 30 ∧ i = 0 ∧ g * 6 + (j + 1) ≤ s ∧ s < g * 6 + (a + b)
        · rw [if_pos e2, if_pos (by omega)]
        · rw [if_neg e2, if_neg (by omega)]
theorem fk_opF {D : fk_D} {I : fm_MI} {J : fm_MJ} {G : fm_MG} (pa pb : Nat × Nat) (h : fk_iv D I J G) (f n m tp rs : Int32) : fmF_function_p I J G pa pb f n m tp rs ∧ (fmF_function_f I J G pa pb f n m tp rs).1 ≤ 1 ∧ fmD_function_p (fmF_function_f I J G pa pb f n m tp rs).2 J G pa pb f n m tp rs ∧ fmD_thrown_f (fmD_function_f (fmF_function_f I J G pa pb f n m tp rs).2 J G pa pb f n m tp rs) = Int32.ofNat (fmF_function_f I J G pa pb f n m tp rs).1 ∧ ∃ D', fk_iv D' (fmD_function_f (fmF_function_f I J G pa pb f n m tp rs).2 J G pa pb f n m tp rs) J G := by
  obtain ⟨x1, x2⟩ := fk_within f (m := 3) (by omega)
  obtain ⟨y1, y2⟩ := fk_within n (m := 3) (by omega)
  obtain ⟨z1, z2⟩ := fk_within m (m := 3) (by omega)
  obtain ⟨u1, u2⟩ := fk_within rs (m := 4) (by omega)
  have x1' : fmD_in_f f 0 3 = fmF_isWithin_f f 3 := x1
  have y1' : fmD_in_f n 0 3 = fmF_isWithin_f n 3 := y1
  have z1' : fmD_in_f m 0 3 = fmF_isWithin_f m 3 := z1
  have u1' : fmD_in_f rs 0 4 = fmF_isWithin_f rs 4 := u1
  have bad : (fmF_function_p I J G pa pb f n m tp rs ∧ fmF_function_f I J G pa pb f n m tp rs = (1, I)) → (fmD_function_p I J G pa pb f n m tp rs ∧ fmD_function_f I J G pa pb f n m tp rs = fm_u I 24 0 18 1) → fmF_function_p I J G pa pb f n m tp rs ∧ (fmF_function_f I J G pa pb f n m tp rs).1 ≤ 1 ∧ fmD_function_p (fmF_function_f I J G pa pb f n m tp rs).2 J G pa pb f n m tp rs ∧ fmD_thrown_f (fmD_function_f (fmF_function_f I J G pa pb f n m tp rs).2 J G pa pb f n m tp rs) = Int32.ofNat (fmF_function_f I J G pa pb f n m tp rs).1 ∧ ∃ D', fk_iv D' (fmD_function_f (fmF_function_f I J G pa pb f n m tp rs).2 J G pa pb f n m tp rs) J G := fun e1 e2 => by
    rw [e1.2]
    dsimp only
    rw [e2.2]
    exact ⟨e1.1, Nat.le_refl _, e2.1, fk_u_eq _, D, fk_iv_18 1 h⟩
  rcases x2 with x2 | ⟨x2, g, hg, rfl⟩
  · have x2' : fmF_isWithin_f f 3 = 0 := x2
    exact bad (by simp (config := {decide := true}) only [fmF_function_p, fmF_function_f, x2', fm_letE, fm_letT, ↓reduceIte, false_implies, true_implies, true_and, and_true, implies_true, not_true, not_false, and_self, not_true_eq_false, not_false_eq_true]) (by simp (config := {decide := true}) only [fmD_function_p, fmD_function_f, x1', x2', fk_bad0, fm_letE, fm_letT, ↓reduceIte, false_implies, true_implies, true_and, and_true, implies_true, not_true, not_false, and_self, not_true_eq_false, not_false_eq_true])
  have x2' : fmF_isWithin_f (Int32.ofNat g) 3 = 1 := x2
  rcases y2 with y2 | ⟨y2, a, ha, rfl⟩
  · have y2' : fmF_isWithin_f n 3 = 0 := y2
    exact bad (by simp (config := {decide := true}) only [fmF_function_p, fmF_function_f, x2', y2', fm_letE, fm_letT, ↓reduceIte, false_implies, true_implies, true_and, and_true, implies_true, not_true, not_false, and_self, not_true_eq_false, not_false_eq_true]) (by simp (config := {decide := true}) only [fmD_function_p, fmD_function_f, x1', x2', y1', y2', fk_bad0, fm_letE, fm_letT, ↓reduceIte, false_implies, true_implies, true_and, and_true, implies_true, not_true, not_false, and_self, not_true_eq_false, not_false_eq_true])
  have y2' : fmF_isWithin_f (Int32.ofNat a) 3 = 1 := y2
  rcases z2 with z2 | ⟨z2, b, hb, rfl⟩
  · have z2' : fmF_isWithin_f m 3 = 0 := z2
    exact bad (by simp (config := {decide := true}) only [fmF_function_p, fmF_function_f, x2', y2', z2', fm_letE, fm_letT, ↓reduceIte, false_implies, true_implies, true_and, and_true, implies_true, not_true, not_false, and_self, not_true_eq_false, not_false_eq_true]) (by simp (config := {decide := true}) only [fmD_function_p, fmD_function_f, x1', x2', y1', y2', z1', z2', fk_bad0, fm_letE, fm_letT, ↓reduceIte, false_implies, true_implies, true_and, and_true, implies_true, not_true, not_false, and_self, not_true_eq_false, not_false_eq_true])
  have z2' : fmF_isWithin_f (Int32.ofNat b) 3 = 1 := z2
  rcases u2 with u2 | ⟨u2, c, hc, rfl⟩
  · have u2' : fmF_isWithin_f rs 4 = 0 := u2
    exact bad (by simp (config := {decide := true}) only [fmF_function_p, fmF_function_f, x2', y2', z2', u2', fm_letE, fm_letT, ↓reduceIte, false_implies, true_implies, true_and, and_true, implies_true, not_true, not_false, and_self, not_true_eq_false, not_false_eq_true]) (by simp (config := {decide := true}) only [fmD_function_p, fmD_function_f, x1', x2', y1', y2', z1', z2', u1', u2', fk_bad0, fm_letE, fm_letT, ↓reduceIte, false_implies, true_implies, true_and, and_true, implies_true, not_true, not_false, and_self, not_true_eq_false, not_false_eq_true])
  have u2' : fmF_isWithin_f (Int32.ofNat c) 4 = 1 := u2
  have cg : (Int32.ofNat g).toNatClampNeg = g := fk_cl (by omega)
  have vg : vp_in (Int32.ofNat g) 4 := (fk_in (by omega)).mpr (by omega)
  obtain ⟨I0, hI0⟩ : ∃ I0, I0 = fm_u (fm_u (fm_u (fm_u (fm_u I 2 g 0 1) 2 g 1 (Int32.ofNat a)) 2 g 2 (Int32.ofNat (a + b))) 2 g 3 (Int32.ofNat c)) 2 g 4 0 := ⟨_, rfl⟩
  have q2 : I0 2 g 2 = Int32.ofNat (a + b) := by rw [hI0, fk_ne3 _ _ (by omega), fk_ne3 _ _ (by omega), fk_u_eq]
  obtain ⟨L1, Ia, L2, L3⟩ := fk_dcL J G pa pb (Int32.ofNat a) (Int32.ofNat b) tp (Int32.ofNat c) (g := g) (nl := a + b) (by omega) 7 0 I0 q2 (by omega) (by omega)
  obtain ⟨I1, hI1⟩ : ∃ I1, I1 = fm_u Ia 0 0 3 0 := ⟨_, rfl⟩
  have eD : fmU_declare_p I J G pa pb g (Int32.ofNat a) (Int32.ofNat b) tp (Int32.ofNat c) ∧ fmU_declare_f I J G pa pb g (Int32.ofNat a) (Int32.ofNat b) tp (Int32.ofNat c) = Ia := by
    unfold fmU_declare_p fmU_declare_f
    rw [fk_add, ← hI0]
    exact ⟨L1, L2⟩
  have e1 : fmF_function_p I J G pa pb (Int32.ofNat g) (Int32.ofNat a) (Int32.ofNat b) tp (Int32.ofNat c) ∧ fmF_function_f I J G pa pb (Int32.ofNat g) (Int32.ofNat a) (Int32.ofNat b) tp (Int32.ofNat c) = (0, I1) := by
    rw [hI1]
    simp (config := {decide := true}) only [fmF_function_p, fmF_function_f, x2', y2', z2', u2', cg, vg, eD.1, eD.2, fm_letE, fm_letT, ↓reduceIte, false_implies, true_implies, true_and, and_true, implies_true, not_true, not_false, and_self, not_true_eq_false, not_false_eq_true]
  have f1 : ∀ k i s, (k = 2 ∨ k = 3 → i ≠ g) → (k = 0 → s ≠ 3) → I1 k i s = I k i s := fun k i s w1 w2 => by
    rw [hI1, fk_ne3 _ _ w2, L3 k i s, if_neg (by omega), hI0, fk_ne2 _ _ (by omega), fk_ne2 _ _ (by omega), fk_ne2 _ _ (by omega), fk_ne2 _ _ (by omega), fk_ne2 _ _ (by omega)]
  have f2 : ∀ s, I1 2 g s = I0 2 g s := fun s => by rw [hI1, fk_ne _ _ (by decide), L3 2 g s, if_neg (by omega)]
  obtain ⟨I2, hI2⟩ : ∃ I2, I2 = fm_u (fm_u (fm_u (fm_u (fm_u (fm_u I1 24 0 18 0) 32 0 g 1) 28 0 g (Int32.ofNat a)) 29 0 g (Int32.ofNat (a + b))) 27 0 g 0) 31 0 g (Int32.ofNat c) := ⟨_, rfl⟩
  obtain ⟨M1, Ib, M2, M3⟩ := fk_fnL J G pa pb tp (Int32.ofNat c) (g := g) (a := a) (b := b) (by omega) (by omega) 7 0 I2 (by omega) (by omega)
  have e2 : fmD_function_p I1 J G pa pb (Int32.ofNat g) (Int32.ofNat a) (Int32.ofNat b) tp (Int32.ofNat c) ∧ fmD_function_f I1 J G pa pb (Int32.ofNat g) (Int32.ofNat a) (Int32.ofNat b) tp (Int32.ofNat c) = fm_u Ib 24 0 19 0 := by
    rw [← M2]
    have M1' : fmD_function_L91_p 7 I2 J G pa pb (Int32.ofNat g) (Int32.ofNat a) (Int32.ofNat b) tp (Int32.ofNat c) 0 := M1
    rw [hI2] at M1' ⊢
    have hadd : Int32.ofNat a + Int32.ofNat b = Int32.ofNat (a + b) := fk_add a b
    constructor
    · simp (config := {decide := true}) only [fmD_function_p, x1', x2', y1', y2', z1', z2', u1', u2', cg, vg, hadd, fk_bad1, M1', fm_letE, fm_letT, ↓reduceIte, false_implies, true_implies, true_and, and_true, implies_true, not_true, not_false, and_self, not_true_eq_false, not_false_eq_true]
    · simp (config := {decide := true}) only [fmD_function_f, x1', x2', y1', y2', z1', z2', u1', u2', cg, vg, hadd, fk_bad1, fm_letE, fm_letT, ↓reduceIte, false_implies, true_implies, true_and, and_true, implies_true, not_true, not_false, and_self, not_true_eq_false, not_false_eq_true]
      rfl
  rw [e1.2]
  dsimp only
  rw [e2.2]
  have g2 : ∀ k i s, (k = 24 → s ≠ 18) → (k = 27 ∨ k = 28 ∨ k = 29 ∨ k = 31 ∨ k = 32 → s ≠ g) → (k = 30 → s < g * 6 ∨ g * 6 + 6 ≤ s) → Ib k i s = I1 k i s := fun k i s w1 w2 w3 => by
    rw [M3 k i s, if_neg (by omega), hI2, fk_ne3 _ _ (by omega), fk_ne3 _ _ (by omega), fk_ne3 _ _ (by omega), fk_ne3 _ _ (by omega), fk_ne3 _ _ (by omega), fk_ne3 _ _ (by omega)]
  have g3 : ∀ k i s, k ≠ 30 → Ib k i s = I2 k i s := fun k i s w => by rw [M3 k i s, if_neg (by omega)]
  refine ⟨e1.1, by omega, e2.1, ?_, (fk_up D.1 g true, fk_up D.2.1 g a, fk_up D.2.2.1 g (a + b), fk_up D.2.2.2.1 g (Int32.ofNat c), fk_up D.2.2.2.2.1 g (fk_tyOf tp), fk_up D.2.2.2.2.2.1 g 0, D.2.2.2.2.2.2.1, D.2.2.2.2.2.2.2), fk_newA h (by omega) (fun g' hg' => ⟨fk_up_ne hg', fk_up_ne hg', fk_up_ne hg', fk_up_ne hg', fk_up_ne hg', fk_up_ne hg', rfl, rfl⟩) (fun k i s w1 w2 w3 w4 w5 w6 => ?_) ?_ ?_ ?_ ?_⟩
  · unfold fmD_thrown_f
    rw [fk_ne3 _ _ (by omega), g3 _ _ _ (by decide), hI2, fk_ne _ _ (by decide), fk_ne _ _ (by decide), fk_ne _ _ (by decide), fk_ne _ _ (by decide), fk_ne _ _ (by decide), fk_u_eq]; rfl
  · rw [fk_ne3 _ _ (by omega), g2 k i s (by omega) w2 w3, f1 k i s (by omega) (by omega)]
  · have f3 : ∀ k s, k = 2 ∨ k = 3 → (fm_u Ib 24 0 19 0) k g s = I1 k g s := fun k s w => by rw [fk_ne3 _ _ (by omega), g2 k g s (by omega) (by omega) (by omega)]
    unfold fk_mCg
    dsimp only
    simp only [fk_up_eq]
    refine ⟨by rw [f3 2 _ (by omega), f2, hI0, fk_ne3 _ _ (by omega), fk_ne3 _ _ (by omega), fk_ne3 _ _ (by omega), fk_ne3 _ _ (by omega), fk_u_eq]; rfl, fun q => absurd q (by decide), fun _ => ⟨by rw [f3 2 _ (by omega), f2, hI0, fk_ne3 _ _ (by omega), fk_ne3 _ _ (by omega), fk_ne3 _ _ (by omega), fk_u_eq], by omega, by rw [f3 2 _ (by omega), f2]; exact q2, by omega, by omega, by rw [f3 2 _ (by omega), f2, hI0, fk_ne3 _ _ (by omega), fk_u_eq], ?_, by rw [f3 2 _ (by omega), f2, hI0, fk_u_eq]; rfl, by omega, fun j hj => ⟨?_, fk_and3 _⟩, fun i hi => by omega⟩⟩
    · have : ∀ k, k ≤ 4 → fk_wb (Int32.ofNat k) 5 = true := by decide +kernel
      exact this c hc
    · rw [f3 3 _ (by omega), hI1, fk_ne _ _ (by decide), L3 3 g j, if_pos (by omega)]
  · have f3 : ∀ k s, k ≠ 24 → k ≠ 30 → (fm_u Ib 24 0 19 0) k 0 s = I2 k 0 s := fun k s w w2 => by rw [fk_ne3 _ _ (by omega), g3 _ _ _ w2]
    unfold fk_mDg
    dsimp only
    simp only [fk_up_eq]
    refine ⟨?_, fun _ => ⟨?_, ?_, ?_, ?_, fun j hj => ?_, fun i hi => by omega⟩⟩
    · rw [f3 32 _ (by omega) (by omega), hI2, fk_ne _ _ (by decide), fk_ne _ _ (by decide), fk_ne _ _ (by decide), fk_ne _ _ (by decide), fk_u_eq]; rfl
    · rw [f3 28 _ (by omega) (by omega), hI2, fk_ne _ _ (by decide), fk_ne _ _ (by decide), fk_ne _ _ (by decide), fk_u_eq]
    · rw [f3 29 _ (by omega) (by omega), hI2, fk_ne _ _ (by decide), fk_ne _ _ (by decide), fk_u_eq]
    · rw [f3 31 _ (by omega) (by omega), hI2, fk_u_eq]
    · rw [f3 27 _ (by omega) (by omega), hI2, fk_ne _ _ (by decide), fk_u_eq]; rfl
    · rw [fk_ne _ _ (by decide), M3 30 0 _, if_pos (by omega), show g * 6 + j - g * 6 = j by omega]
  · rw [fk_ne _ _ (by decide), g2 _ _ _ (by omega) (by omega) (by omega), hI1, fk_u_eq]
  · rw [fk_u_eq]
theorem fk_opC {D : fk_D} {I : fm_MI} {J : fm_MJ} {G : fm_MG} {pa : Nat × Nat} (pb : Nat × Nat) (h : fk_iv D I J G) (hpa : pa = (1, 0) ∨ pa = (14, 0)) : fmF_check_p I J G pa pb ∧ fmD_check_p (fmF_check_f I J G pa pb).2.1 J G (fmF_check_f I J G pa pb).2.2 pb ∧ (fmF_check_f I J G pa pb).1 = (fmD_check_f (fmF_check_f I J G pa pb).2.1 J G (fmF_check_f I J G pa pb).2.2 pb).1 ∧ ((fmF_check_f I J G pa pb).2.2 = (1, 0) ∨ (fmF_check_f I J G pa pb).2.2 = (14, 0)) ∧ ∃ D', fk_iv D' (fmD_check_f (fmF_check_f I J G pa pb).2.1 J G (fmF_check_f I J G pa pb).2.2 pb).2 J G := by
  obtain ⟨h1, h2, h3, h4, h5, h6⟩ := h
  obtain ⟨p1, I1, pa', p2, p3, p4, p5, p6⟩ := fk_checkC J G pb h1 h3 hpa
  have hD1 : fk_mD I1 D := fk_mD_fr h2 (fun k i s a b => p4 k i s (by omega) (by omega) (by omega) (by omega) (by omega))
  obtain ⟨q1, I2, q2, q3, q4, q5⟩ := fk_checkD J G pa' pb (fk_dk_of h1) hD1
  rw [p2]
  dsimp only
  rw [q2]
  dsimp only
  have f2 : ∀ k i s, (k < 35 ∨ 39 < k) → k ≠ 24 → I2 k i s = I1 k i s := fun k i s a b => q3 k i s a (fun w => absurd w b)
  refine ⟨p1, q1, rfl, p3, D, ⟨fk_mC_fr h1 (fun k i s a b => by rw [f2 k i s (by omega) (by omega), p4 k i s (by omega) (by omega) (by omega) (by omega) (by omega)]), fk_mD_fr hD1 (fun k i s a b => f2 k i s (by omega) (by omega)), fun j hj => ?_, ⟨?_, ?_⟩, h5, ?_⟩⟩
  · rw [f2 17 _ _ (by omega) (by omega)]; exact p5 j hj
  · rw [f2 18 _ _ (by omega) (by omega), p4 18 _ _ (by omega) (by omega) (by omega) (by omega) (by omega), q3 24 _ _ (by omega) (by omega), p4 24 _ _ (by omega) (by omega) (by omega) (by omega) (by omega)]; exact h4.1
  · rw [f2 18 _ _ (by omega) (by omega), p4 18 _ _ (by omega) (by omega) (by omega) (by omega) (by omega), q3 24 _ _ (by omega) (by omega), p4 24 _ _ (by omega) (by omega) (by omega) (by omega) (by omega)]; exact h4.2
  · rw [f2 0 _ _ (by omega) (by omega), q5]
    rcases p6 with ⟨a, b, c⟩ | ⟨a, b⟩
    · rw [if_pos a]
      refine Or.inr ⟨b, rfl, fun g hg ht => ?_⟩
      obtain ⟨K, k1, k2, k3, k4⟩ := c g hg ht
      refine ⟨K, k1, by rw [f2 6 _ _ (by omega) (by omega)]; exact k2, k3, fun r hr => ?_⟩
      obtain ⟨b1, b2, b3, b4, b5, b6⟩ := k4 r hr
      exact ⟨(f2 _ _ _ (by omega) (by omega)).trans b1, (f2 _ _ _ (by omega) (by omega)).trans b2, (f2 _ _ _ (by omega) (by omega)).trans b3, (f2 _ _ _ (by omega) (by omega)).trans b4, (f2 _ _ _ (by omega) (by omega)).trans b5, (f2 _ _ _ (by omega) (by omega)).trans b6⟩
    · rw [if_neg a]
      exact Or.inl ⟨b, rfl⟩
theorem fk_eqd_r (x : UInt64) : fm_eqd x x := by
  unfold fm_eqd
  by_cases h : Op.cmpValue (FP.dcmp x x) .l = 0
  · exact Or.inl h
  · exact Or.inr ⟨h, h⟩
theorem fk_tell {t : Nat} (ht : t ≤ 3) {u v : fk_cell} (h : fk_V (Int32.ofNat t) u v) : (if 1 < Int32.ofNat t then u.2 else FP.l2d u.1) = fmD_told_f (Int32.ofNat t) v.1 v.2 := by
  unfold fmD_told_f
  obtain ⟨h0, h1, h2, h3⟩ := h
  have : t = 0 ∨ t = 1 ∨ t = 2 ∨ t = 3 := by omega
  rcases this with rfl | rfl | rfl | rfl
  · rw [if_neg (by decide), if_neg (by decide), if_neg (by decide), (h0 rfl).1]
  · rw [if_neg (by decide), if_neg (by decide), if_neg (by decide), h1 rfl]
  · rw [if_pos (by decide), if_neg (by decide), if_pos (by decide), (h2 rfl).1]
  · rw [if_pos (by decide), if_neg (by decide), if_pos (by decide), (h3 rfl).1]
theorem fk_opG {D : fk_D} {I : fm_MI} {J : fm_MJ} {G : fm_MG} (h : fk_iv D I J G) (g : Int32) : fmF_global_p g ∧ (fmF_global_f J G g).1 ≤ 1 ∧ ∀ G1, (G1 = (if (fmF_global_f J G g).1 = 0 then fm_u G 49 0 0 (fmF_global_f J G g).2 else G)) → fmD_global_p I g ∧ fmD_thrown_f (fmD_global_f I J G1 g).2 = Int32.ofNat (fmF_global_f J G g).1 ∧ ((fmF_global_f J G g).1 = 0 → fm_eqd (G1 49 0 0) (fmD_global_f I J G1 g).1) ∧ ∃ D', fk_iv D' (fmD_global_f I J G1 g).2 J G1 := by
  obtain ⟨x1, x2⟩ := fk_within g (m := 3) (by omega)
  have x1' : fmD_in_f g 0 3 = fmF_isWithin_f g 3 := x1
  rcases x2 with x2 | ⟨x2, n, hn, rfl⟩
  · have x2' : fmF_isWithin_f g 3 = 0 := x2
    have e1 : fmF_global_p g ∧ fmF_global_f J G g = (1, FP.dconst0) := by
      simp (config := {decide := true}) only [fmF_global_p, fmF_global_f, x2', fm_letE, fm_letT, ↓reduceIte, false_implies, true_implies, true_and, and_true, implies_true, not_true, not_false, and_self, not_true_eq_false, not_false_eq_true]
    rw [e1.2]
    refine ⟨e1.1, Nat.le_refl _, fun G1 hG1 => ?_⟩
    rw [if_neg (by decide)] at hG1
    subst hG1
    have e2 : fmD_global_p I g ∧ fmD_global_f I J G1 g = (FP.dconst0, fm_u I 24 0 18 1) := by
      simp (config := {decide := true}) only [fmD_global_p, fmD_global_f, x1', x2', fk_bad0, fm_letE, fm_letT, ↓reduceIte, false_implies, true_implies, true_and, and_true, implies_true, not_true, not_false, and_self, not_true_eq_false, not_false_eq_true]
    rw [e2.2]
    exact ⟨e2.1, (show fm_u I 24 0 18 _ 24 0 18 = _ from fk_u_eq I), fun q => absurd q (by decide), D, fk_iv_18 1 h⟩
  · have x2' : fmF_isWithin_f (Int32.ofNat n) 3 = 1 := x2
    have cn : (Int32.ofNat n).toNatClampNeg = n := fk_cl (by omega)
    have vn : vp_in (Int32.ofNat n) 4 := (fk_in (by omega)).mpr (by omega)
    have e8 : (208 : Int32) + Int32.ofNat n = Int32.ofNat (208 + n) := fk_add 208 n
    have c8 : (Int32.ofNat (208 + n)).toNatClampNeg = 208 + n := fk_cl (by omega)
    have v8 : vp_in (Int32.ofNat (208 + n)) 212 := (fk_in (by omega)).mpr (by omega)
    have hv := fk_tell hn (h.2.2.2.2.1 n (by omega))
    have e1 : fmF_global_p (Int32.ofNat n) ∧ fmF_global_f J G (Int32.ofNat n) = (0, if 1 < Int32.ofNat n then G 21 0 (208 + n) else FP.l2d (J 20 0 (208 + n))) := by
      constructor
      · simp (config := {decide := true}) only [fmF_global_p, fmM_valueOfGlobal_p, fmM_valueOf_p, x2', e8, v8, fm_letE, fm_letT, ↓reduceIte, false_implies, true_implies, true_and, and_true, implies_true, not_true, not_false, and_self, not_true_eq_false, not_false_eq_true]
      · simp (config := {decide := true}) only [fmF_global_f, fmM_valueOfGlobal_f, fmM_valueOf_f, x2', e8, c8, fm_letE, fm_letT, ↓reduceIte, false_implies, true_implies, true_and, and_true, implies_true, not_true, not_false, and_self, not_true_eq_false, not_false_eq_true]
    rw [e1.2]
    refine ⟨e1.1, by omega, fun G1 hG1 => ?_⟩
    rw [if_pos rfl] at hG1
    have e2 : fmD_global_p I (Int32.ofNat n) ∧ fmD_global_f I J G1 (Int32.ofNat n) = (fmD_told_f (Int32.ofNat n) (J 33 0 n) (G1 34 0 n), fm_u I 24 0 18 0) := by
      simp (config := {decide := true}) only [fmD_global_p, fmD_global_f, x1', x2', cn, vn, fk_bad1, fm_letE, fm_letT, ↓reduceIte, false_implies, true_implies, true_and, and_true, implies_true, not_true, not_false, and_self, not_true_eq_false, not_false_eq_true]
    rw [e2.2]
    refine ⟨e2.1, (show fm_u I 24 0 18 _ 24 0 18 = _ from fk_u_eq I), fun _ => ?_, D, fk_iv_fr (fk_iv_18 0 h) (fun _ _ _ _ => rfl) (fun _ _ _ _ => rfl) (fun k i s a => by rw [hG1, fk_ne _ _ (by omega)])⟩
    have e3 : G1 34 0 n = G 34 0 n := by rw [hG1, fk_ne _ _ (by decide)]
    have e4 : G1 49 0 0 = (if 1 < Int32.ofNat n then G 21 0 (208 + n) else FP.l2d (J 20 0 (208 + n))) := by rw [hG1, fk_u_eq]
    rw [e3, e4]
    have hv' : (if 1 < Int32.ofNat n then G 21 0 (208 + n) else FP.l2d (J 20 0 (208 + n))) = fmD_told_f (Int32.ofNat n) (J 33 0 n) (G 34 0 n) := hv
    rw [hv']
    exact fk_eqd_r _
def fk_cnt (D : fk_D) : Nat → Nat → Nat → Nat
  | 0, _, c => c
  | n + 1, g, c => fk_cnt D n (g + 1) (if D.1 g = true then c + 1 else c)
theorem fk_ntC (J : fm_MJ) (G : fm_MG) (pa pb : Nat × Nat) {I : fm_MI} {D : fk_D} (hC : fk_mC I D) : ∀ (n q g c : Nat), g + n = 4 → n < q → fmF_functionsThere_L4_p q I J G pa pb (Int32.ofNat c) (Int32.ofNat g) ∧ fmF_functionsThere_L4_f q I J G pa pb (Int32.ofNat c) (Int32.ofNat g) = Int32.ofNat (fk_cnt D n g c)
  | _, 0, _, _, _, h => absurd h (Nat.not_lt_zero _)
  | 0, q + 1, g, c, hg, _ => by
    have h4 : (4 : Int32) ≤ Int32.ofNat g := (fk_le (a := 4) (by omega) (by omega)).mpr (by omega)
    unfold fmF_functionsThere_L4_p fmF_functionsThere_L4_f
    rw [if_pos h4]
    exact ⟨⟨fun _ => trivial, fun w => absurd h4 w⟩, rfl⟩
  | n + 1, q + 1, g, c, hg, hq => by
    have h4 : ¬ (4 : Int32) ≤ Int32.ofNat g := fun w => by
      have := (fk_le (a := 4) (by omega) (by omega)).mp w
      omega
    have cg : (Int32.ofNat g).toNatClampNeg = g := fk_cl (by omega)
    have vg : vp_in (Int32.ofNat g) 4 := (fk_in (by omega)).mpr (by omega)
    have e := (hC g (by omega)).1
    unfold fmF_functionsThere_L4_p fmF_functionsThere_L4_f fk_cnt
    rw [if_neg h4, cg, e, fk_s, fk_s]
    cases hb : D.1 g
    · obtain ⟨i1, i2⟩ := fk_ntC J G pa pb hC n q (g + 1) c (by omega) (by omega)
      rw [if_pos (show fk_b false = 0 from rfl), if_neg (by decide)]
      exact ⟨⟨fun w => absurd w h4, fun _ => ⟨vg, fun _ => i1, fun w => absurd rfl w⟩⟩, i2⟩
    · obtain ⟨i1, i2⟩ := fk_ntC J G pa pb hC n q (g + 1) (c + 1) (by omega) (by omega)
      rw [if_neg (show ¬ fk_b true = 0 by decide), if_pos rfl]
      exact ⟨⟨fun w => absurd w h4, fun _ => ⟨vg, fun w => absurd w (by decide), fun _ => i1⟩⟩, i2⟩
theorem fk_ntD (J : fm_MJ) (G : fm_MG) (pa pb : Nat × Nat) (wh : Int32) {I : fm_MI} {D : fk_D} (hD : fk_mD I D) : ∀ (n q g c : Nat), g + n = 4 → n < q → fmD_count_L46_p q I J G pa pb wh (Int32.ofNat c) (Int32.ofNat g) ∧ fmD_count_L46_f q I J G pa pb wh (Int32.ofNat c) (Int32.ofNat g) = (if wh = 0 then Int32.ofNat (fk_cnt D n g c) else if wh = 1 then (if I 24 0 19 = 0 then 0 else 1) else if wh = 2 then I 24 0 31 else if wh = 3 then I 24 0 32 else -1, I)
  | _, 0, _, _, _, h => absurd h (Nat.not_lt_zero _)
  | 0, q + 1, g, c, hg, _ => by
    have h4 : (4 : Int32) ≤ Int32.ofNat g := (fk_le (a := 4) (by omega) (by omega)).mpr (by omega)
    unfold fmD_count_L46_p fmD_count_L46_f fk_cnt
    rw [if_pos h4]
    refine ⟨⟨fun _ => trivial, fun w => absurd h4 w⟩, ?_⟩
    split
    · rfl
    · split
      · split <;> rfl
      · split
        · rfl
        · split <;> rfl
  | n + 1, q + 1, g, c, hg, hq => by
    have h4 : ¬ (4 : Int32) ≤ Int32.ofNat g := fun w => by
      have := (fk_le (a := 4) (by omega) (by omega)).mp w
      omega
    have cg : (Int32.ofNat g).toNatClampNeg = g := fk_cl (by omega)
    have vg : vp_in (Int32.ofNat g) 4 := (fk_in (by omega)).mpr (by omega)
    have e := (hD g (by omega)).1
    unfold fmD_count_L46_p fmD_count_L46_f fk_cnt
    rw [if_neg h4, cg, e, fk_s, fk_s]
    cases hb : D.1 g
    · obtain ⟨i1, i2⟩ := fk_ntD J G pa pb wh hD n q (g + 1) c (by omega) (by omega)
      rw [if_pos (show fk_b false = 0 from rfl), if_neg (show ¬ false = true by decide)]
      exact ⟨⟨fun w => absurd w h4, fun _ => ⟨vg, fun _ => i1, fun w => absurd rfl w⟩⟩, i2⟩
    · obtain ⟨i1, i2⟩ := fk_ntD J G pa pb wh hD n q (g + 1) (c + 1) (by omega) (by omega)
      rw [if_neg (show ¬ fk_b true = 0 by decide), if_pos (show true = true from rfl)]
      exact ⟨⟨fun w => absurd w h4, fun _ => ⟨vg, fun w => absurd w (by decide), fun _ => i1⟩⟩, i2⟩
theorem fk_wh10 (wh : Int32) : fmD_in_f wh 10 13 = fmF_isWithin_f (wh - 10) 3 := by
  obtain ⟨-, x2⟩ := fk_within (wh - 10) (m := 3) (by omega)
  rcases x2 with x2 | ⟨x2, n, hn, hx⟩
  · have x2' : fmF_isWithin_f (wh - 10) 3 = 0 := x2
    rw [x2']
    unfold fmD_in_f
    by_cases h1 : wh < 10
    · rw [if_pos h1]
    · rw [if_neg h1]
      by_cases h2 : 13 < wh
      · rw [if_pos h2]
      · exfalso
        rw [Int32.lt_iff_toInt_lt] at h1 h2
        have e10 : (10 : Int32).toInt = 10 := rfl
        have e13 : (13 : Int32).toInt = 13 := rfl
        rw [e10] at h1
        rw [e13] at h2
        have : wh = Int32.ofInt wh.toInt := by simp
        have hc : wh.toInt = 10 ∨ wh.toInt = 11 ∨ wh.toInt = 12 ∨ wh.toInt = 13 := by omega
        rcases hc with w | w | w | w <;> (rw [w] at this; rw [this] at x2'; revert x2'; decide +kernel)
  · have hw : wh = Int32.ofNat n + 10 := by
      rw [← hx]; simp
    have : n = 0 ∨ n = 1 ∨ n = 2 ∨ n = 3 := by omega
    rw [hw]
    rcases this with rfl | rfl | rfl | rfl <;> decide +kernel
theorem fk_opN {D : fk_D} {I : fm_MI} {J : fm_MJ} {G : fm_MG} (pa pb : Nat × Nat) (h : fk_iv D I J G) (wh : Int32) : fmF_count_p I J G pa pb wh ∧ fmD_count_p I J G pa pb wh ∧ fmF_count_f I J G pa pb wh = (fmD_count_f I J G pa pb wh).1 ∧ ∃ D', fk_iv D' (fmD_count_f I J G pa pb wh).2 J G := by
  obtain ⟨h1, h2, h3, h4, h5, h6⟩ := id h
  obtain ⟨a1, a2⟩ := fk_ntC J G pa pb h1 4 5 0 0 (by omega) (by omega)
  have h2' : fk_mD (fm_u I 24 0 18 0) D := fk_mD_fr h2 (fun k i s a b => fk_ne _ _ (by omega))
  obtain ⟨b1, b2⟩ := fk_ntD J G pa pb wh h2' 4 5 0 0 (by omega) (by omega)
  have a1' : fmF_functionsThere_p I J G pa pb := a1
  have a2' : fmF_functionsThere_f I J G pa pb = Int32.ofNat (fk_cnt D 4 0 0) := a2
  have b1' : fmD_count_L46_p 5 (fm_u I 24 0 18 0) J G pa pb wh 0 0 := b1
  have e19 : (fm_u I 24 0 18 0) 24 0 19 = I 24 0 19 := fk_ne3 _ _ (by omega)
  have e31 : (fm_u I 24 0 18 0) 24 0 31 = I 18 0 0 := by rw [fk_ne3 _ _ (by omega)]; exact h4.1.symm
  have e32 : (fm_u I 24 0 18 0) 24 0 32 = I 18 0 1 := by rw [fk_ne3 _ _ (by omega)]; exact h4.2.symm
  rw [e19, e31, e32] at b2
  have b2' : fmD_count_L46_f 5 (fm_u I 24 0 18 0) J G pa pb wh 0 0 = (if wh = 0 then Int32.ofNat (fk_cnt D 4 0 0) else if wh = 1 then (if I 24 0 19 = 0 then 0 else 1) else if wh = 2 then I 18 0 0 else if wh = 3 then I 18 0 1 else -1, fm_u I 24 0 18 0) := b2
  have hiv := fk_iv_18 0 h
  have hin := fk_wh10 wh
  obtain ⟨-, x2⟩ := fk_within (wh - 10) (m := 3) (by omega)
  rcases x2 with x2 | ⟨x2, n, hn, hx⟩
  · have x2' : fmF_isWithin_f (wh - 10) 3 = 0 := x2
    rw [x2'] at hin
    have e2 : fmD_count_p I J G pa pb wh ∧ fmD_count_f I J G pa pb wh = fmD_count_L46_f 5 (fm_u I 24 0 18 0) J G pa pb wh 0 0 := by
      simp (config := {decide := true}) only [fmD_count_p, fmD_count_f, hin, b1', fm_letE, fm_letT, ↓reduceIte, false_implies, true_implies, true_and, and_true, implies_true, not_true, not_false, and_self, not_true_eq_false, not_false_eq_true]
    have e1 : fmF_count_p I J G pa pb wh := by
      simp (config := {decide := true}) only [fmF_count_p, a1', x2', fm_letE, fm_letT, ↓reduceIte, false_implies, true_implies, true_and, and_true, implies_true, not_true, not_false, and_self, not_true_eq_false, not_false_eq_true]
    refine ⟨e1, e2.1, ?_, D, by rw [e2.2, b2']; exact hiv⟩
    rw [e2.2, b2']
    unfold fmF_count_f
    rw [a2', fm_letE, x2', fm_letE, if_pos (show (0 : Int32) = 0 from rfl)]
    split
    · rfl
    · split
      · rcases h6 with ⟨w1, w2⟩ | ⟨w1, w2, -⟩
        · rw [w1, w2]
        · rw [w1, w2]
      · split
        · rfl
        · split <;> rfl
  · have x2' : fmF_isWithin_f (wh - 10) 3 = 1 := x2
    rw [x2'] at hin
    have cn : (wh - 10).toNatClampNeg = n := by rw [hx]; exact fk_cl (by omega)
    have vn : vp_in (wh - 10) 4 := by rw [hx]; exact (fk_in (by omega)).mpr (by omega)
    have hw : wh = Int32.ofNat n + 10 := by rw [← hx]; simp
    have n0 : ¬ wh = 0 ∧ ¬ wh = 1 ∧ ¬ wh = 2 ∧ ¬ wh = 3 := by
      rw [hw]
      have : n = 0 ∨ n = 1 ∨ n = 2 ∨ n = 3 := by omega
      rcases this with rfl | rfl | rfl | rfl <;> decide +kernel
    obtain ⟨n0, n1, n2, n3⟩ := n0
    obtain ⟨c1, c2, c3⟩ := h1 n (by omega)
    obtain ⟨d1, d2⟩ := h2 n (by omega)
    cases hb : D.1 n
    · have w1 := c2 hb
      rw [hb] at d1
      have d1' : I 32 0 n = 0 := d1
      have e1 : fmF_count_p I J G pa pb wh ∧ fmF_count_f I J G pa pb wh = 0 := by
        simp (config := {decide := true}) only [fmF_count_p, fmF_count_f, a1', a2', n0, n1, n2, n3, x2', cn, vn, w1, fm_letE, fm_letT, ↓reduceIte, false_implies, true_implies, true_and, and_true, implies_true, not_true, not_false, and_self, not_true_eq_false, not_false_eq_true]
      have e2 : fmD_count_p I J G pa pb wh ∧ fmD_count_f I J G pa pb wh = (0, fm_u I 24 0 18 0) := by
        simp (config := {decide := true}) only [fmD_count_p, fmD_count_f, hin, cn, vn, d1', b1', fm_letE, fm_letT, ↓reduceIte, false_implies, true_implies, true_and, and_true, implies_true, not_true, not_false, and_self, not_true_eq_false, not_false_eq_true]
      rw [e1.2, e2.2]
      exact ⟨e1.1, e2.1, rfl, D, hiv⟩
    · have w1 := (c3 hb).2.2.2.2.2.2.2.1
      have w2 := (d2 hb).2.2.2.1
      rw [hb] at d1
      have d1' : I 32 0 n = 1 := d1
      have e1 : fmF_count_p I J G pa pb wh ∧ fmF_count_f I J G pa pb wh = I 2 n 4 := by
        simp (config := {decide := true}) only [fmF_count_p, fmF_count_f, a1', a2', n0, n1, n2, n3, x2', cn, vn, fm_letE, fm_letT, ↓reduceIte, false_implies, true_implies, true_and, and_true, implies_true, not_true, not_false, and_self, not_true_eq_false, not_false_eq_true]
      have e2 : fmD_count_p I J G pa pb wh ∧ fmD_count_f I J G pa pb wh = (I 27 0 n, fm_u I 24 0 18 0) := by
        simp (config := {decide := true}) only [fmD_count_p, fmD_count_f, hin, cn, vn, d1', b1', fm_letE, fm_letT, ↓reduceIte, false_implies, true_implies, true_and, and_true, implies_true, not_true, not_false, and_self, not_true_eq_false, not_false_eq_true]
      rw [e1.2, e2.2]
      exact ⟨e1.1, e2.1, by rw [w1, w2], D, hiv⟩
