def fk_iv (D : fk_D) (I : fm_MI) (J : fm_MJ) (G : fm_MG) : Prop := fk_mC I D ∧ fk_mD I D ∧ fk_w6 I ∧ fk_ud I I ∧ fk_gl J G J G ∧ ((I 0 0 3 = 0 ∧ I 24 0 19 = 0) ∨ (I 0 0 3 = 1 ∧ I 24 0 19 = 1 ∧ ∀ h, h < 4 → fk_fl I D h))
def fk_Inv : fm_In := fun I J G pa _ => (pa = (1, 0) ∨ pa = (14, 0)) ∧ ∃ D, fk_iv D I J G
theorem fk_iv_fr {D : fk_D} {I I1 : fm_MI} {J J1 : fm_MJ} {G G1 : fm_MG} (h : fk_iv D I J G) (hI : ∀ k i s, (2 ≤ k ∧ k ≤ 12 ∨ k = 17 ∨ (25 ≤ k ∧ k ≤ 32) ∨ (k = 0 ∧ s = 3) ∨ (k = 18 ∧ s ≤ 1) ∨ (k = 24 ∧ (s = 19 ∨ s = 31 ∨ s = 32))) → I1 k i s = I k i s) (hJ : ∀ k i s, k = 20 ∨ k = 33 → J1 k i s = J k i s) (hG : ∀ k i s, k = 21 ∨ k = 34 → G1 k i s = G k i s) : fk_iv D I1 J1 G1 := by
  obtain ⟨h1, h2, h3, h4, h5, h6⟩ := h
  refine ⟨fk_mC_fr h1 (fun k i s a b => hI k i s (by omega)), fk_mD_fr h2 (fun k i s a b => hI k i s (by omega)), fun j hj => ?_, ⟨?_, ?_⟩, fun g hg => ?_, ?_⟩
  · rw [hI 17 _ _ (by omega)]; exact h3 j hj
  · rw [hI 18 _ _ (by omega), hI 24 _ _ (by omega)]; exact h4.1
  · rw [hI 18 _ _ (by omega), hI 24 _ _ (by omega)]; exact h4.2
  · have := h5 g hg
    unfold fk_cC fk_cG at this ⊢
    rw [hJ 20 _ _ (by omega), hG 21 _ _ (by omega), hJ 33 _ _ (by omega), hG 34 _ _ (by omega)]
    exact this
  · rw [hI 0 _ _ (by omega), hI 24 _ _ (by omega)]
    rcases h6 with h6 | ⟨a, b, c⟩
    · exact Or.inl h6
    · refine Or.inr ⟨a, b, fun g hg ht => ?_⟩
      obtain ⟨K, k1, k2, k3, k4⟩ := c g hg ht
      refine ⟨K, k1, by rw [hI 6 _ _ (by omega)]; exact k2, k3, fun r hr => ?_⟩
      obtain ⟨b1, b2, b3, b4, b5, b6⟩ := k4 r hr
      exact ⟨(hI _ _ _ (by omega)).trans b1, (hI _ _ _ (by omega)).trans b2, (hI _ _ _ (by omega)).trans b3, (hI _ _ _ (by omega)).trans b4, (hI _ _ _ (by omega)).trans b5, (hI _ _ _ (by omega)).trans b6⟩
theorem fk_iv_18 {D : fk_D} {I : fm_MI} {J : fm_MJ} {G : fm_MG} (x : Int32) (h : fk_iv D I J G) : fk_iv D (fm_u I 24 0 18 x) J G := fk_iv_fr h (fun k i s a => fk_ne3 _ _ (by omega)) (fun _ _ _ _ => rfl) (fun _ _ _ _ => rfl)
theorem fk_within (x : Int32) {m : Nat} (hm : m ≤ 1000) : fmD_in_f x 0 (Int32.ofNat m) = fmF_isWithin_f x (Int32.ofNat m) ∧ (fmF_isWithin_f x (Int32.ofNat m) = 0 ∨ (fmF_isWithin_f x (Int32.ofNat m) = 1 ∧ ∃ n, n ≤ m ∧ x = Int32.ofNat n)) := by
  refine ⟨rfl, ?_⟩
  unfold fmF_isWithin_f
  by_cases h1 : x < 0
  · rw [if_pos h1]; exact Or.inl rfl
  · rw [if_neg h1]
    by_cases h2 : Int32.ofNat m < x
    · rw [if_pos h2]; exact Or.inl rfl
    · rw [if_neg h2]
      have h3 : x = Int32.ofNat x.toNatClampNeg := fk_ofc (show vp_in x (x.toNatClampNeg + 1) from fun q => q.elim h1 (fun w => by omega))
      refine Or.inr ⟨rfl, x.toNatClampNeg, ?_, h3⟩
      have hlt : x.toNatClampNeg < 2147483648 := by
        have := Int32.toInt_lt x
        unfold Int32.toNatClampNeg
        omega
      rw [h3] at h2
      have := mt (fk_lt (by omega) hlt).mpr h2
      omega
theorem fk_there {D : fk_D} {I : fm_MI} (hC : fk_mC I D) (hD : fk_mD I D) (f : Int32) : fmF_isThere_p f ∧ fmD_isFunction_p f ∧ fmD_isFunction_f I f = fmF_isThere_f I f ∧ (fmF_isThere_f I f = 0 ∨ (fmF_isThere_f I f = 1 ∧ ∃ g, g < 4 ∧ f = Int32.ofNat g ∧ D.1 g = true)) := by
  obtain ⟨w1, w2⟩ := fk_within f (m := 3) (by omega)
  have w1' : fmD_in_f f 0 3 = fmF_isWithin_f f 3 := w1
  rcases w2 with w2 | ⟨w2, g, hg, rfl⟩
  · have w2' : fmF_isWithin_f f 3 = 0 := w2
    simp (config := {decide := true}) only [fmF_isThere_p, fmD_isFunction_p, fmD_isFunction_f, fmF_isThere_f, w1', w2', fm_letE, fm_letT, true_or, ↓reduceIte, false_implies, true_implies, true_and, and_true, implies_true, not_true, not_false, and_self, not_true_eq_false, not_false_eq_true]
  · have w2' : fmF_isWithin_f (Int32.ofNat g) 3 = 1 := w2
    have cg : (Int32.ofNat g).toNatClampNeg = g := fk_cl (by omega)
    have vg : vp_in (Int32.ofNat g) 4 := (fk_in (by omega)).mpr (by omega)
    have e1 := (hC g (by omega)).1
    have e2 := (hD g (by omega)).1
    cases hb : D.1 g
    · rw [hb] at e1 e2
      have e1' : I 2 g 0 = 0 := e1
      have e2' : I 32 0 g = 0 := e2
      simp (config := {decide := true}) only [fmF_isThere_p, fmD_isFunction_p, fmD_isFunction_f, fmF_isThere_f, w1', w2', cg, vg, e1', e2', fm_letE, fm_letT, true_or, ↓reduceIte, false_implies, true_implies, true_and, and_true, implies_true, not_true, not_false, and_self, not_true_eq_false, not_false_eq_true]
    · rw [hb] at e1 e2
      have e1' : I 2 g 0 = 1 := e1
      have e2' : I 32 0 g = 1 := e2
      refine ⟨?_, ?_, ?_, Or.inr ⟨?_, g, by omega, rfl, hb⟩⟩ <;> simp (config := {decide := true}) only [fmF_isThere_p, fmD_isFunction_p, fmD_isFunction_f, fmF_isThere_f, w1', w2', cg, vg, e1', e2', fm_letE, fm_letT, true_or, ↓reduceIte, false_implies, true_implies, true_and, and_true, implies_true, not_true, not_false, and_self, not_true_eq_false, not_false_eq_true]
theorem fk_bad0 (I : fm_MI) : fmD_bad_f I 0 = (1, fm_u I 24 0 18 1) := rfl
theorem fk_bad1 (I : fm_MI) : fmD_bad_f I 1 = (0, fm_u I 24 0 18 0) := rfl
def fk_Der (D : fk_D) (g : Nat) : fk_D := (D.1, D.2.1, D.2.2.1, D.2.2.2.1, D.2.2.2.2.1, fk_up D.2.2.2.2.2.1 g 0, D.2.2.2.2.2.2.1, D.2.2.2.2.2.2.2)
theorem fk_erA {D : fk_D} {I : fm_MI} {J : fm_MJ} {G : fm_MG} (h : fk_iv D I J G) {I1 : fm_MI} {g : Nat} (hg : g < 4) (ht : D.1 g = true) (hI : ∀ k i s, (k = 2 → i = g → s ≠ 4) → (k = 27 → s ≠ g) → (k = 0 → s ≠ 3) → (k = 24 → s ≠ 19 ∧ s ≠ 18) → I1 k i s = I k i s) (h4 : I1 2 g 4 = 0) (h27 : I1 27 0 g = 0) (h3 : I1 0 0 3 = 0) (h19 : I1 24 0 19 = 0) : fk_iv (fk_Der D g) I1 J G := by
  obtain ⟨h1, h2, h3', h4', h5, h6⟩ := h
  refine ⟨fun g' hg' => ?_, fun g' hg' => ?_, fun j hj => ?_, ⟨?_, ?_⟩, h5, Or.inl ⟨h3, h19⟩⟩
  · obtain ⟨a1, a2, a3⟩ := h1 g' hg'
    by_cases e : g' = g
    · subst e
      refine ⟨by rw [hI 2 _ _ (by omega) (by omega) (by omega) (by omega)]; exact a1, fun q => absurd ht (by rw [show (fk_Der D g').1 g' = D.1 g' from rfl] at q; rw [q]; decide), fun _ => ?_⟩
      obtain ⟨b1, b2, b3, b4, b5, b6, b7, b8, b9, b10, b11⟩ := a3 ht
      refine ⟨by rw [hI 2 _ _ (by omega) (by omega) (by omega) (by omega)]; exact b1, b2, by rw [hI 2 _ _ (by omega) (by omega) (by omega) (by omega)]; exact b3, b4, b5, by rw [hI 2 _ _ (by omega) (by omega) (by omega) (by omega)]; exact b6, b7, ?_, ?_, fun j hj => ⟨by rw [hI 3 _ _ (by omega) (by omega) (by omega) (by omega)]; exact (b10 j hj).1, (b10 j hj).2⟩, fun i hi => ?_⟩
      · show I1 2 g' 4 = Int32.ofNat (fk_up D.2.2.2.2.2.1 g' 0 g')
        rw [fk_up_eq]; exact h4
      · show fk_up D.2.2.2.2.2.1 g' 0 g' ≤ 40
        rw [fk_up_eq]; omega
      · exfalso
        have : i < fk_up D.2.2.2.2.2.1 g' 0 g' := hi
        rw [fk_up_eq] at this
        omega
    · have hs : (fk_Der D g).2.2.2.2.2.1 g' = D.2.2.2.2.2.1 g' := fk_up_ne e
      refine ⟨by rw [hI 2 _ _ (by omega) (by omega) (by omega) (by omega)]; exact a1, fun q => by rw [hI 2 _ _ (by omega) (by omega) (by omega) (by omega)]; exact a2 q, fun q => ?_⟩
      obtain ⟨b1, b2, b3, b4, b5, b6, b7, b8, b9, b10, b11⟩ := a3 q
      exact ⟨by rw [hI 2 _ _ (by omega) (by omega) (by omega) (by omega)]; exact b1, b2, by rw [hI 2 _ _ (by omega) (by omega) (by omega) (by omega)]; exact b3, b4, b5, by rw [hI 2 _ _ (by omega) (by omega) (by omega) (by omega)]; exact b6, b7, by rw [hI 2 _ _ (by omega) (by omega) (by omega) (by omega), hs]; exact b8, by rw [hs]; exact b9, fun j hj => ⟨by rw [hI 3 _ _ (by omega) (by omega) (by omega) (by omega)]; exact (b10 j hj).1, (b10 j hj).2⟩, fun i hi => by rw [hs] at hi; obtain ⟨c1, c2, c3⟩ := b11 i hi; exact ⟨by rw [hI 4 _ _ (by omega) (by omega) (by omega) (by omega)]; exact c1, c2, by rw [hI 5 _ _ (by omega) (by omega) (by omega) (by omega)]; exact c3⟩⟩
  · obtain ⟨a1, a2⟩ := h2 g' hg'
    refine ⟨by rw [hI 32 _ _ (by omega) (by omega) (by omega) (by omega)]; exact a1, fun q => ?_⟩
    obtain ⟨b1, b2, b3, b4, b5, b6⟩ := a2 q
    by_cases e : g' = g
    · subst e
      refine ⟨by rw [hI 28 _ _ (by omega) (by omega) (by omega) (by omega)]; exact b1, by rw [hI 29 _ _ (by omega) (by omega) (by omega) (by omega)]; exact b2, by rw [hI 31 _ _ (by omega) (by omega) (by omega) (by omega)]; exact b3, ?_, fun j hj => by rw [hI 30 _ _ (by omega) (by omega) (by omega) (by omega)]; exact b5 j hj, fun i hi => ?_⟩
      · show I1 27 0 g' = Int32.ofNat (fk_up D.2.2.2.2.2.1 g' 0 g')
        rw [fk_up_eq]; exact h27
      · exfalso
        have : i < fk_up D.2.2.2.2.2.1 g' 0 g' := hi
        rw [fk_up_eq] at this
        omega
    · have hs : (fk_Der D g).2.2.2.2.2.1 g' = D.2.2.2.2.2.1 g' := fk_up_ne e
      exact ⟨by rw [hI 28 _ _ (by omega) (by omega) (by omega) (by omega)]; exact b1, by rw [hI 29 _ _ (by omega) (by omega) (by omega) (by omega)]; exact b2, by rw [hI 31 _ _ (by omega) (by omega) (by omega) (by omega)]; exact b3, by rw [hI 27 _ _ (by omega) (by omega) (by omega) (by omega), hs]; exact b4, fun j hj => by rw [hI 30 _ _ (by omega) (by omega) (by omega) (by omega)]; exact b5 j hj, fun i hi => by rw [hs] at hi; rw [hI 25 _ _ (by omega) (by omega) (by omega) (by omega), hI 26 _ _ (by omega) (by omega) (by omega) (by omega)]; exact b6 i hi⟩
  · rw [hI 17 _ _ (by omega) (by omega) (by omega) (by omega)]; exact h3' j hj
  · rw [hI 18 _ _ (by omega) (by omega) (by omega) (by omega), hI 24 _ _ (by omega) (by omega) (by omega) (by omega)]; exact h4'.1
  · rw [hI 18 _ _ (by omega) (by omega) (by omega) (by omega), hI 24 _ _ (by omega) (by omega) (by omega) (by omega)]; exact h4'.2
theorem fk_ne2 {α : Type} (f : Nat → Nat → Nat → α) {k i s k' i' s' : Nat} (x : α) (h : k' = k → i' = i → s' ≠ s) : fm_u f k i s x k' i' s' = f k' i' s' := by
  rw [fm_u_if, if_neg]
  rintro ⟨a, b, c⟩
  exact h a b c
theorem fk_opR {D : fk_D} {I : fm_MI} {J : fm_MJ} {G : fm_MG} (h : fk_iv D I J G) (f : Int32) : fmF_erase_p I f ∧ (fmF_erase_f I f).1 ≤ 1 ∧ fmD_erase_p (fmF_erase_f I f).2 f ∧ fmD_thrown_f (fmD_erase_f (fmF_erase_f I f).2 f) = Int32.ofNat (fmF_erase_f I f).1 ∧ ∃ D', fk_iv D' (fmD_erase_f (fmF_erase_f I f).2 f) J G := by
  obtain ⟨t1, t2, t3, t4⟩ := fk_there h.1 h.2.1 f
  rcases t4 with t4 | ⟨t4, g, hg, rfl, ht⟩
  · have e1 : fmF_erase_p I f ∧ fmF_erase_f I f = (1, I) := by
      simp (config := {decide := true}) only [fmF_erase_p, fmF_erase_f, t1, t4, fm_letE, fm_letT, ↓reduceIte, false_implies, true_implies, true_and, and_true, implies_true, not_true, not_false, and_self, not_true_eq_false, not_false_eq_true]
    have e2 : fmD_erase_p I f ∧ fmD_erase_f I f = fm_u I 24 0 18 1 := by
      simp (config := {decide := true}) only [fmD_erase_p, fmD_erase_f, t2, t3, t4, fk_bad0, fm_letE, fm_letT, ↓reduceIte, false_implies, true_implies, true_and, and_true, implies_true, not_true, not_false, and_self, not_true_eq_false, not_false_eq_true]
    rw [e1.2]
    dsimp only
    rw [e2.2]
    exact ⟨e1.1, Nat.le_refl _, e2.1, fk_u_eq _, D, fk_iv_18 1 h⟩
  · have cg : (Int32.ofNat g).toNatClampNeg = g := fk_cl (by omega)
    have vg : vp_in (Int32.ofNat g) 4 := (fk_in (by omega)).mpr hg
    obtain ⟨I1, hI1⟩ : ∃ I1, I1 = fm_u (fm_u I 2 g 4 0) 0 0 3 0 := ⟨_, rfl⟩
    have e1 : fmF_erase_p I (Int32.ofNat g) ∧ fmF_erase_f I (Int32.ofNat g) = (0, I1) := by
      rw [hI1]
      simp (config := {decide := true}) only [fmF_erase_p, fmF_erase_f, t1, t4, cg, vg, fm_letE, fm_letT, ↓reduceIte, false_implies, true_implies, true_and, and_true, implies_true, not_true, not_false, and_self, not_true_eq_false, not_false_eq_true]
    have f1 : ∀ k i s, (k = 2 → i = g → s ≠ 4) → (k = 0 → s ≠ 3) → I1 k i s = I k i s := fun k i s a b => by rw [hI1, fk_ne3 _ _ b, fk_ne2 _ _ a]
    have hif : fmD_isFunction_f I1 (Int32.ofNat g) = 1 := by
      have : fmD_isFunction_f I1 (Int32.ofNat g) = fmD_isFunction_f I (Int32.ofNat g) := by
        unfold fmD_isFunction_f
        rw [f1 32 _ _ (by omega) (by omega)]
      rw [this, t3, t4]
    have e2 : fmD_erase_p I1 (Int32.ofNat g) ∧ fmD_erase_f I1 (Int32.ofNat g) = fm_u (fm_u (fm_u I1 24 0 18 0) 27 0 g 0) 24 0 19 0 := by
      simp (config := {decide := true}) only [fmD_erase_p, fmD_erase_f, t2, hif, cg, vg, fk_bad1, fm_letE, fm_letT, ↓reduceIte, false_implies, true_implies, true_and, and_true, implies_true, not_true, not_false, and_self, not_true_eq_false, not_false_eq_true]
    rw [e1.2]
    dsimp only
    rw [e2.2]
    refine ⟨e1.1, by omega, e2.1, ?_, fk_Der D g, fk_erA h hg ht (fun k i s a b c d => ?_) ?_ ?_ ?_ ?_⟩
    · unfold fmD_thrown_f
      rw [fk_ne3 _ _ (by omega), fk_ne _ _ (by decide), fk_u_eq]; rfl
    · rw [fk_ne3 _ _ (by omega), fk_ne3 _ _ b, fk_ne3 _ _ (by omega), f1 k i s a c]
    · rw [fk_ne _ _ (by decide), fk_ne _ _ (by decide), fk_ne _ _ (by decide), hI1, fk_ne _ _ (by decide), fk_u_eq]
    · rw [fk_ne _ _ (by decide), fk_u_eq]
    · rw [fk_ne _ _ (by decide), fk_ne _ _ (by decide), fk_ne _ _ (by decide), hI1, fk_u_eq]
    · rw [fk_u_eq]
def fk_agr (D D' : fk_D) (g : Nat) : Prop := D'.1 g = D.1 g ∧ D'.2.1 g = D.2.1 g ∧ D'.2.2.1 g = D.2.2.1 g ∧ D'.2.2.2.1 g = D.2.2.2.1 g ∧ D'.2.2.2.2.1 g = D.2.2.2.2.1 g ∧ D'.2.2.2.2.2.1 g = D.2.2.2.2.2.1 g ∧ D'.2.2.2.2.2.2.1 g = D.2.2.2.2.2.2.1 g ∧ D'.2.2.2.2.2.2.2 g = D.2.2.2.2.2.2.2 g
def fk_mCg (I : fm_MI) (D : fk_D) (g : Nat) : Prop := I 2 g 0 = fk_b (D.1 g) ∧ (D.1 g = false → I 2 g 4 = 0) ∧ (D.1 g = true → I 2 g 1 = Int32.ofNat (D.2.1 g) ∧ D.2.1 g ≤ 3 ∧ I 2 g 2 = Int32.ofNat (D.2.2.1 g) ∧ D.2.1 g ≤ D.2.2.1 g ∧ D.2.2.1 g ≤ 6 ∧ I 2 g 3 = D.2.2.2.1 g ∧ fk_wb (D.2.2.2.1 g) 5 = true ∧ I 2 g 4 = Int32.ofNat (D.2.2.2.2.2.1 g) ∧ D.2.2.2.2.2.1 g ≤ 40 ∧ (∀ j, j < D.2.2.1 g → I 3 g j = D.2.2.2.2.1 g j ∧ fk_wb (D.2.2.2.2.1 g j) 4 = true) ∧ ∀ i, i < D.2.2.2.2.2.1 g → I 4 g i = Int32.ofNat (D.2.2.2.2.2.2.1 g i) ∧ D.2.2.2.2.2.2.1 g i ≤ 30 ∧ I 5 g i = D.2.2.2.2.2.2.2 g i)
def fk_mDg (I : fm_MI) (D : fk_D) (g : Nat) : Prop := I 32 0 g = fk_b (D.1 g) ∧ (D.1 g = true → I 28 0 g = Int32.ofNat (D.2.1 g) ∧ I 29 0 g = Int32.ofNat (D.2.2.1 g) ∧ I 31 0 g = D.2.2.2.1 g ∧ I 27 0 g = Int32.ofNat (D.2.2.2.2.2.1 g) ∧ (∀ j, j < D.2.2.1 g → I 30 0 (g * 6 + j) = D.2.2.2.2.1 g j) ∧ ∀ i, i < D.2.2.2.2.2.1 g → I 25 0 (g * 40 + i) = Int32.ofNat (D.2.2.2.2.2.2.1 g i) ∧ I 26 0 (g * 40 + i) = D.2.2.2.2.2.2.2 g i)
theorem fk_newA {D D' : fk_D} {I : fm_MI} {J : fm_MJ} {G : fm_MG} (h : fk_iv D I J G) {I1 : fm_MI} {g : Nat} (hg : g < 4) (ha : ∀ g', g' ≠ g → fk_agr D D' g') (hI : ∀ k i s, (2 ≤ k → k ≤ 5 → i ≠ g) → (k = 27 ∨ k = 28 ∨ k = 29 ∨ k = 31 ∨ k = 32 → s ≠ g) → (k = 30 → s < g * 6 ∨ g * 6 + 6 ≤ s) → (k = 25 ∨ k = 26 → s < g * 40 ∨ g * 40 + 40 ≤ s) → (k = 0 → s ≠ 3) → (k = 24 → s ≠ 19 ∧ s ≠ 18) → I1 k i s = I k i s) (hC : fk_mCg I1 D' g) (hD : fk_mDg I1 D' g) (h3 : I1 0 0 3 = 0) (h19 : I1 24 0 19 = 0) : fk_iv D' I1 J G := by
  obtain ⟨h1, h2, h3', h4', h5, h6⟩ := h
  refine ⟨fun g' hg' => ?_, fun g' hg' => ?_, fun j hj => ?_, ⟨?_, ?_⟩, h5, Or.inl ⟨h3, h19⟩⟩
  · by_cases e : g' = g
    · subst e; exact hC
    · obtain ⟨a1, a2, a3⟩ := h1 g' hg'
      obtain ⟨d1, d2, d3, d4, d5, d6, d7, d8⟩ := ha g' e
      rw [d1, d2, d3, d4, d5, d6, d7, d8]
      have hh : ∀ k s, 2 ≤ k → k ≤ 5 → I1 k g' s = I k g' s := fun k s w1 w2 => hI k g' s (fun _ _ => e) (by omega) (by omega) (by omega) (by omega) (by omega)
      refine ⟨by rw [hh 2 _ (by omega) (by omega)]; exact a1, fun q => by rw [hh 2 _ (by omega) (by omega)]; exact a2 q, fun q => ?_⟩
      obtain ⟨b1, b2, b3, b4, b5, b6, b7, b8, b9, b10, b11⟩ := a3 q
      exact ⟨by rw [hh 2 _ (by omega) (by omega)]; exact b1, b2, by rw [hh 2 _ (by omega) (by omega)]; exact b3, b4, b5, by rw [hh 2 _ (by omega) (by omega)]; exact b6, b7, by rw [hh 2 _ (by omega) (by omega)]; exact b8, b9, fun j hj => ⟨by rw [hh 3 _ (by omega) (by omega)]; exact (b10 j hj).1, (b10 j hj).2⟩, fun i hi => ⟨by rw [hh 4 _ (by omega) (by omega)]; exact (b11 i hi).1, (b11 i hi).2.1, by rw [hh 5 _ (by omega) (by omega)]; exact (b11 i hi).2.2⟩⟩
  · by_cases e : g' = g
    · subst e; exact hD
    · obtain ⟨a1, a2⟩ := h2 g' hg'
      obtain ⟨d1, d2, d3, d4, d5, d6, d7, d8⟩ := ha g' e
      rw [d1, d2, d3, d4, d5, d6, d7, d8]
      have hh : ∀ k, k = 27 ∨ k = 28 ∨ k = 29 ∨ k = 31 ∨ k = 32 → I1 k 0 g' = I k 0 g' := fun k w => hI k 0 g' (by omega) (fun _ => e) (by omega) (by omega) (by omega) (by omega)
      refine ⟨by rw [hh 32 (by omega)]; exact a1, fun q => ?_⟩
      obtain ⟨b1, b2, b3, b4, b5, b6⟩ := a2 q
      have hnl := ((h1 g' hg').2.2 q).2.2.2.2.1
      have hsz := ((h1 g' hg').2.2 q).2.2.2.2.2.2.2.2.1
      refine ⟨by rw [hh 28 (by omega)]; exact b1, by rw [hh 29 (by omega)]; exact b2, by rw [hh 31 (by omega)]; exact b3, by rw [hh 27 (by omega)]; exact b4, fun j hj => ?_, fun i hi => ?_⟩
      · rw [hI 30 _ _ (by omega) (by omega) (by omega) (by omega) (by omega) (by omega)]; exact b5 j hj
      · rw [hI 25 _ _ (by omega) (by omega) (by omega) (by omega) (by omega) (by omega), hI 26 _ _ (by omega) (by omega) (by omega) (by omega) (by omega) (by omega)]; exact b6 i hi
  · rw [hI 17 _ _ (by omega) (by omega) (by omega) (by omega) (by omega) (by omega)]; exact h3' j hj
  · rw [hI 18 _ _ (by omega) (by omega) (by omega) (by omega) (by omega) (by omega), hI 24 _ _ (by omega) (by omega) (by omega) (by omega) (by omega) (by omega)]; exact h4'.1
  · rw [hI 18 _ _ (by omega) (by omega) (by omega) (by omega) (by omega) (by omega), hI 24 _ _ (by omega) (by omega) (by omega) (by omega) (by omega) (by omega)]; exact h4'.2
theorem fk_opE {D : fk_D} {I : fm_MI} {J : fm_MJ} {G : fm_MG} (h : fk_iv D I J G) (f op aa : Int32) : fmF_emit_p I f op aa ∧ (fmF_emit_f I f op aa).1 ≤ 2 ∧ fmD_emit_p (fmF_emit_f I f op aa).2.2 f op ∧ fmD_thrown_f (fmD_emit_f (fmF_emit_f I f op aa).2.2 f op aa).2 = Int32.ofNat (fmF_emit_f I f op aa).1 ∧ ((fmF_emit_f I f op aa).1 = 0 → (fmF_emit_f I f op aa).2.1 = (fmD_emit_f (fmF_emit_f I f op aa).2.2 f op aa).1) ∧ ∃ D', fk_iv D' (fmD_emit_f (fmF_emit_f I f op aa).2.2 f op aa).2 J G := by
  obtain ⟨t1, t2, t3, t4⟩ := fk_there h.1 h.2.1 f
  obtain ⟨w1, w2⟩ := fk_within op (m := 30) (by omega)
  have w1' : fmD_in_f op 0 30 = fmF_isWithin_f op 30 := w1
  rcases t4 with t4 | ⟨t4, g, hg, rfl, ht⟩
  · have e1 : fmF_emit_p I f op aa ∧ fmF_emit_f I f op aa = (1, 0, I) := by
      simp (config := {decide := true}) only [fmF_emit_p, fmF_emit_f, t1, t4, fm_letE, fm_letT, ↓reduceIte, false_implies, true_implies, true_and, and_true, implies_true, not_true, not_false, and_self, not_true_eq_false, not_false_eq_true]
    have e2 : fmD_emit_p I f op ∧ fmD_emit_f I f op aa = (0, fm_u I 24 0 18 1) := by
      simp (config := {decide := true}) only [fmD_emit_p, fmD_emit_f, t2, t3, t4, fk_bad0, fm_letE, fm_letT, ↓reduceIte, false_implies, true_implies, true_and, and_true, implies_true, not_true, not_false, and_self, not_true_eq_false, not_false_eq_true]
    rw [e1.2]
    dsimp only
    rw [e2.2]
    dsimp only
    exact ⟨e1.1, by omega, e2.1, fk_u_eq _, fun q => absurd q (by omega), D, fk_iv_18 1 h⟩
  · have cg : (Int32.ofNat g).toNatClampNeg = g := fk_cl (by omega)
    have vg : vp_in (Int32.ofNat g) 4 := (fk_in (by omega)).mpr hg
    rcases w2 with w2 | ⟨w2, o, ho, rfl⟩
    · have w2' : fmF_isWithin_f op 30 = 0 := w2
      have e1 : fmF_emit_p I (Int32.ofNat g) op aa ∧ fmF_emit_f I (Int32.ofNat g) op aa = (1, 0, I) := by
        simp (config := {decide := true}) only [fmF_emit_p, fmF_emit_f, t1, t4, w2', fm_letE, fm_letT, ↓reduceIte, false_implies, true_implies, true_and, and_true, implies_true, not_true, not_false, and_self, not_true_eq_false, not_false_eq_true]
      have e2 : fmD_emit_p I (Int32.ofNat g) op ∧ fmD_emit_f I (Int32.ofNat g) op aa = (0, fm_u I 24 0 18 1) := by
        simp (config := {decide := true}) only [fmD_emit_p, fmD_emit_f, t2, t3, t4, w1', w2', fk_bad0, fm_letE, fm_letT, ↓reduceIte, false_implies, true_implies, true_and, and_true, implies_true, not_true, not_false, and_self, not_true_eq_false, not_false_eq_true]
      rw [e1.2]
      dsimp only
      rw [e2.2]
      dsimp only
      exact ⟨e1.1, by omega, e2.1, fk_u_eq _, fun q => absurd q (by omega), D, fk_iv_18 1 h⟩
    · have w2' : fmF_isWithin_f (Int32.ofNat o) 30 = 1 := w2
      obtain ⟨a1, a2, a3⟩ := h.1 g hg
      obtain ⟨b1, b2, b3, b4, b5, b6, b7, b8, b9, b10, b11⟩ := a3 ht
      obtain ⟨d1, d2⟩ := h.2.1 g hg
      obtain ⟨c1, c2, c3, c4, c5, c6⟩ := d2 ht
      generalize hs : D.2.2.2.2.2.1 g = s at b8 b9 b11 c4 c6
      by_cases hs4 : s = 40
      · have n40 : ¬ I 2 g 4 < 40 := by
          rw [b8, hs4]; decide
        have e40 : (fm_u I 24 0 18 0) 27 0 g = 40 := by rw [fk_ne _ _ (by decide), c4, hs4]; rfl
        have e1 : fmF_emit_p I (Int32.ofNat g) (Int32.ofNat o) aa ∧ fmF_emit_f I (Int32.ofNat g) (Int32.ofNat o) aa = (2, 0, I) := by
          simp (config := {decide := true}) only [fmF_emit_p, fmF_emit_f, t1, t4, w2', cg, vg, n40, fm_letE, fm_letT, ↓reduceIte, false_implies, true_implies, true_and, and_true, implies_true, not_true, not_false, and_self, not_true_eq_false, not_false_eq_true]
        have e2 : fmD_emit_p I (Int32.ofNat g) (Int32.ofNat o) ∧ fmD_emit_f I (Int32.ofNat g) (Int32.ofNat o) aa = (0, fm_u (fm_u I 24 0 18 0) 24 0 18 2) := by
          simp (config := {decide := true}) only [fmD_emit_p, fmD_emit_f, t2, t3, t4, w1', w2', cg, vg, e40, fk_bad1, fm_letE, fm_letT, ↓reduceIte, false_implies, true_implies, true_and, and_true, implies_true, not_true, not_false, and_self, not_true_eq_false, not_false_eq_true]
        rw [e1.2]
        dsimp only
        rw [e2.2]
        dsimp only
        exact ⟨e1.1, by omega, e2.1, fk_u_eq _, fun q => absurd q (by omega), D, fk_iv_18 2 (fk_iv_18 0 h)⟩
      · have l40 : I 2 g 4 < 40 := by
          rw [b8]; exact (fk_lt (b := 40) (by omega) (by omega)).mpr (by omega)
        have cs : (Int32.ofNat s).toNatClampNeg = s := fk_cl (by omega)
        have vs : vp_in (Int32.ofNat s) 40 := (fk_in (by omega)).mpr (by omega)
        have cs4 : (I 2 g 4).toNatClampNeg = s := by rw [b8]; exact cs
        have vs4 : vp_in (I 2 g 4) 40 := by rw [b8]; exact vs
        have ss : I 2 g 4 + 1 = Int32.ofNat (s + 1) := by rw [b8]; exact fk_s s
        obtain ⟨Ia, hIa⟩ : ∃ Ia, Ia = fm_u (fm_u (fm_u I 4 g s (Int32.ofNat o)) 5 g s aa) 2 g 4 (Int32.ofNat (s + 1)) := ⟨_, rfl⟩
        have e0 : fmU_append_p I g ∧ fmU_append_f I g (Int32.ofNat o) aa = Ia := by
          rw [hIa]
          simp only [fmU_append_p, fmU_append_f, cs4, vs4, ss, ↓reduceIte, false_implies, true_implies, true_and, and_true, implies_true, not_true, not_false, and_self, not_true_eq_false, not_false_eq_true]
        have ia4 : Ia 2 g 4 = Int32.ofNat (s + 1) := by rw [hIa, fk_u_eq]
        obtain ⟨I1, hI1⟩ : ∃ I1, I1 = fm_u Ia 0 0 3 0 := ⟨_, rfl⟩
        have e1 : fmF_emit_p I (Int32.ofNat g) (Int32.ofNat o) aa ∧ fmF_emit_f I (Int32.ofNat g) (Int32.ofNat o) aa = (0, Int32.ofNat (s + 1), I1) := by
          rw [hI1]
          simp (config := {decide := true}) only [fmF_emit_p, fmF_emit_f, t1, t4, w2', cg, vg, l40, e0.1, e0.2, ia4, fm_letE, fm_letT, ↓reduceIte, false_implies, true_implies, true_and, and_true, implies_true, not_true, not_false, and_self, not_true_eq_false, not_false_eq_true]
        have f1 : ∀ k i s', (2 ≤ k → k ≤ 5 → i = g → (k = 2 ∧ s' ≠ 4) ∨ k = 3 ∨ (k = 4 ∨ k = 5) ∧ s' ≠ s) → (k = 0 → s' ≠ 3) → I1 k i s' = I k i s' := fun k i s' a b => by
          rw [hI1, fk_ne3 _ _ b, hIa, fk_ne2 _ _ (by omega), fk_ne2 _ _ (by omega), fk_ne2 _ _ (by omega)]
        have hif : fmD_isFunction_f I1 (Int32.ofNat g) = 1 := by
          have : fmD_isFunction_f I1 (Int32.ofNat g) = fmD_isFunction_f I (Int32.ofNat g) := by
            unfold fmD_isFunction_f
            rw [f1 32 _ _ (by omega) (by omega)]
          rw [this, t3, t4]
        have q27 : (fm_u I1 24 0 18 0) 27 0 g = Int32.ofNat s := by rw [fk_ne _ _ (by decide), f1 27 _ _ (by omega) (by omega), c4]
        have n40 : ¬ Int32.ofNat s = 40 := fun q => hs4 ((fk_ie (b := 40) (by omega) (by omega)).mp q)
        have e4 : Int32.ofNat g * 40 + Int32.ofNat s = Int32.ofNat (g * 40 + s) := fk_f40 hg (by omega)
        have c4' : (Int32.ofNat (g * 40 + s)).toNatClampNeg = g * 40 + s := fk_cl (by omega)
        have v4' : vp_in (Int32.ofNat (g * 40 + s)) 160 := (fk_in (by omega)).mpr (by omega)
        have ss1 : Int32.ofNat s + 1 = Int32.ofNat (s + 1) := fk_s s
        obtain ⟨I2, hI2⟩ : ∃ I2, I2 = fm_u (fm_u (fm_u (fm_u I1 24 0 18 0) 25 0 (g * 40 + s) (Int32.ofNat o)) 26 0 (g * 40 + s) aa) 27 0 g (Int32.ofNat (s + 1)) := ⟨_, rfl⟩
        have e2 : fmD_emit_p I1 (Int32.ofNat g) (Int32.ofNat o) ∧ fmD_emit_f I1 (Int32.ofNat g) (Int32.ofNat o) aa = (I2 27 0 g, fm_u I2 24 0 19 0) := by
          rw [hI2]
          simp (config := {decide := true}) only [fmD_emit_p, fmD_emit_f, t2, hif, w1', w2', cg, vg, q27, n40, e4, c4', v4', ss1, fk_bad1, fm_letE, fm_letT, ↓reduceIte, false_implies, true_implies, true_and, and_true, implies_true, not_true, not_false, and_self, not_true_eq_false, not_false_eq_true]
        rw [e1.2]
        dsimp only
        rw [e2.2]
        dsimp only
        have f2 : ∀ k i s', (k = 24 → s' ≠ 18) → (k = 27 → s' ≠ g) → (k = 25 ∨ k = 26 → s' ≠ g * 40 + s) → I2 k i s' = I1 k i s' := fun k i s' a b c => by
          rw [hI2, fk_ne3 _ _ (by omega), fk_ne3 _ _ (by omega), fk_ne3 _ _ (by omega), fk_ne3 _ _ (by omega)]
        have i27 : I2 27 0 g = Int32.ofNat (s + 1) := by rw [hI2, fk_u_eq]
        refine ⟨e1.1, by omega, e2.1, ?_, fun _ => i27.symm, (D.1, D.2.1, D.2.2.1, D.2.2.2.1, D.2.2.2.2.1, fk_up D.2.2.2.2.2.1 g (s + 1), fk_up D.2.2.2.2.2.2.1 g (fk_up (D.2.2.2.2.2.2.1 g) s o), fk_up D.2.2.2.2.2.2.2 g (fk_up (D.2.2.2.2.2.2.2 g) s aa)), fk_newA h hg (fun g' hg' => ⟨rfl, rfl, rfl, rfl, rfl, fk_up_ne hg', fk_up_ne hg', fk_up_ne hg'⟩) (fun k i s' x1 x2 x3 x4 x5 x6 => ?_) ?_ ?_ ?_ ?_⟩
        · unfold fmD_thrown_f
          rw [fk_ne3 _ _ (by omega), hI2, fk_ne _ _ (by decide), fk_ne _ _ (by decide), fk_ne _ _ (by decide), fk_u_eq]; rfl
        · rw [fk_ne3 _ _ (by omega), f2 k i s' (by omega) (by omega) (by omega), f1 k i s' (by omega) (by omega)]
        · have f3 : ∀ k s', 2 ≤ k → k ≤ 5 → (fm_u I2 24 0 19 0) k g s' = I1 k g s' := fun k s' x1 x2 => by rw [fk_ne3 _ _ (by omega), f2 k g s' (by omega) (by omega) (by omega)]
          unfold fk_mCg
          dsimp only
          rw [fk_up_eq, fk_up_eq, fk_up_eq]
          refine ⟨by rw [f3 2 _ (by omega) (by omega), f1 2 _ _ (by omega) (by omega)]; exact a1, fun q => absurd ht (by rw [q]; decide), fun _ => ⟨by rw [f3 2 _ (by omega) (by omega), f1 2 _ _ (by omega) (by omega)]; exact b1, b2, by rw [f3 2 _ (by omega) (by omega), f1 2 _ _ (by omega) (by omega)]; exact b3, b4, b5, by rw [f3 2 _ (by omega) (by omega), f1 2 _ _ (by omega) (by omega)]; exact b6, b7, ?_, by omega, fun j hj => ⟨by rw [f3 3 _ (by omega) (by omega), f1 3 _ _ (by omega) (by omega)]; exact (b10 j hj).1, (b10 j hj).2⟩, fun i hi => ?_⟩⟩
          · rw [f3 2 _ (by omega) (by omega), hI1, fk_ne _ _ (by decide), ia4]
          · rw [f3 4 _ (by omega) (by omega), f3 5 _ (by omega) (by omega)]
            by_cases e : i = s
            · subst e
              rw [fk_up_eq, fk_up_eq, hI1, fk_ne _ _ (by decide), fk_ne _ _ (by decide), hIa, fk_ne _ _ (by decide), fk_ne _ _ (by decide), fk_u_eq, fk_ne _ _ (by decide), fk_u_eq]
              exact ⟨rfl, ho, rfl⟩
            · rw [fk_up_ne e, fk_up_ne e, f1 4 _ _ (by omega) (by omega), f1 5 _ _ (by omega) (by omega)]
              exact b11 i (by omega)
        · have f3 : ∀ k s', 25 ≤ k → k ≤ 32 → k ≠ 27 → (k = 25 ∨ k = 26 → s' ≠ g * 40 + s) → (fm_u I2 24 0 19 0) k 0 s' = I k 0 s' := fun k s' x1 x2 x3 x4 => by rw [fk_ne3 _ _ (by omega), f2 k 0 s' (by omega) (by omega) x4, f1 k 0 s' (by omega) (by omega)]
          unfold fk_mDg
          dsimp only
          rw [fk_up_eq, fk_up_eq, fk_up_eq]
          refine ⟨by rw [f3 32 _ (by omega) (by omega) (by omega) (by omega)]; exact d1, fun _ => ⟨by rw [f3 28 _ (by omega) (by omega) (by omega) (by omega)]; exact c1, by rw [f3 29 _ (by omega) (by omega) (by omega) (by omega)]; exact c2, by rw [f3 31 _ (by omega) (by omega) (by omega) (by omega)]; exact c3, by rw [fk_ne _ _ (by decide)]; exact i27, fun j hj => by rw [f3 30 _ (by omega) (by omega) (by omega) (by omega)]; exact c5 j hj, fun i hi => ?_⟩⟩
          by_cases e : i = s
          · subst e
            rw [fk_up_eq, fk_up_eq, fk_ne _ _ (by decide), fk_ne _ _ (by decide), hI2, fk_ne _ _ (by decide), fk_ne _ _ (by decide), fk_u_eq, fk_ne _ _ (by decide), fk_u_eq]
            exact ⟨rfl, rfl⟩
          · rw [fk_up_ne e, fk_up_ne e, f3 25 _ (by omega) (by omega) (by omega) (by omega), f3 26 _ (by omega) (by omega) (by omega) (by omega)]
            exact c6 i (by omega)
        · rw [fk_ne _ _ (by decide), f2 _ _ _ (by omega) (by omega) (by omega), hI1, fk_u_eq]
        · rw [fk_u_eq]
