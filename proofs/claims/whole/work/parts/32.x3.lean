theorem fm_letT {α : Type} (x : α) (f : α → Prop) : fm_let x f = f x := rfl
def fk_hd (o : Nat) (a : Int32) (x y : fk_cell) : Bool :=
  if a ≤ 1 then (if o = 18 then decide (¬ 0 ≤ lg_cmp x.1 y.1) else decide (lg_cmp x.1 y.1 = 0))
  else (if o = 18 then decide (¬ 0 ≤ Op.cmpValue (FP.dcmp x.2 y.2) .g) else decide (Op.cmpValue (FP.dcmp x.2 y.2) .l = 0))
theorem fk_cmH {o : Nat} {a : Int32} (ho : o = 18 ∨ o = 19) (ha : a = 0 ∨ a = 1 ∨ a = 2 ∨ a = 3) {J : fm_MJ} {G : fm_MG} {rg : Int32} (v1 : vp_in rg 212) (v2 : vp_in (rg + 1) 212) : fmM_compute_p J G (Int32.ofNat o) a rg ∧ fmM_compute_f J G (Int32.ofNat o) a rg = (0, fm_u J 20 0 rg.toNatClampNeg (if fk_hd o a (fk_cC J G rg.toNatClampNeg) (fk_cC J G (rg + 1).toNatClampNeg) = true then 1 else 0), G) := by
  rcases ho with rfl | rfl <;> rcases ha with rfl | rfl | rfl | rfl
  · by_cases hz : 0 ≤ lg_cmp (J 20 0 rg.toNatClampNeg) (J 20 0 (rg + 1).toNatClampNeg) <;> simp (config := {decide := true}) [fmM_compute_p, fmM_compute_f, fmM_holds_p, fmM_holds_f, fm_letE, fm_let, v1, v2, fk_hd, fk_cC, hz]
  · by_cases hz : 0 ≤ lg_cmp (J 20 0 rg.toNatClampNeg) (J 20 0 (rg + 1).toNatClampNeg) <;> simp (config := {decide := true}) [fmM_compute_p, fmM_compute_f, fmM_holds_p, fmM_holds_f, fm_letE, fm_let, v1, v2, fk_hd, fk_cC, hz]
  · by_cases hz : 0 ≤ Op.cmpValue (FP.dcmp (G 21 0 rg.toNatClampNeg) (G 21 0 (rg + 1).toNatClampNeg)) .g <;> simp (config := {decide := true}) [fmM_compute_p, fmM_compute_f, fmM_holds_p, fmM_holds_f, fm_letE, fm_let, v1, v2, fk_hd, fk_cC, hz]
  · by_cases hz : 0 ≤ Op.cmpValue (FP.dcmp (G 21 0 rg.toNatClampNeg) (G 21 0 (rg + 1).toNatClampNeg)) .g <;> simp (config := {decide := true}) [fmM_compute_p, fmM_compute_f, fmM_holds_p, fmM_holds_f, fm_letE, fm_let, v1, v2, fk_hd, fk_cC, hz]
  · by_cases hz : lg_cmp (J 20 0 rg.toNatClampNeg) (J 20 0 (rg + 1).toNatClampNeg) = 0 <;> simp (config := {decide := true}) [fmM_compute_p, fmM_compute_f, fmM_holds_p, fmM_holds_f, fm_letE, fm_let, v1, v2, fk_hd, fk_cC, hz]
  · by_cases hz : lg_cmp (J 20 0 rg.toNatClampNeg) (J 20 0 (rg + 1).toNatClampNeg) = 0 <;> simp (config := {decide := true}) [fmM_compute_p, fmM_compute_f, fmM_holds_p, fmM_holds_f, fm_letE, fm_let, v1, v2, fk_hd, fk_cC, hz]
  · by_cases hz : Op.cmpValue (FP.dcmp (G 21 0 rg.toNatClampNeg) (G 21 0 (rg + 1).toNatClampNeg)) .l = 0 <;> simp (config := {decide := true}) [fmM_compute_p, fmM_compute_f, fmM_holds_p, fmM_holds_f, fm_letE, fm_let, v1, v2, fk_hd, fk_cC, hz]
  · by_cases hz : Op.cmpValue (FP.dcmp (G 21 0 rg.toNatClampNeg) (G 21 0 (rg + 1).toNatClampNeg)) .l = 0 <;> simp (config := {decide := true}) [fmM_compute_p, fmM_compute_f, fmM_holds_p, fmM_holds_f, fm_letE, fm_let, v1, v2, fk_hd, fk_cC, hz]
theorem fk_arH {o : Nat} {a : Int32} (ho : o = 18 ∨ o = 19) (ha : a = 0 ∨ a = 1 ∨ a = 2 ∨ a = 3) {I : fm_MI} {J : fm_MJ} {G : fm_MG} {w : Int32} (e1 : I 24 0 28 - 2 = w) (v1 : vp_in w 260) (v2 : vp_in (w + 1) 260) (hp : fmD_push_p (fm_u I 24 0 28 w) 0 FP.dconst0) :
    fmD_arithmetic_p I J G (Int32.ofNat o) a ∧ fmD_arithmetic_f I J G (Int32.ofNat o) a = fmD_push_f (fm_u I 24 0 28 w) J G 0 (if fk_hd o a (fk_cD J G w.toNatClampNeg) (fk_cD J G (w + 1).toNatClampNeg) = true then 1 else 0) FP.dconst0 := by
  rcases ho with rfl | rfl <;> rcases ha with rfl | rfl | rfl | rfl
  · by_cases hz : 0 ≤ lg_cmp (J 40 0 w.toNatClampNeg) (J 40 0 (w + 1).toNatClampNeg) <;> simp (config := {decide := true}) only [fmD_arithmetic_p, fmD_arithmetic_f, fm_letE, ↓reduceIte, false_implies, true_implies, true_and, and_true, implies_true, not_true, not_false, and_self, not_true_eq_false, not_false_eq_true, decide_true, decide_false, decide_not, Bool.not_true, Bool.not_false, Bool.false_eq_true, e1, v1, v2, hp, fk_hd, fk_cD, hz]
  · by_cases hz : 0 ≤ lg_cmp (J 40 0 w.toNatClampNeg) (J 40 0 (w + 1).toNatClampNeg) <;> simp (config := {decide := true}) only [fmD_arithmetic_p, fmD_arithmetic_f, fm_letE, ↓reduceIte, false_implies, true_implies, true_and, and_true, implies_true, not_true, not_false, and_self, not_true_eq_false, not_false_eq_true, decide_true, decide_false, decide_not, Bool.not_true, Bool.not_false, Bool.false_eq_true, e1, v1, v2, hp, fk_hd, fk_cD, hz]
  · by_cases hz : 0 ≤ Op.cmpValue (FP.dcmp (G 41 0 w.toNatClampNeg) (G 41 0 (w + 1).toNatClampNeg)) .g <;> simp (config := {decide := true}) only [fmD_arithmetic_p, fmD_arithmetic_f, fmD_fractions_p, fmD_fractions_f, fm_letT, fm_letE, ↓reduceIte, false_implies, true_implies, true_and, and_true, implies_true, not_true, not_false, and_self, not_true_eq_false, not_false_eq_true, decide_true, decide_false, decide_not, Bool.not_true, Bool.not_false, Bool.false_eq_true, e1, v1, v2, hp, fk_hd, fk_cD, hz]
  · by_cases hz : 0 ≤ Op.cmpValue (FP.dcmp (G 41 0 w.toNatClampNeg) (G 41 0 (w + 1).toNatClampNeg)) .g <;> simp (config := {decide := true}) only [fmD_arithmetic_p, fmD_arithmetic_f, fmD_fractions_p, fmD_fractions_f, fm_letT, fm_letE, ↓reduceIte, false_implies, true_implies, true_and, and_true, implies_true, not_true, not_false, and_self, not_true_eq_false, not_false_eq_true, decide_true, decide_false, decide_not, Bool.not_true, Bool.not_false, Bool.false_eq_true, e1, v1, v2, hp, fk_hd, fk_cD, hz]
  · by_cases hz : lg_cmp (J 40 0 w.toNatClampNeg) (J 40 0 (w + 1).toNatClampNeg) = 0 <;> simp (config := {decide := true}) only [fmD_arithmetic_p, fmD_arithmetic_f, fm_letE, ↓reduceIte, false_implies, true_implies, true_and, and_true, implies_true, not_true, not_false, and_self, not_true_eq_false, not_false_eq_true, decide_true, decide_false, decide_not, Bool.not_true, Bool.not_false, Bool.false_eq_true, e1, v1, v2, hp, fk_hd, fk_cD, hz]
  · by_cases hz : lg_cmp (J 40 0 w.toNatClampNeg) (J 40 0 (w + 1).toNatClampNeg) = 0 <;> simp (config := {decide := true}) only [fmD_arithmetic_p, fmD_arithmetic_f, fm_letE, ↓reduceIte, false_implies, true_implies, true_and, and_true, implies_true, not_true, not_false, and_self, not_true_eq_false, not_false_eq_true, decide_true, decide_false, decide_not, Bool.not_true, Bool.not_false, Bool.false_eq_true, e1, v1, v2, hp, fk_hd, fk_cD, hz]
  · by_cases hz : Op.cmpValue (FP.dcmp (G 41 0 w.toNatClampNeg) (G 41 0 (w + 1).toNatClampNeg)) .l = 0 <;> simp (config := {decide := true}) only [fmD_arithmetic_p, fmD_arithmetic_f, fmD_fractions_p, fmD_fractions_f, fm_letT, fm_letE, ↓reduceIte, false_implies, true_implies, true_and, and_true, implies_true, not_true, not_false, and_self, not_true_eq_false, not_false_eq_true, decide_true, decide_false, decide_not, Bool.not_true, Bool.not_false, Bool.false_eq_true, e1, v1, v2, hp, fk_hd, fk_cD, hz]
  · by_cases hz : Op.cmpValue (FP.dcmp (G 41 0 w.toNatClampNeg) (G 41 0 (w + 1).toNatClampNeg)) .l = 0 <;> simp (config := {decide := true}) only [fmD_arithmetic_p, fmD_arithmetic_f, fmD_fractions_p, fmD_fractions_f, fm_letT, fm_letE, ↓reduceIte, false_implies, true_implies, true_and, and_true, implies_true, not_true, not_false, and_self, not_true_eq_false, not_false_eq_true, decide_true, decide_false, decide_not, Bool.not_true, Bool.not_false, Bool.false_eq_true, e1, v1, v2, hp, fk_hd, fk_cD, hz]
theorem fk_ar2 {D : fk_D} {f c b0 o : Nat} {tm : List Int32} {I I' : fm_MI} {J : fm_MJ} {G : fm_MG} {J' : fm_MJ} {G' : fm_MG} {a : Int32} (pa pb : Nat × Nat) (ati : Int32) (ho : o = 18 ∨ o = 19) (ha : a = 0 ∨ a = 1 ∨ a = 2 ∨ a = 3) (hy : fk_hy D f c b0 (a :: a :: tm) I I') (hpl : fk_pl D f c b0 (a :: a :: tm) (fk_cC J G) (fk_cC J G) (fk_cD J' G') (fk_cD J' G') (fk_cG J' G')) :
    fmM_compute_p J G (Int32.ofNat o) a (Int32.ofNat (26 * c + D.2.2.1 f + tm.length)) ∧ fmD_perform_p I' J' G' pa pb (Int32.ofNat f) (Int32.ofNat o) a ati ∧ fk_rq D f c b0 (0 :: tm) (fk_cC J G) (fk_cD J' G') I' (fmM_compute_f J G (Int32.ofNat o) a (Int32.ofNat (26 * c + D.2.2.1 f + tm.length))) (fmD_perform_f I' J' G' pa pb (Int32.ofNat f) (Int32.ofNat o) a ati) := by
  obtain ⟨⟨h19, v29, e28, e28b⟩, ⟨d1, d2, d3, d4⟩, ⟨c1, c2, c3, c4⟩, w, u0, u1⟩ := fk_bin hy hpl
  obtain ⟨hc, hn, hb0, -⟩ := hy
  obtain ⟨m1, m2⟩ := fk_cmH (J := J) (G := G) ho ha c1 c2
  rw [c3, c4] at m2
  have hh : fk_hd o a (fk_cC J G (26 * c + D.2.2.1 f + tm.length)) (fk_cC J G (26 * c + D.2.2.1 f + (tm.length + 1))) = fk_hd o a (fk_cD J' G' (b0 + D.2.2.1 f + tm.length)) (fk_cD J' G' (b0 + D.2.2.1 f + (tm.length + 1))) := by
    unfold fk_hd
    rcases ha with rfl | rfl | rfl | rfl
    · rw [if_pos (show (0 : Int32) ≤ 1 by decide), if_pos (show (0 : Int32) ≤ 1 by decide), (u0.1 rfl).1, (u1.1 rfl).1]
    · rw [if_pos (show (1 : Int32) ≤ 1 by decide), if_pos (show (1 : Int32) ≤ 1 by decide), u0.2.1 rfl, u1.2.1 rfl]
    · rw [if_neg (show ¬ (2 : Int32) ≤ 1 by decide), if_neg (show ¬ (2 : Int32) ≤ 1 by decide), (u0.2.2.1 rfl).1, (u1.2.2.1 rfl).1]
    · rw [if_neg (show ¬ (3 : Int32) ≤ 1 by decide), if_neg (show ¬ (3 : Int32) ≤ 1 by decide), (u0.2.2.2 rfl).1, (u1.2.2.2 rfl).1]
  rw [hh] at m2
  have hpush : ∀ b : Bool, fmD_push_p (fm_u I' 24 0 28 (Int32.ofNat (b0 + D.2.2.1 f + tm.length))) 0 FP.dconst0 ∧ fk_rz D f c b0 (0 :: tm) (fk_cC J G) (fk_cD J' G') I' (fm_u J 20 0 (26 * c + D.2.2.1 f + tm.length) (if b = true then 1 else 0), G) (fmD_push_f (fm_u I' 24 0 28 (Int32.ofNat (b0 + D.2.2.1 f + tm.length))) J' G' 0 (if b = true then 1 else 0) FP.dconst0) := by
    intro b
    exact fk_rz_push2 (I' := I') (t := 0) (u := (if b = true then 1 else 0, G 21 0 (26 * c + D.2.2.1 f + tm.length))) (v := if b = true then 1 else 0) (x := FP.dconst0) rfl hc hn hb0 (by omega) w (fk_cCJ J G _ _) (by
      cases b
      · exact fk_V0 (v := 0) rfl
      · exact fk_V0 (v := 1) rfl)
  obtain ⟨p1, p2⟩ := fk_arH (I := I') (J := J') (G := G') ho ha e28 d1 (by rw [show Int32.ofNat (b0 + D.2.2.1 f + tm.length) + 1 = Int32.ofNat (b0 + D.2.2.1 f + (tm.length + 1)) from fk_add _ 1]; exact d2) (hpush true).1
  rw [show Int32.ofNat (b0 + D.2.2.1 f + tm.length) + 1 = Int32.ofNat (b0 + D.2.2.1 f + (tm.length + 1)) from fk_add _ 1, d3, d4] at p2
  obtain ⟨q1, q2⟩ := fk_peA (o := o) (by omega) (I := I') (J := J') (G := G') pa pb (Int32.ofNat f) a ati v29 p1
  refine ⟨m1, q1, ?_⟩
  rw [q2, m2, p2]
  exact Or.inl ⟨rfl, (hpush _).2⟩
def fk_z0 (y : UInt64) : Prop := Op.cmpValue (FP.dcmp y FP.dconst0) .l = 0
def fk_FL : Prop :=
  (∀ x, fk_fi x → Op.cmpValue (FP.dcmp x x) .l = 0 ∧ fmA_isEndless_f x = 0) ∧
  (∀ o x y, (o = 11 ∨ o = 12 ∨ o = 13 ∨ o = 14) → fk_fi x → fk_fi y → (o = 14 → ¬ fk_z0 y) → vf_n64 (fmA_fractionOutcome_f (Int32.ofNat o) x y)) ∧
  (∀ o x y, (o = 11 ∨ o = 12 ∨ o = 13 ∨ o = 14) → fk_flt x → fk_flt y → (o = 14 → ¬ fk_z0 y) → FP.d2f (fmA_fractionOutcome_f (Int32.ofNat o) x y) = fmD_small_f (Int32.ofNat o) (FP.d2f x) (FP.d2f y) ∧ vf_n32 (fmD_small_f (Int32.ofNat o) (FP.d2f x) (FP.d2f y)) ∧ vf_n64 (FP.f2d (fmD_small_f (Int32.ofNat o) (FP.d2f x) (FP.d2f y))) ∧ FP.d2f (FP.f2d (fmD_small_f (Int32.ofNat o) (FP.d2f x) (FP.d2f y))) = fmD_small_f (Int32.ofNat o) (FP.d2f x) (FP.d2f y)) ∧
  (∀ x : Int64, vf_n64 (FP.l2d x) ∧ vf_n64 (FP.f2d (FP.l2f x)) ∧ vf_n32 (FP.l2f x) ∧ FP.d2f (FP.f2d (FP.l2f x)) = FP.l2f x) ∧
  (∀ x, fk_fi x → vf_n32 (FP.d2f x) ∧ vf_n64 (FP.f2d (FP.d2f x)) ∧ FP.d2f (FP.f2d (FP.d2f x)) = FP.d2f x ∧ fmD_large_f (FP.f2d (FP.d2f x)) = 0) ∧
  (∀ s : Int32, fk_fi (FP.dmul (FP.i2d s) 4593671619917905920) ∧ vf_n32 (FP.fmul (FP.i2f s) 1040187392) ∧ fk_flt (FP.f2d (FP.fmul (FP.i2f s) 1040187392)))
def fk_fO (o : Nat) (a : Int32) (x y : UInt64) : Option UInt64 :=
  if o = 14 ∧ fk_z0' y = true then none else
  (fun r => if fmD_large_f r = 0 then some r else none) (if a = 2 then FP.f2d (FP.d2f (fmA_fractionOutcome_f (Int32.ofNat o) x y)) else fmA_fractionOutcome_f (Int32.ofNat o) x y)
where fk_z0' (y : UInt64) : Bool := decide (Op.cmpValue (FP.dcmp y FP.dconst0) .l = 0)
theorem fk_tl (x : UInt64) : fmA_trapIfTooLarge_f x = if fmD_large_f x = 0 then 0 else 3 := by
  unfold fmA_trapIfTooLarge_f fmD_large_f
  by_cases h : 0 < Op.cmpValue (FP.dcmp x 4741671816366391296) .l
  · rw [if_pos h, if_pos h, if_neg (by decide)]
  · rw [if_neg h, if_neg h]
    by_cases h2 : 0 ≤ Op.cmpValue (FP.dcmp x 13965043853221167104) .g
    · rw [if_pos h2, if_pos h2, if_pos rfl]
    · rw [if_neg h2, if_neg h2, if_neg (by decide)]
theorem fk_fop {o : Nat} (ho : o = 11 ∨ o = 12 ∨ o = 13 ∨ o = 14) {x y : UInt64} (h : vf_n64 (fmA_fractionOutcome_f (Int32.ofNat o) x y)) : fmA_fractionOutcome_p (Int32.ofNat o) x y := by
  unfold fmA_fractionOutcome_f at h
  unfold fmA_fractionOutcome_p
  rcases ho with rfl | rfl | rfl | rfl
  · rw [if_pos (by decide)] at h
    exact ⟨fun _ => h, fun q => absurd (by decide) q⟩
  · rw [if_neg (by decide), if_pos (by decide)] at h
    exact ⟨fun q => absurd q (by decide), fun _ => ⟨fun _ => h, fun q => absurd (by decide) q⟩⟩
  · rw [if_neg (by decide), if_neg (by decide), if_pos (by decide)] at h
    exact ⟨fun q => absurd q (by decide), fun _ => ⟨fun q => absurd q (by decide), fun _ => ⟨fun _ => h, fun q => absurd (by decide) q⟩⟩⟩
  · rw [if_neg (by decide), if_neg (by decide), if_neg (by decide)] at h
    exact ⟨fun q => absurd q (by decide), fun _ => ⟨fun q => absurd q (by decide), fun _ => ⟨fun q => absurd q (by decide), fun _ => h⟩⟩⟩
theorem fk_fsp {o : Nat} (ho : o = 11 ∨ o = 12 ∨ o = 13 ∨ o = 14) {x y : UInt32} (h : vf_n32 (fmD_small_f (Int32.ofNat o) x y)) : fmD_small_p (Int32.ofNat o) x y := by
  unfold fmD_small_f at h
  unfold fmD_small_p
  rcases ho with rfl | rfl | rfl | rfl
  · rw [if_pos (by decide)] at h
    exact ⟨fun _ => h, fun q => absurd (by decide) q⟩
  · rw [if_neg (by decide), if_pos (by decide)] at h
    exact ⟨fun q => absurd q (by decide), fun _ => ⟨fun _ => h, fun q => absurd (by decide) q⟩⟩
  · rw [if_neg (by decide), if_neg (by decide), if_pos (by decide)] at h
    exact ⟨fun q => absurd q (by decide), fun _ => ⟨fun q => absurd q (by decide), fun _ => ⟨fun _ => h, fun q => absurd (by decide) q⟩⟩⟩
  · rw [if_neg (by decide), if_neg (by decide), if_neg (by decide)] at h
    exact ⟨fun q => absurd q (by decide), fun _ => ⟨fun q => absurd q (by decide), fun _ => ⟨fun q => absurd q (by decide), fun _ => h⟩⟩⟩
theorem fk_ofFC {o : Nat} {a : Int32} (ho : o = 11 ∨ o = 12 ∨ o = 13 ∨ o = 14) (ha : a = 2 ∨ a = 3) {x y : UInt64} (hx : Op.cmpValue (FP.dcmp x x) .l = 0 ∧ fmA_isEndless_f x = 0) (hy : Op.cmpValue (FP.dcmp y y) .l = 0 ∧ fmA_isEndless_f y = 0) (hn : (o = 14 → ¬ fk_z0 y) → vf_n64 (fmA_fractionOutcome_f (Int32.ofNat o) x y)) (h2 : (o = 14 → ¬ fk_z0 y) → a = 2 → vf_n32 (FP.d2f (fmA_fractionOutcome_f (Int32.ofNat o) x y)) ∧ vf_n64 (FP.f2d (FP.d2f (fmA_fractionOutcome_f (Int32.ofNat o) x y)))) : fmA_ofFractions_p (Int32.ofNat o) a x y ∧ fmA_ofFractions_f (Int32.ofNat o) a x y = match fk_fO o a x y with | none => (3, FP.dconst0) | some v => (0, v) := by
  obtain ⟨x1, x2⟩ := hx
  obtain ⟨y1, y2⟩ := hy
  by_cases hz : o = 14 ∧ Op.cmpValue (FP.dcmp y FP.dconst0) .l = 0
  · obtain ⟨rfl, hz'⟩ := hz
    simp (config := {decide := true}) only [fmA_ofFractions_p, fmA_ofFractions_f, fm_letE, fm_letT, fk_fO, fk_fO.fk_z0', hz', ↓reduceIte, false_implies, true_implies, true_and, and_true, implies_true, not_true, not_false, and_self, not_true_eq_false, not_false_eq_true, decide_true, decide_false, false_and, and_false, Bool.false_eq_true]
  · have hz1 : o = 14 → ¬ fk_z0 y := fun h1 h2 => hz ⟨h1, h2⟩
    have hn1 := hn hz1
    have hp1 := fk_fop ho hn1
    have hq1 := h2 hz1
    have hO : fk_fO o a x y = (fun r => if fmD_large_f r = 0 then some r else none) (if a = 2 then FP.f2d (FP.d2f (fmA_fractionOutcome_f (Int32.ofNat o) x y)) else fmA_fractionOutcome_f (Int32.ofNat o) x y) := by
      unfold fk_fO fk_fO.fk_z0'
      rw [if_neg (fun z => hz ⟨z.1, of_decide_eq_true z.2⟩)]
    rw [hO]
    have hz2 : o = 14 → ¬ Op.cmpValue (FP.dcmp y FP.dconst0) .l = 0 := hz1
    rcases ha with rfl | rfl
    · obtain ⟨k1, k2⟩ := hq1 rfl
      by_cases hl : fmD_large_f (FP.f2d (FP.d2f (fmA_fractionOutcome_f (Int32.ofNat o) x y))) = 0 <;> rcases ho with rfl | rfl | rfl | rfl <;>
      first
      | (simp (config := {decide := true}) only [fmA_ofFractions_p, fmA_ofFractions_f, fm_letE, fm_letT, x1, x2, y1, y2, hp1, k1, k2, fk_tl, hl, ↓reduceIte, false_implies, true_implies, true_and, and_true, implies_true, not_true, not_false, and_self, not_true_eq_false, not_false_eq_true, decide_true, decide_false, false_and, and_false, Bool.false_eq_true]; done)
      | (have hz3 := hz2 rfl
         simp (config := {decide := true}) only [fmA_ofFractions_p, fmA_ofFractions_f, fm_letE, fm_letT, x1, x2, y1, y2, hp1, k1, k2, fk_tl, hl, hz3, ↓reduceIte, false_implies, true_implies, true_and, and_true, implies_true, not_true, not_false, and_self, not_true_eq_false, not_false_eq_true, decide_true, decide_false, false_and, and_false, Bool.false_eq_true])
    · by_cases hl : fmD_large_f (fmA_fractionOutcome_f (Int32.ofNat o) x y) = 0 <;> rcases ho with rfl | rfl | rfl | rfl <;>
      first
      | (simp (config := {decide := true}) only [fmA_ofFractions_p, fmA_ofFractions_f, fm_letE, fm_letT, x1, x2, y1, y2, hp1, fk_tl, hl, ↓reduceIte, false_implies, true_implies, true_and, and_true, implies_true, not_true, not_false, and_self, not_true_eq_false, not_false_eq_true, decide_true, decide_false, false_and, and_false, Bool.false_eq_true]; done)
      | (have hz3 := hz2 rfl
         simp (config := {decide := true}) only [fmA_ofFractions_p, fmA_ofFractions_f, fm_letE, fm_letT, x1, x2, y1, y2, hp1, fk_tl, hl, hz3, ↓reduceIte, false_implies, true_implies, true_and, and_true, implies_true, not_true, not_false, and_self, not_true_eq_false, not_false_eq_true, decide_true, decide_false, false_and, and_false, Bool.false_eq_true])
theorem fk_arF {o : Nat} {a : Int32} (ho : o = 11 ∨ o = 12 ∨ o = 13 ∨ o = 14) (ha : a = 2 ∨ a = 3) {I : fm_MI} {J : fm_MJ} {G : fm_MG} {x y : UInt64} {w : Int32} (e1 : I 24 0 28 - 2 = w) (v1 : vp_in w 260) (v2 : vp_in (w + 1) 260) (hx : G 41 0 w.toNatClampNeg = x) (hy : G 41 0 (w + 1).toNatClampNeg = y) (hn : a = 3 → (o = 14 → ¬ fk_z0 y) → vf_n64 (fmA_fractionOutcome_f (Int32.ofNat o) x y)) (h2 : a = 2 → (o = 14 → ¬ fk_z0 y) → vf_n32 (FP.d2f x) ∧ vf_n32 (FP.d2f y) ∧ FP.d2f (fmA_fractionOutcome_f (Int32.ofNat o) x y) = fmD_small_f (Int32.ofNat o) (FP.d2f x) (FP.d2f y) ∧ vf_n32 (fmD_small_f (Int32.ofNat o) (FP.d2f x) (FP.d2f y)) ∧ vf_n64 (FP.f2d (fmD_small_f (Int32.ofNat o) (FP.d2f x) (FP.d2f y)))) (hp : ∀ v, fk_fO o a x y = some v → fmD_push_p (fm_u I 24 0 28 w) a v) :
    fmD_arithmetic_p I J G (Int32.ofNat o) a ∧ fmD_arithmetic_f I J G (Int32.ofNat o) a = match fk_fO o a x y with | none => (fm_u (fm_u I 24 0 28 w) 24 0 18 3, J, G) | some v => fmD_push_f (fm_u I 24 0 28 w) J G a 0 v := by
  have n1 : ¬ a ≤ 1 := by rcases ha with rfl | rfl <;> decide
  have hfr : fmD_fractions_p (fm_u I 24 0 28 w) (Int32.ofNat o) a x y ∧ fmD_fractions_f (fm_u I 24 0 28 w) J G (Int32.ofNat o) a x y = match fk_fO o a x y with | none => (fm_u (fm_u I 24 0 28 w) 24 0 18 3, J, G) | some v => fmD_push_f (fm_u I 24 0 28 w) J G a 0 v := by
    by_cases hz : o = 14 ∧ Op.cmpValue (FP.dcmp y FP.dconst0) .l = 0
    · obtain ⟨rfl, hz'⟩ := hz
      simp (config := {decide := true}) only [fmD_fractions_p, fmD_fractions_f, fm_letE, fm_letT, fk_fO, fk_fO.fk_z0', hz', ↓reduceIte, false_implies, true_implies, true_and, and_true, implies_true, not_true, not_false, and_self, not_true_eq_false, not_false_eq_true, decide_true, decide_false, false_and, and_false, Bool.false_eq_true]
    · have hz1 : o = 14 → ¬ fk_z0 y := fun h1 h2 => hz ⟨h1, h2⟩
      have hO : fk_fO o a x y = (fun r => if fmD_large_f r = 0 then some r else none) (if a = 2 then FP.f2d (FP.d2f (fmA_fractionOutcome_f (Int32.ofNat o) x y)) else fmA_fractionOutcome_f (Int32.ofNat o) x y) := by
        unfold fk_fO fk_fO.fk_z0'
        rw [if_neg (fun z => hz ⟨z.1, of_decide_eq_true z.2⟩)]
      rw [hO] at hp ⊢
      have hz2 : o = 14 → ¬ Op.cmpValue (FP.dcmp y FP.dconst0) .l = 0 := hz1
      rcases ha with rfl | rfl
      · obtain ⟨k1, k2, k3, k4, k5⟩ := h2 rfl hz1
        have k6 := fk_fsp ho k4
        rw [k3] at hp ⊢
        dsimp only at hp ⊢
        rw [if_pos rfl] at hp ⊢
        by_cases hl : fmD_large_f (FP.f2d (fmD_small_f (Int32.ofNat o) (FP.d2f x) (FP.d2f y))) = 0
        · rw [if_pos hl] at hp ⊢
          have hpp := hp _ rfl
          rcases ho with rfl | rfl | rfl | rfl <;>
          first
          | (simp (config := {decide := true}) only [fmD_fractions_p, fmD_fractions_f, fm_letE, fm_letT, k1, k2, k4, k5, k6, hl, hpp, ↓reduceIte, false_implies, true_implies, true_and, and_true, implies_true, not_true, not_false, and_self, not_true_eq_false, not_false_eq_true, decide_true, decide_false, false_and, and_false, Bool.false_eq_true]; done)
          | (have hz3 := hz2 rfl
             simp (config := {decide := true}) only [fmD_fractions_p, fmD_fractions_f, fm_letE, fm_letT, k1, k2, k4, k5, k6, hl, hpp, hz3, ↓reduceIte, false_implies, true_implies, true_and, and_true, implies_true, not_true, not_false, and_self, not_true_eq_false, not_false_eq_true, decide_true, decide_false, false_and, and_false, Bool.false_eq_true])
        · rw [if_neg hl]
          rcases ho with rfl | rfl | rfl | rfl <;>
          first
          | (simp (config := {decide := true}) only [fmD_fractions_p, fmD_fractions_f, fm_letE, fm_letT, k1, k2, k4, k5, k6, hl, ↓reduceIte, false_implies, true_implies, true_and, and_true, implies_true, not_true, not_false, and_self, not_true_eq_false, not_false_eq_true, decide_true, decide_false, false_and, and_false, Bool.false_eq_true]; done)
          | (have hz3 := hz2 rfl
             simp (config := {decide := true}) only [fmD_fractions_p, fmD_fractions_f, fm_letE, fm_letT, k1, k2, k4, k5, k6, hl, hz3, ↓reduceIte, false_implies, true_implies, true_and, and_true, implies_true, not_true, not_false, and_self, not_true_eq_false, not_false_eq_true, decide_true, decide_false, false_and, and_false, Bool.false_eq_true])
      · have k1 := hn rfl hz1
        dsimp only at hp ⊢
        rw [if_neg (show ¬ (3 : Int32) = 2 by decide)] at hp ⊢
        by_cases hl : fmD_large_f (fmA_fractionOutcome_f (Int32.ofNat o) x y) = 0
        · rw [if_pos hl] at hp ⊢
          have hpp := hp _ rfl
          rcases ho with rfl | rfl | rfl | rfl <;> simp (config := {decide := true}) only [fmA_fractionOutcome_f, ↓reduceIte] at k1 hl hpp ⊢ <;>
          first
          | (simp (config := {decide := true}) only [fmD_fractions_p, fmD_fractions_f, fm_letE, fm_letT, k1, hl, hpp, ↓reduceIte, false_implies, true_implies, true_and, and_true, implies_true, not_true, not_false, and_self, not_true_eq_false, not_false_eq_true, decide_true, decide_false, false_and, and_false, Bool.false_eq_true]; done)
          | (have hz3 := hz2 rfl
             simp (config := {decide := true}) only [fmD_fractions_p, fmD_fractions_f, fm_letE, fm_letT, k1, hl, hpp, hz3, ↓reduceIte, false_implies, true_implies, true_and, and_true, implies_true, not_true, not_false, and_self, not_true_eq_false, not_false_eq_true, decide_true, decide_false, false_and, and_false, Bool.false_eq_true])
        · rw [if_neg hl]
          rcases ho with rfl | rfl | rfl | rfl <;> simp (config := {decide := true}) only [fmA_fractionOutcome_f, ↓reduceIte] at k1 hl ⊢ <;>
          first
          | (simp (config := {decide := true}) only [fmD_fractions_p, fmD_fractions_f, fm_letE, fm_letT, k1, hl, ↓reduceIte, false_implies, true_implies, true_and, and_true, implies_true, not_true, not_false, and_self, not_true_eq_false, not_false_eq_true, decide_true, decide_false, false_and, and_false, Bool.false_eq_true]; done)
          | (have hz3 := hz2 rfl
             simp (config := {decide := true}) only [fmD_fractions_p, fmD_fractions_f, fm_letE, fm_letT, k1, hl, hz3, ↓reduceIte, false_implies, true_implies, true_and, and_true, implies_true, not_true, not_false, and_self, not_true_eq_false, not_false_eq_true, decide_true, decide_false, false_and, and_false, Bool.false_eq_true])
  constructor
  · unfold fmD_arithmetic_p
    rw [e1, hx, hy]
    exact ⟨v1, v2, v1, v2, fun q => absurd q n1, fun _ => hfr.1⟩
  · unfold fmD_arithmetic_f
    rw [if_neg n1, e1, hx, hy, fm_letE]
    exact hfr.2
theorem fk_cmF {o : Nat} {a : Int32} (ho : o = 11 ∨ o = 12 ∨ o = 13 ∨ o = 14) (ha : a = 2 ∨ a = 3) {J : fm_MJ} {G : fm_MG} {rg : Int32} (v1 : vp_in rg 212) (v2 : vp_in (rg + 1) 212) {z : Option UInt64} (h1 : fmA_ofFractions_p (Int32.ofNat o) a (G 21 0 rg.toNatClampNeg) (G 21 0 (rg + 1).toNatClampNeg)) (h2 : fmA_ofFractions_f (Int32.ofNat o) a (G 21 0 rg.toNatClampNeg) (G 21 0 (rg + 1).toNatClampNeg) = match z with | none => (3, FP.dconst0) | some v => (0, v)) : fmM_compute_p J G (Int32.ofNat o) a rg ∧ fmM_compute_f J G (Int32.ofNat o) a rg = z.elim (3, J, G) (fun v => (0, J, fm_u G 21 0 rg.toNatClampNeg v)) := by
  have n1 : (1 : Int32) < a := by rcases ha with rfl | rfl <;> decide
  have n2 : ¬ Int32.ofNat o = 20 ∧ ¬ Int32.ofNat o = 18 ∧ ¬ Int32.ofNat o = 19 := by rcases ho with rfl | rfl | rfl | rfl <;> decide
  unfold fmM_compute_p fmM_compute_f
  refine ⟨⟨fun h => absurd h n2.1, fun _ => ⟨fun h => absurd h n2.2.1, fun _ => ⟨fun h => absurd h n2.2.2, fun _ => ⟨fun _ => ⟨v1, v2, h1, fm_letQ (fun _ => v1)⟩, fun h => absurd n1 h⟩⟩⟩⟩, ?_⟩
  rw [if_neg n2.1, if_neg n2.2.1, if_neg n2.2.2, if_pos n1, h2]
  cases z with
  | none => rfl
  | some v => rfl
theorem fk_V2 {u : fk_cell} {v : Int64} {x : UInt64} (h : u.2 = x) (hx : fk_flt x) : fk_V 2 u (v, x) := ⟨fun q => absurd q (by decide), fun q => absurd q (by decide), fun _ => ⟨h, hx⟩, fun q => absurd q (by decide)⟩
theorem fk_V3 {u : fk_cell} {v : Int64} {x : UInt64} (h : u.2 = x) (hx : fk_fi x) : fk_V 3 u (v, x) := ⟨fun q => absurd q (by decide), fun q => absurd q (by decide), fun q => absurd q (by decide), fun _ => ⟨h, hx⟩⟩
theorem fk_fO_some {o : Nat} {a : Int32} {x y v : UInt64} (h : fk_fO o a x y = some v) : (o = 14 → ¬ fk_z0 y) ∧ fmD_large_f v = 0 ∧ v = (if a = 2 then FP.f2d (FP.d2f (fmA_fractionOutcome_f (Int32.ofNat o) x y)) else fmA_fractionOutcome_f (Int32.ofNat o) x y) := by
  unfold fk_fO fk_fO.fk_z0' at h
  by_cases hz : o = 14 ∧ decide (Op.cmpValue (FP.dcmp y FP.dconst0) .l = 0) = true
  · rw [if_pos hz] at h; cases h
  · rw [if_neg hz] at h
    dsimp only at h
    refine ⟨fun h1 h2 => hz ⟨h1, decide_eq_true h2⟩, ?_⟩
    generalize (if a = 2 then FP.f2d (FP.d2f (fmA_fractionOutcome_f (Int32.ofNat o) x y)) else fmA_fractionOutcome_f (Int32.ofNat o) x y) = r at h
    by_cases hl : fmD_large_f r = 0
    · rw [if_pos hl] at h
      cases h
      exact ⟨hl, rfl⟩
    · rw [if_neg hl] at h; cases h
theorem fk_ar3 (HF : fk_FL) {D : fk_D} {f c b0 o : Nat} {tm : List Int32} {I I' : fm_MI} {J : fm_MJ} {G : fm_MG} {J' : fm_MJ} {G' : fm_MG} {a : Int32} (pa pb : Nat × Nat) (ati : Int32) (ho : o = 11 ∨ o = 12 ∨ o = 13 ∨ o = 14) (ha : a = 2 ∨ a = 3) (hy : fk_hy D f c b0 (a :: a :: tm) I I') (hpl : fk_pl D f c b0 (a :: a :: tm) (fk_cC J G) (fk_cC J G) (fk_cD J' G') (fk_cD J' G') (fk_cG J' G')) :
    fmM_compute_p J G (Int32.ofNat o) a (Int32.ofNat (26 * c + D.2.2.1 f + tm.length)) ∧ fmD_perform_p I' J' G' pa pb (Int32.ofNat f) (Int32.ofNat o) a ati ∧ fk_rq D f c b0 (a :: tm) (fk_cC J G) (fk_cD J' G') I' (fmM_compute_f J G (Int32.ofNat o) a (Int32.ofNat (26 * c + D.2.2.1 f + tm.length))) (fmD_perform_f I' J' G' pa pb (Int32.ofNat f) (Int32.ofNat o) a ati) := by
  obtain ⟨⟨h19, v29, e28, e28b⟩, ⟨d1, d2, d3, d4⟩, ⟨c1, c2, c3, c4⟩, w, u0, u1⟩ := fk_bin hy hpl
  obtain ⟨hc, hn, hb0, -⟩ := hy
  obtain ⟨HA, HB, HC, -⟩ := HF
  have hV : ∀ u v, fk_V a u v → u.2 = v.2 ∧ fk_fi v.2 ∧ (a = 2 → fk_flt v.2) := fun u v h => by
    rcases ha with rfl | rfl
    · exact ⟨(h.2.2.1 rfl).1, (h.2.2.1 rfl).2.1, fun _ => (h.2.2.1 rfl).2⟩
    · exact ⟨(h.2.2.2 rfl).1, (h.2.2.2 rfl).2, fun q => absurd q (by decide)⟩
  obtain ⟨g0, i0, f0⟩ := hV _ _ u0
  obtain ⟨g1, i1, f1⟩ := hV _ _ u1
  have g0 : G 21 0 (26 * c + D.2.2.1 f + tm.length) = G' 41 0 (b0 + D.2.2.1 f + tm.length) := g0
  have g1 : G 21 0 (26 * c + D.2.2.1 f + (tm.length + 1)) = G' 41 0 (b0 + D.2.2.1 f + (tm.length + 1)) := g1
  have i0 : fk_fi (G' 41 0 (b0 + D.2.2.1 f + tm.length)) := i0
  have i1 : fk_fi (G' 41 0 (b0 + D.2.2.1 f + (tm.length + 1))) := i1
  have f0 : a = 2 → fk_flt (G' 41 0 (b0 + D.2.2.1 f + tm.length)) := f0
  have f1 : a = 2 → fk_flt (G' 41 0 (b0 + D.2.2.1 f + (tm.length + 1))) := f1
  generalize hxe : G' 41 0 (b0 + D.2.2.1 f + tm.length) = x at g0 i0 f0
  generalize hye : G' 41 0 (b0 + D.2.2.1 f + (tm.length + 1)) = y at g1 i1 f1
  have hB : (o = 14 → ¬ fk_z0 y) → vf_n64 (fmA_fractionOutcome_f (Int32.ofNat o) x y) := fun hz => HB o x y ho i0 i1 hz
  have hC : a = 2 → (o = 14 → ¬ fk_z0 y) → _ := fun h2 hz => HC o x y ho (f0 h2) (f1 h2) hz
  obtain ⟨k1, k2⟩ := fk_ofFC ho ha (HA x i0) (HA y i1) hB (fun hz h2 => by
    obtain ⟨t1, t2, t3, t4⟩ := hC h2 hz
    rw [t1]
    exact ⟨t2, t3⟩)
  obtain ⟨m1, m2⟩ := fk_cmF (J := J) (G := G) (z := fk_fO o a x y) ho ha c1 c2 (by rw [c3, c4, g0, g1]; exact k1) (by rw [c3, c4, g0, g1]; exact k2)
  rw [c3] at m2
  have hpush : ∀ v, fk_fO o a x y = some v → fmD_push_p (fm_u I' 24 0 28 (Int32.ofNat (b0 + D.2.2.1 f + tm.length))) a v ∧ fk_rz D f c b0 (a :: tm) (fk_cC J G) (fk_cD J' G') I' (J, fm_u G 21 0 (26 * c + D.2.2.1 f + tm.length) v) (fmD_push_f (fm_u I' 24 0 28 (Int32.ofNat (b0 + D.2.2.1 f + tm.length))) J' G' a 0 v) := by
    intro v hv
    obtain ⟨z1, z2, z3⟩ := fk_fO_some hv
    refine fk_rz_push2 (I' := I') (t := a) (u := (J 20 0 (26 * c + D.2.2.1 f + tm.length), v)) (v := 0) (x := v) rfl hc hn hb0 (by omega) w (fk_cCG J G _ _) ?_
    rcases ha with rfl | rfl
    · obtain ⟨t1, t2, t3, t4⟩ := hC rfl z1
      rw [if_pos rfl, t1] at z3
      refine fk_V2 rfl ⟨⟨?_, z2⟩, ?_, ?_⟩
      · rw [z3]; exact t3
      · rw [z3, t4]; exact t2
      · rw [z3, t4]
    · rw [if_neg (by decide)] at z3
      exact fk_V3 rfl ⟨by rw [z3]; exact hB z1, z2⟩
  obtain ⟨p1, p2⟩ := fk_arF (I := I') (J := J') (G := G') (x := x) (y := y) ho ha e28 d1 (by rw [show Int32.ofNat (b0 + D.2.2.1 f + tm.length) + 1 = Int32.ofNat (b0 + D.2.2.1 f + (tm.length + 1)) from fk_add _ 1]; exact d2) (by rw [d3]; exact hxe) (by rw [show Int32.ofNat (b0 + D.2.2.1 f + tm.length) + 1 = Int32.ofNat (b0 + D.2.2.1 f + (tm.length + 1)) from fk_add _ 1, d4]; exact hye) (fun _ hz => hB hz) (fun h2 hz => by
    obtain ⟨t1, t2, t3, t4⟩ := hC h2 hz
    exact ⟨(f0 h2).2.1, (f1 h2).2.1, t1, t2, t3⟩) (fun v hv => (hpush v hv).1)
  obtain ⟨q1, q2⟩ := fk_peA (o := o) (by omega) (I := I') (J := J') (G := G') pa pb (Int32.ofNat f) a ati v29 p1
  refine ⟨m1, q1, ?_⟩
  rw [q2, m2, p2]
  cases hz : fk_fO o a x y with
  | none => exact fk_rq_trap _ w
  | some v => exact Or.inl ⟨rfl, (hpush v hz).2⟩
theorem fk_up_id {α : Type} (f : Nat → α) (n : Nat) : f = fk_up f n (f n) := by
  funext m
  unfold fk_up
  split
  · rename_i h; rw [h]
  · rfl
theorem fk_un {D : fk_D} {f c b0 : Nat} {tm : List Int32} {a : Int32} {I I' : fm_MI} {J : fm_MJ} {G : fm_MG} {J' : fm_MJ} {G' : fm_MG} (hy : fk_hy D f c b0 (a :: tm) I I') (hpl : fk_pl D f c b0 (a :: tm) (fk_cC J G) (fk_cC J G) (fk_cD J' G') (fk_cD J' G') (fk_cG J' G')) :
    (tm.length < 20 ∧ vp_in (I' 24 0 29 - 1) 10 ∧ I' 24 0 28 - 1 = Int32.ofNat (b0 + D.2.2.1 f + tm.length)) ∧ (vp_in (Int32.ofNat (b0 + D.2.2.1 f + tm.length)) 260 ∧ (Int32.ofNat (b0 + D.2.2.1 f + tm.length)).toNatClampNeg = b0 + D.2.2.1 f + tm.length) ∧
    (vp_in (Int32.ofNat (26 * c + D.2.2.1 f + tm.length)) 212 ∧ (Int32.ofNat (26 * c + D.2.2.1 f + tm.length)).toNatClampNeg = 26 * c + D.2.2.1 f + tm.length) ∧
    fk_pl D f c b0 tm (fk_cC J G) (fk_cC J G) (fk_cD J' G') (fk_cD J' G') (fk_cG J' G') ∧ fk_V a (fk_cC J G (26 * c + D.2.2.1 f + tm.length)) (fk_cD J' G' (b0 + D.2.2.1 f + tm.length)) := by
  obtain ⟨hc, hn, hb0, ht20, h6, h28, h29, h44⟩ := hy
  have e29 : I' 24 0 29 - 1 = Int32.ofNat c := by rw [h29, fk_d (by omega)]; rfl
  have v29 : vp_in (I' 24 0 29 - 1) 10 := by rw [e29]; exact (fk_in (by omega)).mpr (by omega)
  have hlen : (a :: tm : List Int32).length = tm.length + 1 := rfl
  rw [hlen] at h28 ht20
  have e28 : I' 24 0 28 - 1 = Int32.ofNat (b0 + D.2.2.1 f + tm.length) := (fk_28m h28 (m := 1) (by omega)).trans (congrArg Int32.ofNat (by omega))
  obtain ⟨w1, u1⟩ := fk_pl_pop hpl
  exact ⟨⟨by omega, v29, e28⟩, ⟨(fk_in (by omega)).mpr (by omega), fk_cl (by omega)⟩, ⟨(fk_in (by omega)).mpr (by omega), fk_cl (by omega)⟩, w1, u1⟩
theorem fk_rq_trapG {D : fk_D} {f c b0 n : Nat} {v : UInt64} {ts ts0 : List Int32} {C E C0 E0 : Nat → fk_cell} {I' : fm_MI} {J : fm_MJ} {G : fm_MG} {J' : fm_MJ} {G' : fm_MG} (w : Int32) (hn : n < 208) (h : fk_pl D f c b0 ts0 C0 (fk_cC J G) E0 (fk_cD J' G') (fk_cG J' G')) : fk_rq D f c b0 ts C E I' (3, J, fm_u G 21 0 n v) (fm_u (fm_u I' 24 0 28 w) 24 0 18 3, J', G') := by
  refine Or.inr ⟨rfl, fun k i s hk => ?_, (by dsimp only; exact fk_u_eq _), fun g hg => ?_⟩
  · dsimp only
    rw [fm_u_if, if_neg (fun z => hk ⟨z.1, z.2.1, Or.inr z.2.2⟩), fm_u_if, if_neg (fun z => hk ⟨z.1, z.2.1, Or.inl z.2.2⟩)]
  · dsimp only
    rw [fk_cCG, fk_up_ne (by omega)]
    exact h.2.2.2.2 g hg
theorem fk_cvt (HF : fk_FL) {D : fk_D} {f c b0 : Nat} {tm : List Int32} {I I' : fm_MI} {J : fm_MJ} {G : fm_MG} {J' : fm_MJ} {G' : fm_MG} {fro tou : Int32} (hfr : fro = 0 ∨ fro = 1 ∨ fro = 2 ∨ fro = 3) (hto : tou = 0 ∨ tou = 1 ∨ tou = 2 ∨ tou = 3) (hy : fk_hy D f c b0 (fro :: tm) I I') (hpl : fk_pl D f c b0 (fro :: tm) (fk_cC J G) (fk_cC J G) (fk_cD J' G') (fk_cD J' G') (fk_cG J' G')) :
    fmM_convert_p J G fro tou (Int32.ofNat (26 * c + D.2.2.1 f + tm.length)) ∧ fmD_convert_p I' J' G' fro tou ∧ fk_rq D f c b0 (tou :: tm) (fk_cC J G) (fk_cD J' G') I' (fmM_convert_f J G fro tou (Int32.ofNat (26 * c + D.2.2.1 f + tm.length))) (fmD_convert_f I' J' G' fro tou) := by
  obtain ⟨⟨h19, v29, e28⟩, ⟨d1, d3⟩, ⟨c1, c3⟩, w, u0⟩ := fk_un hy hpl
  obtain ⟨hc, hn, hb0, -⟩ := hy
  obtain ⟨HA, -, -, HE, HG, -⟩ := HF
  generalize hwd : Int32.ofNat (b0 + D.2.2.1 f + tm.length) = wd at *
  generalize hrd : Int32.ofNat (26 * c + D.2.2.1 f + tm.length) = rg at *
  have hp208 : 26 * c + D.2.2.1 f + tm.length < 208 := by omega
  generalize hqd : 26 * c + D.2.2.1 f + tm.length = q at *
  generalize hbd : b0 + D.2.2.1 f + tm.length = bt at *
  have PJ : ∀ (t : Int32) (vc vd : Int64), fk_V t (vc, G 21 0 q) (vd, FP.dconst0) → fmD_push_p (fm_u I' 24 0 28 wd) t FP.dconst0 ∧ fk_rz D f c b0 (t :: tm) (fk_cC J G) (fk_cD J' G') I' (fm_u J 20 0 q vc, G) (fmD_push_f (fm_u I' 24 0 28 wd) J' G' t vd FP.dconst0) := fun t vc vd hv =>
    fk_rz_push2 (I' := I') (t := t) (u := (vc, G 21 0 q)) (by rw [hbd]; exact hwd.symm) hc hn hb0 h19 w (by rw [hqd]; exact fk_cCJ J G _ _) hv
  have PG : ∀ (t : Int32) (x : UInt64), fk_V t (J 20 0 q, x) (0, x) → fmD_push_p (fm_u I' 24 0 28 wd) t x ∧ fk_rz D f c b0 (t :: tm) (fk_cC J G) (fk_cD J' G') I' (J, fm_u G 21 0 q x) (fmD_push_f (fm_u I' 24 0 28 wd) J' G' t 0 x) := fun t x hv =>
    fk_rz_push2 (I' := I') (t := t) (u := (J 20 0 q, x)) (by rw [hbd]; exact hwd.symm) hc hn hb0 h19 w (by rw [hqd]; exact fk_cCG J G _ _) hv
  have PU : ∀ (t : Int32) (v : Int64) (x : UInt64), fk_V t (fk_cC J G q) (v, x) → fmD_push_p (fm_u I' 24 0 28 wd) t x ∧ fk_rz D f c b0 (t :: tm) (fk_cC J G) (fk_cD J' G') I' (J, G) (fmD_push_f (fm_u I' 24 0 28 wd) J' G' t v x) := fun t v x hv =>
    fk_rz_push2 (I' := I') (t := t) (u := fk_cC J G q) (by rw [hbd]; exact hwd.symm) hc hn hb0 h19 w (by rw [hqd]; exact fk_up_id _ _) hv
  have TG : ∀ (t : Int32) (v : UInt64), fk_rq D f c b0 (t :: tm) (fk_cC J G) (fk_cD J' G') I' (3, J, fm_u G 21 0 q v) (fm_u (fm_u I' 24 0 28 wd) 24 0 18 3, J', G') := fun t v => fk_rq_trapG wd hp208 w
  have hW : fro = 0 ∨ fro = 1 → J 20 0 q = J' 40 0 bt := fun h => by
    rcases h with rfl | rfl
    · exact (u0.1 rfl).1
    · exact u0.2.1 rfl
  have hX : fro = 2 ∨ fro = 3 → G 21 0 q = G' 41 0 bt ∧ fk_fi (G' 41 0 bt) := fun h => by
    rcases h with rfl | rfl
    · exact ⟨(u0.2.2.1 rfl).1, (u0.2.2.1 rfl).2.1⟩
    · exact u0.2.2.2 rfl
  have hfr2 : (fro = 0 ∨ fro = 1) ∨ (fro = 2 ∨ fro = 3) := by
    rcases hfr with h | h | h | h
    · exact Or.inl (Or.inl h)
    · exact Or.inl (Or.inr h)
    · exact Or.inr (Or.inl h)
    · exact Or.inr (Or.inr h)
  rcases hfr2 with hA | hA
  · have hw := hW hA
    have n1 : fro ≤ 1 := by rcases hA with rfl | rfl <;> decide
    have n2 : ¬ (1 : Int32) < fro := by rcases hA with rfl | rfl <;> decide
    have n3 : ¬ (2 : Int32) ≤ fro := by rcases hA with rfl | rfl <;> decide
    rcases hto with rfl | rfl | rfl | rfl
    · obtain ⟨r1, r2⟩ := PJ 0 (J' 40 0 bt).toInt32.toInt64 (J' 40 0 bt).toInt32.toInt64 (fk_V0 rfl)
      rw [← fk_pushW] at r2
      simp (config := {decide := true}) only [fmM_convert_p, fmM_convert_f, fmD_convert_p, fmD_convert_f, fm_letE, fm_letT, n1, n2, n3, e28, d1, d3, c1, c3, hw, r1, ↓reduceIte, false_implies, true_implies, true_and, and_true, implies_true, not_true, not_false, and_self, not_true_eq_false, not_false_eq_true]
      exact Or.inl ⟨rfl, r2⟩
    · obtain ⟨r1, r2⟩ := PU 1 (J' 40 0 bt) FP.dconst0 (fk_V1 hw)
      simp (config := {decide := true}) only [fmM_convert_p, fmM_convert_f, fmD_convert_p, fmD_convert_f, fm_letE, fm_letT, n1, n2, n3, e28, d1, d3, c1, c3, hw, r1, ↓reduceIte, false_implies, true_implies, true_and, and_true, implies_true, not_true, not_false, and_self, not_true_eq_false, not_false_eq_true]
      exact Or.inl ⟨rfl, r2⟩
    · obtain ⟨t1, t2, t3, t4⟩ := HE (J' 40 0 bt)
      by_cases hl : fmD_large_f (FP.f2d (FP.l2f (J' 40 0 bt))) = 0
      · obtain ⟨r1, r2⟩ := PG 2 (FP.f2d (FP.l2f (J' 40 0 bt))) (fk_V2 rfl ⟨⟨t2, hl⟩, by rw [t4]; exact t3, by rw [t4]⟩)
        simp (config := {decide := true}) only [fmM_convert_p, fmM_convert_f, fmD_convert_p, fmD_convert_f, fm_letE, fm_letT, n1, n2, n3, e28, d1, d3, c1, c3, hw, t2, fk_tl, fk_u_eq, hl, r1, ↓reduceIte, false_implies, true_implies, true_and, and_true, implies_true, not_true, not_false, and_self, not_true_eq_false, not_false_eq_true]
        exact Or.inl ⟨rfl, r2⟩
      · simp (config := {decide := true}) only [fmM_convert_p, fmM_convert_f, fmD_convert_p, fmD_convert_f, fm_letE, fm_letT, n1, n2, n3, e28, d1, d3, c1, c3, hw, t2, fk_tl, fk_u_eq, hl, ↓reduceIte, false_implies, true_implies, true_and, and_true, implies_true, not_true, not_false, and_self, not_true_eq_false, not_false_eq_true]
        exact TG _ _
    · obtain ⟨t1, t2, t3, t4⟩ := HE (J' 40 0 bt)
      by_cases hl : fmD_large_f (FP.l2d (J' 40 0 bt)) = 0
      · obtain ⟨r1, r2⟩ := PG 3 (FP.l2d (J' 40 0 bt)) (fk_V3 rfl ⟨t1, hl⟩)
        simp (config := {decide := true}) only [fmM_convert_p, fmM_convert_f, fmD_convert_p, fmD_convert_f, fm_letE, fm_letT, n1, n2, n3, e28, d1, d3, c1, c3, hw, fk_tl, fk_u_eq, hl, r1, ↓reduceIte, false_implies, true_implies, true_and, and_true, implies_true, not_true, not_false, and_self, not_true_eq_false, not_false_eq_true]
        exact Or.inl ⟨rfl, r2⟩
      · simp (config := {decide := true}) only [fmM_convert_p, fmM_convert_f, fmD_convert_p, fmD_convert_f, fm_letE, fm_letT, n1, n2, n3, e28, d1, d3, c1, c3, hw, fk_tl, fk_u_eq, hl, ↓reduceIte, false_implies, true_implies, true_and, and_true, implies_true, not_true, not_false, and_self, not_true_eq_false, not_false_eq_true]
        exact TG _ _
  · obtain ⟨hw, hfi⟩ := hX hA
    obtain ⟨hnn, -⟩ := HA _ hfi
    obtain ⟨t1, t2, t3, t4⟩ := HG _ hfi
    have n1 : ¬ fro ≤ 1 := by rcases hA with rfl | rfl <;> decide
    have n2 : (1 : Int32) < fro := by rcases hA with rfl | rfl <;> decide
    have n3 : (2 : Int32) ≤ fro := by rcases hA with rfl | rfl <;> decide
    rcases hto with rfl | rfl | rfl | rfl
    · obtain ⟨r1, r2⟩ := PJ 0 (FP.d2i (G' 41 0 bt)).toInt64 (FP.d2i (G' 41 0 bt)).toInt64 (by
        have := fk_V0 (u := ((FP.d2i (G' 41 0 bt)).toInt64, G 21 0 q)) (v := (FP.d2i (G' 41 0 bt)).toInt64) (x := FP.dconst0) (fk_i32 _).symm
        rw [fk_i32] at this
        exact this)
      simp (config := {decide := true}) only [fmM_convert_p, fmM_convert_f, fmD_convert_p, fmD_convert_f, fm_letE, fm_letT, n1, n2, n3, e28, d1, d3, c1, c3, hw, r1, ↓reduceIte, false_implies, true_implies, true_and, and_true, implies_true, not_true, not_false, and_self, not_true_eq_false, not_false_eq_true]
      exact Or.inl ⟨rfl, r2⟩
    · obtain ⟨r1, r2⟩ := PJ 1 (FP.d2l (G' 41 0 bt)) (FP.d2l (G' 41 0 bt)) (fk_V1 rfl)
      simp (config := {decide := true}) only [fmM_convert_p, fmM_convert_f, fmD_convert_p, fmD_convert_f, fm_letE, fm_letT, n1, n2, n3, e28, d1, d3, c1, c3, hw, r1, ↓reduceIte, false_implies, true_implies, true_and, and_true, implies_true, not_true, not_false, and_self, not_true_eq_false, not_false_eq_true]
      exact Or.inl ⟨rfl, r2⟩
    · obtain ⟨r1, r2⟩ := PG 2 (FP.f2d (FP.d2f (G' 41 0 bt))) (fk_V2 rfl ⟨⟨t2, t4⟩, by rw [t3]; exact t1, by rw [t3]⟩)
      simp (config := {decide := true}) only [fmM_convert_p, fmM_convert_f, fmD_convert_p, fmD_convert_f, fmA_asFloat_p, fmA_asFloat_f, hnn, fm_letE, fm_letT, n1, n2, n3, e28, d1, d3, c1, c3, hw, t1, t2, t4, fk_tl, fk_u_eq, r1, ↓reduceIte, false_implies, true_implies, true_and, and_true, implies_true, not_true, not_false, and_self, not_true_eq_false, not_false_eq_true]
      exact Or.inl ⟨rfl, r2⟩
    · obtain ⟨r1, r2⟩ := PU 3 0 (G' 41 0 bt) (fk_V3 hw hfi)
      have hl := hfi.2
      simp (config := {decide := true}) only [fmM_convert_p, fmM_convert_f, fmD_convert_p, fmD_convert_f, fm_letE, fm_letT, n1, n2, n3, e28, d1, d3, c1, c3, hw, fk_tl, hl, r1, ↓reduceIte, false_implies, true_implies, true_and, and_true, implies_true, not_true, not_false, and_self, not_true_eq_false, not_false_eq_true]
      exact Or.inl ⟨rfl, r2⟩
