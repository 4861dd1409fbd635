def fk_XC (I : fm_MI) (J : fm_MJ) (G : fm_MG) (I1 : fm_MI) (J1 : fm_MJ) (G1 : fm_MG) : Prop := (∀ k i s, k ≠ 18 → k ≠ 22 → k ≠ 23 → I1 k i s = I k i s) ∧ (∀ k i s, k ≠ 20 → J1 k i s = J k i s) ∧ ∀ k i s, k ≠ 21 → G1 k i s = G k i s
def fk_XD (I : fm_MI) (J : fm_MJ) (G : fm_MG) (I1 : fm_MI) (J1 : fm_MJ) (G1 : fm_MG) : Prop := (∀ k i s, k < 42 ∨ 47 < k → (k = 24 → s = 19) → I1 k i s = I k i s) ∧ (∀ k i s, k ≠ 33 → k ≠ 40 → J1 k i s = J k i s) ∧ ∀ k i s, k ≠ 34 → k ≠ 41 → G1 k i s = G k i s
theorem fk_XC_r {I : fm_MI} {J : fm_MJ} {G : fm_MG} : fk_XC I J G I J G := ⟨fun _ _ _ _ _ _ => rfl, fun _ _ _ _ => rfl, fun _ _ _ _ => rfl⟩
theorem fk_XD_r {I : fm_MI} {J : fm_MJ} {G : fm_MG} : fk_XD I J G I J G := ⟨fun _ _ _ _ _ => rfl, fun _ _ _ _ _ => rfl, fun _ _ _ _ _ => rfl⟩
theorem fk_XC_t {I I1 I2 : fm_MI} {J J1 J2 : fm_MJ} {G G1 G2 : fm_MG} (h : fk_XC I J G I1 J1 G1) (g : fk_XC I1 J1 G1 I2 J2 G2) : fk_XC I J G I2 J2 G2 := ⟨fun k i s a b c => (g.1 k i s a b c).trans (h.1 k i s a b c), fun k i s a => (g.2.1 k i s a).trans (h.2.1 k i s a), fun k i s a => (g.2.2 k i s a).trans (h.2.2 k i s a)⟩
theorem fk_XD_t {I I1 I2 : fm_MI} {J J1 J2 : fm_MJ} {G G1 G2 : fm_MG} (h : fk_XD I J G I1 J1 G1) (g : fk_XD I1 J1 G1 I2 J2 G2) : fk_XD I J G I2 J2 G2 := ⟨fun k i s a b => (g.1 k i s a b).trans (h.1 k i s a b), fun k i s a b => (g.2.1 k i s a b).trans (h.2.1 k i s a b), fun k i s a b => (g.2.2 k i s a b).trans (h.2.2 k i s a b)⟩
theorem fk_ne {α : Type} (f : Nat → Nat → Nat → α) {k i s k' i' s' : Nat} (x : α) (h : k' ≠ k) : fm_u f k i s x k' i' s' = f k' i' s' := by
  rw [fm_u_if, if_neg (fun z => h z.1)]
theorem fk_ne3 {α : Type} (f : Nat → Nat → Nat → α) {k i s k' i' s' : Nat} (x : α) (h : k' = k → s' ≠ s) : fm_u f k i s x k' i' s' = f k' i' s' := by
  rw [fm_u_if, if_neg (fun z => h z.1 z.2.2)]
theorem fk_XC_I {I I1 : fm_MI} {J J1 : fm_MJ} {G G1 : fm_MG} (k i s : Nat) (x : Int32) (hk : k = 18 ∨ k = 22 ∨ k = 23) (h : fk_XC I J G I1 J1 G1) : fk_XC I J G (fm_u I1 k i s x) J1 G1 := ⟨fun k' i' s' a b c => (fk_ne _ _ (by omega)).trans (h.1 k' i' s' a b c), h.2⟩
theorem fk_XC_J {I I1 : fm_MI} {J J1 : fm_MJ} {G G1 : fm_MG} (i s : Nat) (x : Int64) (h : fk_XC I J G I1 J1 G1) : fk_XC I J G I1 (fm_u J1 20 i s x) G1 := ⟨h.1, fun k' i' s' a => (fk_ne _ _ a).trans (h.2.1 k' i' s' a), h.2.2⟩
theorem fk_XC_G {I I1 : fm_MI} {J J1 : fm_MJ} {G G1 : fm_MG} (i s : Nat) (x : UInt64) (h : fk_XC I J G I1 J1 G1) : fk_XC I J G I1 J1 (fm_u G1 21 i s x) := ⟨h.1, h.2.1, fun k' i' s' a => (fk_ne _ _ a).trans (h.2.2 k' i' s' a)⟩
theorem fk_XD_I {I I1 : fm_MI} {J J1 : fm_MJ} {G G1 : fm_MG} (k i s : Nat) (x : Int32) (hk : (42 ≤ k ∧ k ≤ 47) ∨ (k = 24 ∧ s ≠ 19)) (h : fk_XD I J G I1 J1 G1) : fk_XD I J G (fm_u I1 k i s x) J1 G1 := ⟨fun k' i' s' a b => (fk_ne3 _ _ (fun e e2 => by
  rcases hk with q | q
  · omega
  · exact q.2 (e2 ▸ b (e.trans q.1)))).trans (h.1 k' i' s' a b), h.2⟩
theorem fk_XD_J {I I1 : fm_MI} {J J1 : fm_MJ} {G G1 : fm_MG} (k i s : Nat) (x : Int64) (hk : k = 33 ∨ k = 40) (h : fk_XD I J G I1 J1 G1) : fk_XD I J G I1 (fm_u J1 k i s x) G1 := ⟨h.1, fun k' i' s' a b => (fk_ne _ _ (by omega)).trans (h.2.1 k' i' s' a b), h.2.2⟩
theorem fk_XD_G {I I1 : fm_MI} {J J1 : fm_MJ} {G G1 : fm_MG} (k i s : Nat) (x : UInt64) (hk : k = 34 ∨ k = 41) (h : fk_XD I J G I1 J1 G1) : fk_XD I J G I1 J1 (fm_u G1 k i s x) := ⟨h.1, h.2.1, fun k' i' s' a b => (fk_ne _ _ (by omega)).trans (h.2.2 k' i' s' a b)⟩
def fk_xq2 (I : fm_MI) (J : fm_MJ) (G : fm_MG) (x : fm_MJ × fm_MG) : Prop := fk_XC I J G I x.1 x.2
def fk_xq3 (I : fm_MI) (J : fm_MJ) (G : fm_MG) (x : fm_MI × fm_MJ × fm_MG) : Prop := fk_XC I J G x.1 x.2.1 x.2.2
def fk_xq4 (I : fm_MI) (J : fm_MJ) (G : fm_MG) (x : Nat × fm_MI × fm_MJ × fm_MG) : Prop := fk_XC I J G x.2.1 x.2.2.1 x.2.2.2
def fk_xq5 (I : fm_MI) (J : fm_MJ) (G : fm_MG) (x : Nat × fm_MJ × fm_MG) : Prop := fk_XC I J G I x.2.1 x.2.2
theorem fk_xc_copy (I : fm_MI) (J : fm_MJ) (G : fm_MG) (a b : Int32) : fk_XC I J G I (fmM_copy_f J G a b).1 (fmM_copy_f J G a b).2 := by
  unfold fmM_copy_f
  exact fk_XC_G _ _ _ (fk_XC_J _ _ _ fk_XC_r)
theorem fk_ite {α : Type} {P : α → Prop} {c : Prop} [Decidable c] {a b : α} (ha : P a) (hb : P b) : P (if c then a else b) := by
  split
  · exact ha
  · exact hb
theorem fk_xc_mv (I0 I : fm_MI) (J : fm_MJ) (G : fm_MG) (op a rg : Int32) : fk_XC I0 J G I0 (fmM_moveValues_f I J G op a rg).1 (fmM_moveValues_f I J G op a rg).2 := by
  show fk_xq2 I0 J G (fmM_moveValues_f I J G op a rg)
  unfold fmM_moveValues_f
  repeat' (refine fk_ite (P := fk_xq2 I0 J G) ?_ ?_)
  all_goals first | exact fk_XC_r | exact fk_XC_J _ _ _ fk_XC_r | exact fk_XC_G _ _ _ fk_XC_r | exact fk_xc_copy _ _ _ _ _
theorem fk_xc_cv (I : fm_MI) (J : fm_MJ) (G : fm_MG) (fr t rg : Int32) : fk_XC I J G I (fmM_convert_f J G fr t rg).2.1 (fmM_convert_f J G fr t rg).2.2 := by
  show fk_xq5 I J G (fmM_convert_f J G fr t rg)
  unfold fmM_convert_f
  repeat' split
  all_goals (try simp only [fm_letE])
  all_goals (try repeat' split)
  all_goals first | exact fk_XC_r | exact fk_XC_J _ _ _ fk_XC_r | exact fk_XC_G _ _ _ fk_XC_r
theorem fk_xc_cm (I : fm_MI) (J : fm_MJ) (G : fm_MG) (op a rg : Int32) : fk_XC I J G I (fmM_compute_f J G op a rg).2.1 (fmM_compute_f J G op a rg).2.2 := by
  show fk_xq5 I J G (fmM_compute_f J G op a rg)
  unfold fmM_compute_f
  repeat' split
  all_goals (try simp only [fm_letE])
  all_goals (try repeat' split)
  all_goals first | exact fk_XC_r | exact fk_XC_J _ _ _ fk_XC_r | exact fk_XC_G _ _ _ fk_XC_r | exact fk_xc_cv _ _ _ _ _ _
theorem fk_xc_jump (I : fm_MI) (J : fm_MJ) (G : fm_MG) (f : Nat) (rw rg : Int32) : fk_XC I J G (fmM_jump_f I J G f rw rg).1 (fmM_jump_f I J G f rw rg).2.1 (fmM_jump_f I J G f rw rg).2.2 := by
  show fk_xq3 I J G (fmM_jump_f I J G f rw rg)
  unfold fmM_jump_f
  split
  · exact fk_XC_I _ _ _ _ (by omega) fk_XC_r
  · exact fk_XC_I _ _ _ _ (by omega) (fk_xc_copy _ _ _ _ _)
theorem fk_xc_enL (pa : Nat × Nat) (y1 : Int32) : ∀ (n : Nat) (I : fm_MI) (J : fm_MJ) (G : fm_MG) (y2 : Int32), fk_XC I J G (fmM_enter_L58_f n I J G pa y1 y2).1 (fmM_enter_L58_f n I J G pa y1 y2).2.1 (fmM_enter_L58_f n I J G pa y1 y2).2.2
  | 0, I, J, G, y2 => fk_XC_r
  | n + 1, I, J, G, y2 => by
    show fk_xq3 I J G (fmM_enter_L58_f (n + 1) I J G pa y1 y2)
    unfold fmM_enter_L58_f
    split
    · exact fk_XC_r
    · exact fk_XC_t (fk_XC_G _ _ _ (fk_XC_J _ _ _ fk_XC_r)) (fk_xc_enL pa y1 n I _ _ (y2 + 1))
theorem fk_xc_en (I : fm_MI) (J : fm_MJ) (G : fm_MG) (pa : Nat × Nat) (f : Int32) : fk_XC I J G (fmM_enter_f I J G pa f).1 (fmM_enter_f I J G pa f).2.1 (fmM_enter_f I J G pa f).2.2 := by
  unfold fmM_enter_f
  exact fk_XC_t (fk_XC_I _ _ _ _ (by omega) (fk_XC_I _ _ _ _ (by omega) (fk_XC_I _ _ _ _ (by omega) (fk_XC_I _ _ _ _ (by omega) (fk_XC_I _ _ _ _ (by omega) fk_XC_r))))) (fk_xc_enL pa f 7 _ _ _ _)
theorem fk_xc_clL (pa : Nat × Nat) (y1 y2 : Int32) : ∀ (n : Nat) (I : fm_MI) (J : fm_MJ) (G : fm_MG) (y3 : Int32), fk_XC I J G (fmM_callFunction_L24_f n I J G pa y1 y2 y3).2.1 (fmM_callFunction_L24_f n I J G pa y1 y2 y3).2.2.1 (fmM_callFunction_L24_f n I J G pa y1 y2 y3).2.2.2
  | 0, I, J, G, y3 => fk_XC_r
  | n + 1, I, J, G, y3 => by
    show fk_xq4 I J G (fmM_callFunction_L24_f (n + 1) I J G pa y1 y2 y3)
    unfold fmM_callFunction_L24_f
    split
    · exact fk_XC_r
    · exact fk_XC_t (fk_xc_copy _ _ _ _ _) (fk_xc_clL pa y1 y2 n I _ _ (y3 + 1))
theorem fk_xc_call (I : fm_MI) (J : fm_MJ) (G : fm_MG) (pa : Nat × Nat) (f rg : Int32) : fk_XC I J G (fmM_callFunction_f I J G pa f rg).2.1 (fmM_callFunction_f I J G pa f rg).2.2.1 (fmM_callFunction_f I J G pa f rg).2.2.2 := by
  show fk_xq4 I J G (fmM_callFunction_f I J G pa f rg)
  unfold fmM_callFunction_f
  split
  · exact fk_XC_r
  · exact fk_XC_t (fk_xc_en I J G pa f) (fk_xc_clL pa f rg 4 _ _ _ _)
theorem fk_xc_go (I : fm_MI) (J : fm_MJ) (G : fm_MG) (pa : Nat × Nat) (f : Nat) (rw rg : Int32) : fk_XC I J G (fmM_goOnElsewhere_f I J G pa f rw rg).2.1 (fmM_goOnElsewhere_f I J G pa f rw rg).2.2.1 (fmM_goOnElsewhere_f I J G pa f rw rg).2.2.2 := by
  show fk_xq4 I J G (fmM_goOnElsewhere_f I J G pa f rw rg)
  unfold fmM_goOnElsewhere_f
  repeat' split
  all_goals (try simp only [fm_letE])
  all_goals (try repeat' split)
  all_goals first | exact fk_XC_r | exact fk_XC_I _ _ _ _ (by omega) fk_XC_r | exact fk_xc_jump _ _ _ _ _ _ | exact fk_xc_call _ _ _ _ _ _
theorem fk_xc_step (I : fm_MI) (J : fm_MJ) (G : fm_MG) (pa : Nat × Nat) : fk_XC I J G (fmM_step_f I J G pa).2.1 (fmM_step_f I J G pa).2.2.1 (fmM_step_f I J G pa).2.2.2 := by
  show fk_xq4 I J G (fmM_step_f I J G pa)
  unfold fmM_step_f
  repeat' split
  all_goals (try simp only [fm_letE])
  all_goals (try repeat' split)
  all_goals first | exact fk_XC_t (fk_XC_I _ _ _ _ (by omega) fk_XC_r) (fk_xc_go _ _ _ _ _ _ _) | exact fk_XC_t (fk_XC_I _ _ _ _ (by omega) fk_XC_r) (fk_xc_cm _ _ _ _ _ _) | exact fk_XC_t (fk_XC_I _ _ _ _ (by omega) fk_XC_r) (fk_xc_mv _ _ _ _ _ _ _)
theorem fk_xc_back (I : fm_MI) (J : fm_MJ) (G : fm_MG) (f : Nat) : fk_XC I J G (fmM_backToCaller_f I J G f).1 (fmM_backToCaller_f I J G f).2.1 (fmM_backToCaller_f I J G f).2.2 := by
  show fk_xq3 I J G (fmM_backToCaller_f I J G f)
  unfold fmM_backToCaller_f
  split
  · exact fk_XC_I _ _ _ _ (by omega) fk_XC_r
  · exact fk_XC_I _ _ _ _ (by omega) (fk_xc_copy _ _ _ _ _)
theorem fk_xc_lv (pa : Nat × Nat) : ∀ (n : Nat) (I : fm_MI) (J : fm_MJ) (G : fm_MG), fk_XC I J G (fmM_leaveWhatHasEnded_L0_f n I J G pa).1 (fmM_leaveWhatHasEnded_L0_f n I J G pa).2.1 (fmM_leaveWhatHasEnded_L0_f n I J G pa).2.2
  | 0, I, J, G => fk_XC_r
  | n + 1, I, J, G => by
    show fk_xq3 I J G (fmM_leaveWhatHasEnded_L0_f (n + 1) I J G pa)
    unfold fmM_leaveWhatHasEnded_L0_f
    split
    · exact fk_XC_r
    · split
      · exact fk_XC_r
      · split
        · exact fk_XC_t (fk_XC_I _ _ _ _ (by omega) fk_XC_r) (fk_xc_lv pa n _ _ _)
        · exact fk_XC_t (fk_XC_t (fk_XC_I _ _ _ _ (by omega) fk_XC_r) (fk_xc_back _ _ _ _)) (fk_xc_lv pa n _ _ _)
theorem fk_xc_wk (pa : Nat × Nat) (fu : Int32) : ∀ (n : Nat) (I : fm_MI) (J : fm_MJ) (G : fm_MG), fk_XC I J G (fmM_work_L4_f n I J G pa fu).2.1 (fmM_work_L4_f n I J G pa fu).2.2.1 (fmM_work_L4_f n I J G pa fu).2.2.2
  | 0, I, J, G => fk_XC_r
  | n + 1, I, J, G => by
    show fk_xq4 I J G (fmM_work_L4_f (n + 1) I J G pa fu)
    unfold fmM_work_L4_f
    split
    · exact fk_XC_r
    · split
      · exact fk_XC_r
      · rw [fm_letE]
        split
        · exact fk_XC_t (fk_XC_t (fk_XC_t (fk_XC_I _ _ _ _ (by omega) fk_XC_r) (fk_xc_step _ _ _ _)) (fk_xc_lv pa 9 _ _ _)) (fk_xc_wk pa fu n _ _ _)
        · exact fk_XC_t (fk_XC_I _ _ _ _ (by omega) fk_XC_r) (fk_xc_step _ _ _ _)
theorem fk_xc_work (I : fm_MI) (J : fm_MJ) (G : fm_MG) (pa : Nat × Nat) (fu : Int32) : fk_XC I J G (fmM_work_f I J G pa fu).2.1 (fmM_work_f I J G pa fu).2.2.1 (fmM_work_f I J G pa fu).2.2.2 := by
  unfold fmM_work_f
  exact fk_XC_t (fk_xc_lv pa 9 _ _ _) (fk_xc_wk pa fu 302 _ _ _)
def fk_xd3 (I : fm_MI) (J : fm_MJ) (G : fm_MG) (x : fm_MI × fm_MJ × fm_MG) : Prop := fk_XD I J G x.1 x.2.1 x.2.2
theorem fk_xd_push (I : fm_MI) (J : fm_MJ) (G : fm_MG) (t : Int32) (v : Int64) (x : UInt64) : fk_xd3 I J G (fmD_push_f I J G t v x) := by
  unfold fmD_push_f
  repeat' (with_reducible refine fk_ite (P := fk_xd3 I J G) ?_ ?_)
  all_goals exact fk_XD_I _ _ _ _ (by omega) (fk_XD_J _ _ _ _ (by omega) (fk_XD_G _ _ _ _ (by omega) fk_XD_r))
theorem fk_xd_push2 (I : fm_MI) (J : fm_MJ) (G : fm_MG) (w t : Int32) (v : Int64) (x : UInt64) : fk_xd3 I J G (fmD_push_f (fm_u I 24 0 28 w) J G t v x) := fk_XD_t (fk_XD_I _ _ _ _ (by omega) fk_XD_r) (fk_xd_push _ _ _ _ _ _)
theorem fk_xd_choice (I : fm_MI) (J : fm_MJ) (G : fm_MG) : fk_xd3 I J G (fmD_choice_f I J G) := by
  unfold fmD_choice_f
  refine fk_ite (P := fk_xd3 I J G) ?_ ?_
  · exact fk_XD_I _ _ _ _ (by omega) (fk_XD_I _ _ _ _ (by omega) (fk_XD_J _ _ _ _ (by omega) (fk_XD_G _ _ _ _ (by omega) fk_XD_r)))
  · exact fk_XD_I _ _ _ _ (by omega) (fk_XD_I _ _ _ _ (by omega) fk_XD_r)
theorem fk_xd_frac (I : fm_MI) (J : fm_MJ) (G : fm_MG) (o t : Int32) (x y : UInt64) : fk_xd3 I J G (fmD_fractions_f I J G o t x y) := by
  unfold fmD_fractions_f
  repeat' (with_reducible refine fk_ite (P := fk_xd3 I J G) ?_ ?_)
  all_goals (try rw [fm_letE])
  all_goals (try rw [fm_letE])
  all_goals (repeat' (with_reducible refine fk_ite (P := fk_xd3 I J G) ?_ ?_))
  all_goals first | exact fk_xd_push _ _ _ _ _ _ | exact fk_XD_I _ _ _ _ (by omega) fk_XD_r
theorem fk_xd_ar (I : fm_MI) (J : fm_MJ) (G : fm_MG) (o t : Int32) : fk_xd3 I J G (fmD_arithmetic_f I J G o t) := by
  unfold fmD_arithmetic_f
  repeat' (with_reducible refine fk_ite (P := fk_xd3 I J G) ?_ ?_)
  all_goals first | exact fk_xd_push2 _ _ _ _ _ _ _ | exact fk_XD_I _ _ _ _ (by omega) (fk_XD_I _ _ _ _ (by omega) fk_XD_r) | exact fk_XD_t (fk_XD_I _ _ _ _ (by omega) fk_XD_r) (fk_xd_frac _ _ _ _ _ _ _)
theorem fk_xd_cv (I : fm_MI) (J : fm_MJ) (G : fm_MG) (a b : Int32) : fk_xd3 I J G (fmD_convert_f I J G a b) := by
  unfold fmD_convert_f
  repeat' (with_reducible refine fk_ite (P := fk_xd3 I J G) ?_ ?_)
  all_goals (try rw [fm_letE])
  all_goals (try rw [fm_letE])
  all_goals (repeat' (with_reducible refine fk_ite (P := fk_xd3 I J G) ?_ ?_))
  all_goals first | exact fk_xd_push2 _ _ _ _ _ _ _ | exact fk_XD_I _ _ _ _ (by omega) (fk_XD_I _ _ _ _ (by omega) fk_XD_r)
theorem fk_xd_open (I I0 : fm_MI) (J : fm_MJ) (G : fm_MG) (a : Int32) (h : fk_XD I0 J G I J G) : fk_XD I0 J G (fmD_openFrame_f I a) J G := by
  unfold fmD_openFrame_f
  exact fk_XD_I _ _ _ _ (by omega) (fk_XD_I _ _ _ _ (by omega) (fk_XD_I _ _ _ _ (by omega) h))
theorem fk_xd_keep (I : fm_MI) (J : fm_MJ) (G : fm_MG) (a b : Int32) : fk_xd3 I J G (fmD_keep_f I J G a b) := by
  unfold fmD_keep_f
  refine fk_ite (P := fk_xd3 I J G) ?_ ?_
  · exact fk_XD_I _ _ _ _ (by omega) fk_XD_r
  · exact fk_XD_I _ _ _ _ (by omega) (fk_XD_J _ _ _ _ (by omega) (fk_XD_G _ _ _ _ (by omega) fk_XD_r))
theorem fk_xd_leave (I : fm_MI) (J : fm_MJ) (G : fm_MG) (f : Int32) : fk_xd3 I J G (fmD_leave_f I J G f) := by
  unfold fmD_leave_f
  refine fk_ite (P := fk_xd3 I J G) ?_ ?_
  · exact fk_XD_I _ _ _ _ (by omega) (fk_XD_I _ _ _ _ (by omega) (fk_xd_keep _ _ _ _ _))
  · exact fk_XD_I _ _ _ _ (by omega) (fk_XD_I _ _ _ _ (by omega) (fk_xd_keep _ _ _ _ _))
theorem fk_xd_jump (I : fm_MI) (J : fm_MJ) (G : fm_MG) (pa pb : Nat × Nat) (f a : Int32) : fk_xd3 I J G (fmD_jumpTo_f I J G pa pb f a) := by
  unfold fmD_jumpTo_f
  repeat' (with_reducible refine fk_ite (P := fk_xd3 I J G) ?_ ?_)
  · exact fk_XD_I _ _ _ _ (by omega) fk_XD_r
  · exact fk_XD_I _ _ _ _ (by omega) (fk_XD_I _ _ _ _ (by omega) (fk_XD_I _ _ _ _ (by omega) fk_XD_r))
  · exact fk_XD_I _ _ _ _ (by omega) (fk_XD_I _ _ _ _ (by omega) (fk_xd_keep _ _ _ _ _))
  · exact fk_XD_I _ _ _ _ (by omega) (fk_XD_I _ _ _ _ (by omega) (fk_xd_keep _ _ _ _ _))
theorem fk_xd_enL (pa pb : Nat × Nat) (y1 y2 : Int32) : ∀ (n : Nat) (I : fm_MI) (J : fm_MJ) (G : fm_MG) (y3 : Int32), fk_xd3 I J G (fmD_enter_L101_f n I J G pa pb y1 y2 y3)
  | 0, I, J, G, y3 => fk_XD_r
  | n + 1, I, J, G, y3 => by
    unfold fmD_enter_L101_f
    refine fk_ite (P := fk_xd3 I J G) ?_ ?_
    · exact fk_XD_r
    · exact fk_XD_t (fk_xd_push _ _ _ _ _ _) (fk_xd_enL pa pb y1 y2 n _ _ _ (y3 + 1))
theorem fk_xd_en (I : fm_MI) (J : fm_MJ) (G : fm_MG) (pa pb : Nat × Nat) (f : Int32) : fk_xd3 I J G (fmD_enter_f I J G pa pb f) := by
  unfold fmD_enter_f
  repeat' (with_reducible refine fk_ite (P := fk_xd3 I J G) ?_ ?_)
  · exact fk_XD_I _ _ _ _ (by omega) fk_XD_r
  · exact fk_XD_t (fk_XD_I _ _ _ _ (by omega) (fk_XD_I _ _ _ _ (by omega) (fk_XD_I _ _ _ _ (by omega) (fk_XD_I _ _ _ _ (by omega) (fk_XD_I _ _ _ _ (by omega) fk_XD_r))))) (fk_xd_enL _ _ _ _ _ _ _ _ _)
  · exact fk_XD_t (fk_XD_I _ _ _ _ (by omega) (fk_XD_I _ _ _ _ (by omega) (fk_XD_I _ _ _ _ (by omega) (fk_XD_I _ _ _ _ (by omega) (fk_XD_I _ _ _ _ (by omega) (fk_XD_I _ _ _ _ (by omega) fk_XD_r)))))) (fk_xd_enL _ _ _ _ _ _ _ _ _)
theorem fk_xd_perf (I : fm_MI) (J : fm_MJ) (G : fm_MG) (pa pb : Nat × Nat) (f o a t : Int32) : fk_xd3 I J G (fmD_perform_f I J G pa pb f o a t) := by
  unfold fmD_perform_f
  repeat' (with_reducible refine fk_ite (P := fk_xd3 I J G) ?_ ?_)
  · exact fk_xd_push _ _ _ _ _ _
  · exact fk_xd_push _ _ _ _ _ _
  · exact fk_xd_push _ _ _ _ _ _
  · exact fk_xd_push _ _ _ _ _ _
  · exact fk_xd_push _ _ _ _ _ _
  · exact fk_XD_I _ _ _ _ (by omega) (fk_XD_J _ _ _ _ (by omega) (fk_XD_G _ _ _ _ (by omega) fk_XD_r))
  · exact fk_XD_I _ _ _ _ (by omega) (fk_XD_J _ _ _ _ (by omega) (fk_XD_G _ _ _ _ (by omega) fk_XD_r))
  · exact fk_xd_push _ _ _ _ _ _
  · exact fk_XD_I _ _ _ _ (by omega) (fk_XD_J _ _ _ _ (by omega) (fk_XD_G _ _ _ _ (by omega) fk_XD_r))
  · exact fk_XD_I _ _ _ _ (by omega) fk_XD_r
  · exact fk_xd_choice _ _ _
  · exact fk_xd_ar _ _ _ _ _
  · exact fk_xd_ar _ _ _ _ _
  · exact fk_xd_ar _ _ _ _ _
  · exact fk_xd_ar _ _ _ _ _
  · exact fk_xd_ar _ _ _ _ _
  · exact fk_xd_ar _ _ _ _ _
  · exact fk_xd_ar _ _ _ _ _
  · exact fk_xd_ar _ _ _ _ _
  · exact fk_xd_ar _ _ _ _ _
  · exact fk_xd_cv _ _ _ _ _
  · exact fk_xd_open _ _ _ _ _ fk_XD_r
  · exact fk_xd_open _ _ _ _ _ fk_XD_r
  · rw [fm_letE]
    refine fk_ite (P := fk_xd3 I J G) ?_ ?_
    · rw [fm_letE]
      refine fk_ite (P := fk_xd3 I J G) ?_ ?_
      · exact fk_XD_I _ _ _ _ (by omega) (fk_XD_I _ _ _ _ (by omega) (fk_xd_open _ _ _ _ _ (fk_XD_I _ _ _ _ (by omega) fk_XD_r)))
      · exact fk_XD_I _ _ _ _ (by omega) (fk_xd_open _ _ _ _ _ (fk_XD_I _ _ _ _ (by omega) fk_XD_r))
    · exact fk_xd_open _ _ _ _ _ (fk_XD_I _ _ _ _ (by omega) fk_XD_r)
  · exact fk_XD_I _ _ _ _ (by omega) (fk_XD_I _ _ _ _ (by omega) fk_XD_r)
  · exact fk_XD_I _ _ _ _ (by omega) fk_XD_r
  · exact fk_xd_jump _ _ _ _ _ _ _
  · exact fk_XD_I _ _ _ _ (by omega) fk_XD_r
  · exact fk_XD_t (fk_XD_I _ _ _ _ (by omega) fk_XD_r) (fk_xd_jump _ _ _ _ _ _ _)
  · exact fk_xd_leave _ _ _ _
  · exact fk_xd_en _ _ _ _ _ _
  · exact fk_XD_I _ _ _ _ (by omega) fk_XD_r
  · exact fk_xd_ar _ _ _ _ _
theorem fk_xd_go (pa pb : Nat × Nat) (fu : Int32) : ∀ (n : Nat) (I : fm_MI) (J : fm_MJ) (G : fm_MG), fk_xd3 I J G (fmD_go_L0_f n I J G pa pb fu)
  | 0, I, J, G => fk_XD_r
  | n + 1, I, J, G => by
    unfold fmD_go_L0_f
    repeat' (with_reducible refine fk_ite (P := fk_xd3 I J G) ?_ ?_)
    · exact fk_XD_r
    · exact fk_XD_t (fk_XD_t (fk_XD_I _ _ _ _ (by omega) fk_XD_r) (fk_xd_perf _ _ _ _ _ _ _ _ _)) (fk_xd_go pa pb fu n _ _ _)
    · exact fk_XD_t (fk_XD_t (fk_XD_I _ _ _ _ (by omega) fk_XD_r) (fk_xd_perf _ _ _ _ _ _ _ _ _)) (fk_xd_go pa pb fu n _ _ _)
    · exact fk_XD_t (fk_XD_t (fk_XD_I _ _ _ _ (by omega) fk_XD_r) (fk_xd_perf _ _ _ _ _ _ _ _ _)) (fk_xd_go pa pb fu n _ _ _)
    · exact fk_XD_I _ _ _ _ (by omega) fk_XD_r
    · exact fk_XD_t (fk_XD_t (fk_XD_I _ _ _ _ (by omega) (fk_XD_I _ _ _ _ (by omega) fk_XD_r)) (fk_xd_perf _ _ _ _ _ _ _ _ _)) (fk_xd_go pa pb fu n _ _ _)
    · exact fk_XD_t (fk_xd_leave _ _ _ _) (fk_xd_go pa pb fu n _ _ _)
    · exact fk_XD_r
def fk_gh (I : fm_MI) (c f p : Nat) : Prop := c < 8 ∧ f < 4 ∧ I 24 0 29 = Int32.ofNat (c + 1) ∧ I 24 0 18 = 0 ∧ I 42 0 c = Int32.ofNat f ∧ I 43 0 c = Int32.ofNat p
theorem fk_gh_e {I : fm_MI} {c f p : Nat} (h : fk_gh I c f p) : ¬ I 24 0 29 ≤ 0 ∧ (I 24 0 29 - 1).toNatClampNeg = c ∧ vp_in (I 24 0 29 - 1) 10 ∧ (Int32.ofNat f).toNatClampNeg = f ∧ vp_in (Int32.ofNat f) 4 := by
  obtain ⟨hc, hf, h29, h18, h42, h43⟩ := h
  have e29 : I 24 0 29 - 1 = Int32.ofNat c := by rw [h29, fk_d (by omega)]; rfl
  refine ⟨?_, ?_, ?_, fk_cl (by omega), (fk_in (by omega)).mpr hf⟩
  · rw [h29]
    intro q
    exact absurd ((fk_le (a := c + 1) (b := 0) (by omega) (by omega)).mp q) (by omega)
  · rw [e29]; exact fk_cl (by omega)
  · rw [e29]; exact (fk_in (by omega)).mpr (by omega)
theorem fk_f40 {f p : Nat} (hf : f < 4) (hp : p < 40) : Int32.ofNat f * 40 + Int32.ofNat p = Int32.ofNat (f * 40 + p) := by
  rw [show (40 : Int32) = Int32.ofNat 40 from rfl, ← Int32.ofNat_mul, fk_add]
theorem fk_goF {I : fm_MI} {J : fm_MJ} {G : fm_MG} {pa pb : Nat × Nat} {fu : Int32} {n c f p sz o : Nat} {a : Int32} (h : fk_gh I c f p) (h27 : I 27 0 f = Int32.ofNat sz) (hsz : sz ≤ 40) (hp : p < sz) (h25 : I 25 0 (f * 40 + p) = Int32.ofNat o) (h26 : I 26 0 (f * 40 + p) = a) (ho : o = 21 ∨ o = 22 ∨ o = 25)
    (hP : fmD_perform_p (fm_u I 43 0 c (Int32.ofNat (p + 1))) J G pa pb (Int32.ofNat f) (Int32.ofNat o) a (Int32.ofNat p)) (hn : fmD_go_L0_p n (fmD_perform_f (fm_u I 43 0 c (Int32.ofNat (p + 1))) J G pa pb (Int32.ofNat f) (Int32.ofNat o) a (Int32.ofNat p)).1 (fmD_perform_f (fm_u I 43 0 c (Int32.ofNat (p + 1))) J G pa pb (Int32.ofNat f) (Int32.ofNat o) a (Int32.ofNat p)).2.1 (fmD_perform_f (fm_u I 43 0 c (Int32.ofNat (p + 1))) J G pa pb (Int32.ofNat f) (Int32.ofNat o) a (Int32.ofNat p)).2.2 pa pb fu) :
    fmD_go_L0_p (n + 1) I J G pa pb fu ∧ fmD_go_L0_f (n + 1) I J G pa pb fu = fmD_go_L0_f n (fmD_perform_f (fm_u I 43 0 c (Int32.ofNat (p + 1))) J G pa pb (Int32.ofNat f) (Int32.ofNat o) a (Int32.ofNat p)).1 (fmD_perform_f (fm_u I 43 0 c (Int32.ofNat (p + 1))) J G pa pb (Int32.ofNat f) (Int32.ofNat o) a (Int32.ofNat p)).2.1 (fmD_perform_f (fm_u I 43 0 c (Int32.ofNat (p + 1))) J G pa pb (Int32.ofNat f) (Int32.ofNat o) a (Int32.ofNat p)).2.2 pa pb fu := by
  obtain ⟨n1, e1, v1, e2, v2⟩ := fk_gh_e h
  obtain ⟨hc, hf, h29, h18, h42, h43⟩ := h
  have e3 := fk_f40 hf (show p < 40 by omega)
  have e4 : (Int32.ofNat (f * 40 + p)).toNatClampNeg = f * 40 + p := fk_cl (by omega)
  have v3 : vp_in (Int32.ofNat (f * 40 + p)) 160 := (fk_in (by omega)).mpr (by omega)
  have l1 : Int32.ofNat p < Int32.ofNat sz := (fk_lt (by omega) (by omega)).mpr hp
  have s1 : Int32.ofNat p + 1 = Int32.ofNat (p + 1) := fk_s p
  rcases ho with rfl | rfl | rfl <;> constructor <;>
    simp (config := {decide := true}) only [fmD_go_L0_p, fmD_go_L0_f, fm_letE, fm_letT, n1, e1, v1, h18, h42, e2, v2, h43, h27, l1, e3, e4, v3, h25, h26, s1, hP, hn, ↓reduceIte, false_implies, true_implies, true_and, and_true, implies_true, not_true, not_false, and_self, not_true_eq_false, not_false_eq_true]
theorem fk_goN {I : fm_MI} {J : fm_MJ} {G : fm_MG} {pa pb : Nat × Nat} {fu : Int32} {n c f p sz o : Nat} {a : Int32} (h : fk_gh I c f p) (h27 : I 27 0 f = Int32.ofNat sz) (hsz : sz ≤ 40) (hp : p < sz) (h25 : I 25 0 (f * 40 + p) = Int32.ofNat o) (h26 : I 26 0 (f * 40 + p) = a) (ho : ¬ Int32.ofNat o = 21 ∧ ¬ Int32.ofNat o = 22 ∧ ¬ Int32.ofNat o = 25) (hu : ¬ I 24 0 31 = fu)
    (hP : fmD_perform_p (fm_u (fm_u I 24 0 31 (I 24 0 31 + 1)) 43 0 c (Int32.ofNat (p + 1))) J G pa pb (Int32.ofNat f) (Int32.ofNat o) a (Int32.ofNat p)) (hn : fmD_go_L0_p n (fmD_perform_f (fm_u (fm_u I 24 0 31 (I 24 0 31 + 1)) 43 0 c (Int32.ofNat (p + 1))) J G pa pb (Int32.ofNat f) (Int32.ofNat o) a (Int32.ofNat p)).1 (fmD_perform_f (fm_u (fm_u I 24 0 31 (I 24 0 31 + 1)) 43 0 c (Int32.ofNat (p + 1))) J G pa pb (Int32.ofNat f) (Int32.ofNat o) a (Int32.ofNat p)).2.1 (fmD_perform_f (fm_u (fm_u I 24 0 31 (I 24 0 31 + 1)) 43 0 c (Int32.ofNat (p + 1))) J G pa pb (Int32.ofNat f) (Int32.ofNat o) a (Int32.ofNat p)).2.2 pa pb fu) :
    fmD_go_L0_p (n + 1) I J G pa pb fu ∧ fmD_go_L0_f (n + 1) I J G pa pb fu = fmD_go_L0_f n (fmD_perform_f (fm_u (fm_u I 24 0 31 (I 24 0 31 + 1)) 43 0 c (Int32.ofNat (p + 1))) J G pa pb (Int32.ofNat f) (Int32.ofNat o) a (Int32.ofNat p)).1 (fmD_perform_f (fm_u (fm_u I 24 0 31 (I 24 0 31 + 1)) 43 0 c (Int32.ofNat (p + 1))) J G pa pb (Int32.ofNat f) (Int32.ofNat o) a (Int32.ofNat p)).2.1 (fmD_perform_f (fm_u (fm_u I 24 0 31 (I 24 0 31 + 1)) 43 0 c (Int32.ofNat (p + 1))) J G pa pb (Int32.ofNat f) (Int32.ofNat o) a (Int32.ofNat p)).2.2 pa pb fu := by
  obtain ⟨n1, e1, v1, e2, v2⟩ := fk_gh_e h
  obtain ⟨hc, hf, h29, h18, h42, h43⟩ := h
  obtain ⟨o1, o2, o3⟩ := ho
  have e3 := fk_f40 hf (show p < 40 by omega)
  have e4 : (Int32.ofNat (f * 40 + p)).toNatClampNeg = f * 40 + p := fk_cl (by omega)
  have v3 : vp_in (Int32.ofNat (f * 40 + p)) 160 := (fk_in (by omega)).mpr (by omega)
  have l1 : Int32.ofNat p < Int32.ofNat sz := (fk_lt (by omega) (by omega)).mpr hp
  have s1 : Int32.ofNat p + 1 = Int32.ofNat (p + 1) := fk_s p
  constructor <;>
    simp only [fmD_go_L0_p, fmD_go_L0_f, fm_letE, fm_letT, n1, e1, v1, h18, h42, e2, v2, h43, h27, l1, e3, e4, v3, h25, h26, o1, o2, o3, hu, s1, hP, hn, ↓reduceIte, false_implies, true_implies, true_and, and_true, implies_true, not_true, not_false, and_self, not_true_eq_false, not_false_eq_true]
theorem fk_goU {I : fm_MI} {J : fm_MJ} {G : fm_MG} {pa pb : Nat × Nat} {fu : Int32} {n c f p sz o : Nat} (h : fk_gh I c f p) (h27 : I 27 0 f = Int32.ofNat sz) (hsz : sz ≤ 40) (hp : p < sz) (h25 : I 25 0 (f * 40 + p) = Int32.ofNat o) (ho : ¬ Int32.ofNat o = 21 ∧ ¬ Int32.ofNat o = 22 ∧ ¬ Int32.ofNat o = 25) (hu : I 24 0 31 = fu) :
    fmD_go_L0_p (n + 1) I J G pa pb fu ∧ fmD_go_L0_f (n + 1) I J G pa pb fu = (fm_u I 24 0 18 2, J, G) := by
  obtain ⟨n1, e1, v1, e2, v2⟩ := fk_gh_e h
  obtain ⟨hc, hf, h29, h18, h42, h43⟩ := h
  obtain ⟨o1, o2, o3⟩ := ho
  have e3 := fk_f40 hf (show p < 40 by omega)
  have e4 : (Int32.ofNat (f * 40 + p)).toNatClampNeg = f * 40 + p := fk_cl (by omega)
  have v3 : vp_in (Int32.ofNat (f * 40 + p)) 160 := (fk_in (by omega)).mpr (by omega)
  have l1 : Int32.ofNat p < Int32.ofNat sz := (fk_lt (by omega) (by omega)).mpr hp
  constructor <;>
    simp only [fmD_go_L0_p, fmD_go_L0_f, fm_letE, fm_letT, n1, e1, v1, h18, h42, e2, v2, h43, h27, l1, e3, e4, v3, h25, o1, o2, o3, hu, ↓reduceIte, false_implies, true_implies, true_and, and_true, implies_true, not_true, not_false, and_self, not_true_eq_false, not_false_eq_true]
theorem fk_goL {I : fm_MI} {J : fm_MJ} {G : fm_MG} {pa pb : Nat × Nat} {fu : Int32} {n c f p sz : Nat} (h : fk_gh I c f p) (h27 : I 27 0 f = Int32.ofNat sz) (hsz : sz ≤ 40) (hp : sz ≤ p) (hp4 : p ≤ 40)
    (hP : fmD_leave_p I J G (Int32.ofNat f)) (hn : fmD_go_L0_p n (fmD_leave_f I J G (Int32.ofNat f)).1 (fmD_leave_f I J G (Int32.ofNat f)).2.1 (fmD_leave_f I J G (Int32.ofNat f)).2.2 pa pb fu) :
    fmD_go_L0_p (n + 1) I J G pa pb fu ∧ fmD_go_L0_f (n + 1) I J G pa pb fu = fmD_go_L0_f n (fmD_leave_f I J G (Int32.ofNat f)).1 (fmD_leave_f I J G (Int32.ofNat f)).2.1 (fmD_leave_f I J G (Int32.ofNat f)).2.2 pa pb fu := by
  obtain ⟨n1, e1, v1, e2, v2⟩ := fk_gh_e h
  obtain ⟨hc, hf, h29, h18, h42, h43⟩ := h
  have l1 : ¬ Int32.ofNat p < Int32.ofNat sz := fun q => absurd ((fk_lt (by omega) (by omega)).mp q) (by omega)
  constructor <;>
    simp only [fmD_go_L0_p, fmD_go_L0_f, fm_letE, fm_letT, n1, e1, v1, h18, h42, e2, v2, h43, h27, l1, hP, hn, ↓reduceIte, false_implies, true_implies, true_and, and_true, implies_true, not_true, not_false, and_self, not_true_eq_false, not_false_eq_true]
theorem fk_goZ {I : fm_MI} {J : fm_MJ} {G : fm_MG} {pa pb : Nat × Nat} {fu : Int32} {n : Nat} (h : I 24 0 29 = 0 ∨ ¬ I 24 0 18 = 0) : fmD_go_L0_p (n + 1) I J G pa pb fu ∧ fmD_go_L0_f (n + 1) I J G pa pb fu = (I, J, G) := by
  unfold fmD_go_L0_p fmD_go_L0_f
  by_cases h0 : I 24 0 29 ≤ 0
  · rw [if_pos h0]
    exact ⟨⟨fun _ => trivial, fun q => absurd h0 q⟩, rfl⟩
  · have h1 : ¬ I 24 0 18 = 0 := by
      rcases h with h | h
      · exact absurd (by rw [h]; decide) h0
      · exact h
    rw [if_neg h0, if_neg h1]
    exact ⟨⟨fun _ => trivial, fun _ => ⟨fun q => absurd q h1, fun _ => trivial⟩⟩, rfl⟩
theorem fk_back5 (I : fm_MI) (J : fm_MJ) (G : fm_MG) (f : Nat) : (fmM_backToCaller_f I J G f).1 = fm_u I 18 0 6 (I 18 0 6 - 26) := by
  unfold fmM_backToCaller_f
  split
  · rfl
  · rfl
theorem fk_lv_fuel (pa : Nat × Nat) : ∀ (d m m' : Nat) (I : fm_MI) (J : fm_MJ) (G : fm_MG), d < 1000 → I 18 0 5 = Int32.ofNat d → d < m → d < m' → fmM_leaveWhatHasEnded_L0_f m I J G pa = fmM_leaveWhatHasEnded_L0_f m' I J G pa ∧ (fmM_leaveWhatHasEnded_L0_p m I J G pa → fmM_leaveWhatHasEnded_L0_p m' I J G pa)
  | 0, m + 1, m' + 1, I, J, G, _, h, _, _ => by
    have h0 : I 18 0 5 ≤ 0 := by rw [h]; decide
    unfold fmM_leaveWhatHasEnded_L0_f fmM_leaveWhatHasEnded_L0_p
    rw [if_pos h0, if_pos h0]
    exact ⟨rfl, fun _ => ⟨fun _ => trivial, fun q => absurd h0 q⟩⟩
  | d + 1, m + 1, m' + 1, I, J, G, hd, h, hm, hm' => by
    have h0 : ¬ I 18 0 5 ≤ 0 := by
      rw [h]
      exact fun q => absurd ((fk_le (a := d + 1) (b := 0) (by omega) (by omega)).mp q) (by omega)
    have h1 : I 18 0 5 - 1 = Int32.ofNat d := by rw [h, fk_d (by omega)]; rfl
    have i1 := fk_lv_fuel pa d m m' (fm_u I 18 0 5 (I 18 0 5 - 1)) J G (by omega) (by rw [fk_u_eq]; exact h1) (by omega) (by omega)
    have i2 : ∀ f, _ := fun f => fk_lv_fuel pa d m m' (fmM_backToCaller_f (fm_u I 18 0 5 (I 18 0 5 - 1)) J G f).1 (fmM_backToCaller_f (fm_u I 18 0 5 (I 18 0 5 - 1)) J G f).2.1 (fmM_backToCaller_f (fm_u I 18 0 5 (I 18 0 5 - 1)) J G f).2.2 (by omega) (by rw [fk_back5, fk_ne3 _ _ (by omega), fk_u_eq]; exact h1) (by omega) (by omega)
    unfold fmM_leaveWhatHasEnded_L0_f fmM_leaveWhatHasEnded_L0_p
    rw [if_neg h0, if_neg h0]
    constructor
    · split
      · rfl
      · split
        · exact i1.1
        · exact (i2 _).1
    · intro q
      refine ⟨fun z => absurd z h0, fun z => ?_⟩
      obtain ⟨q1, q2, q3, q4, q5⟩ := q.2 z
      refine ⟨q1, q2, q3, q4, fun w => ?_⟩
      obtain ⟨w1, w2⟩ := q5 w
      refine ⟨fun y => i1.2 (w1 y), fun y => ?_⟩
      obtain ⟨y1, y2, y3, y4⟩ := w2 y
      exact ⟨y1, y2, y3, (i2 _).2 y4⟩
def fk_Wf (n : Nat) (I : fm_MI) (J : fm_MJ) (G : fm_MG) (pa : Nat × Nat) (fu : Int32) : Nat × fm_MI × fm_MJ × fm_MG := fmM_work_L4_f n (fmM_leaveWhatHasEnded_f I J G pa).1 (fmM_leaveWhatHasEnded_f I J G pa).2.1 (fmM_leaveWhatHasEnded_f I J G pa).2.2 pa fu
def fk_Wp (n : Nat) (I : fm_MI) (J : fm_MJ) (G : fm_MG) (pa : Nat × Nat) (fu : Int32) : Prop := fmM_leaveWhatHasEnded_p I J G pa ∧ fmM_work_L4_p n (fmM_leaveWhatHasEnded_f I J G pa).1 (fmM_leaveWhatHasEnded_f I J G pa).2.1 (fmM_leaveWhatHasEnded_f I J G pa).2.2 pa fu
def fk_ch (I : fm_MI) (c f r L : Nat) : Prop := c < 8 ∧ f < 4 ∧ I 18 0 5 = Int32.ofNat (c + 1) ∧ I 22 0 c = Int32.ofNat f ∧ I 23 0 c = Int32.ofNat r ∧ I 6 f 0 = Int32.ofNat L ∧ r ≤ 1000 ∧ L ≤ 1000
theorem fk_ch_e {I : fm_MI} {c f r L : Nat} (h : fk_ch I c f r L) : ¬ I 18 0 5 ≤ 0 ∧ I 18 0 5 - 1 = Int32.ofNat c ∧ (Int32.ofNat c).toNatClampNeg = c ∧ vp_in (Int32.ofNat c) 8 ∧ (Int32.ofNat f).toNatClampNeg = f ∧ vp_in (Int32.ofNat f) 4 := by
  obtain ⟨hc, hf, h5, -⟩ := h
  refine ⟨?_, ?_, fk_cl (by omega), (fk_in (by omega)).mpr hc, fk_cl (by omega), (fk_in (by omega)).mpr hf⟩
  · rw [h5]
    exact fun q => absurd ((fk_le (a := c + 1) (b := 0) (by omega) (by omega)).mp q) (by omega)
  · rw [h5, fk_d (by omega)]; rfl
theorem fk_W0 {I : fm_MI} {J : fm_MJ} {G : fm_MG} {pa : Nat × Nat} {fu : Int32} {n : Nat} (h : I 18 0 5 = 0) : fk_Wp (n + 1) I J G pa fu ∧ fk_Wf (n + 1) I J G pa fu = (0, I, J, G) := by
  have h0 : I 18 0 5 ≤ 0 := by rw [h]; decide
  have e1 : fmM_leaveWhatHasEnded_f I J G pa = (I, J, G) := by
    unfold fmM_leaveWhatHasEnded_f fmM_leaveWhatHasEnded_L0_f
    rw [if_pos h0]
  unfold fk_Wp fk_Wf
  rw [e1]
  refine ⟨⟨?_, ?_⟩, ?_⟩
  · unfold fmM_leaveWhatHasEnded_p fmM_leaveWhatHasEnded_L0_p
    exact ⟨fun _ => trivial, fun q => absurd h0 q⟩
  · unfold fmM_work_L4_p
    exact ⟨fun _ => trivial, fun q => absurd h0 q⟩
  · unfold fmM_work_L4_f
    rw [if_pos h0]
theorem fk_WL {I : fm_MI} {J : fm_MJ} {G : fm_MG} {pa : Nat × Nat} {fu : Int32} {n c f r L : Nat} (h : fk_ch I c f r L) (hr : L ≤ r) (hb : 0 < c → fmM_backToCaller_p (fm_u I 18 0 5 (Int32.ofNat c)) f) {x : fm_MI × fm_MJ × fm_MG} (hx : x = if c = 0 then (fm_u I 18 0 5 (Int32.ofNat c), J, G) else fmM_backToCaller_f (fm_u I 18 0 5 (Int32.ofNat c)) J G f) (hw : fk_Wp n x.1 x.2.1 x.2.2 pa fu) : fk_Wp n I J G pa fu ∧ fk_Wf n I J G pa fu = fk_Wf n x.1 x.2.1 x.2.2 pa fu := by
  obtain ⟨n1, e1, e2, v1, e3, v2⟩ := fk_ch_e h
  obtain ⟨hc, hf, h5, h22, h23, h6, hr1, hL1⟩ := h
  have l1 : ¬ Int32.ofNat r < Int32.ofNat L := fun q => absurd ((fk_lt (by omega) (by omega)).mp q) (by omega)
  have x5 : x.1 18 0 5 = Int32.ofNat c := by
    rw [hx]
    split
    · dsimp only; exact fk_u_eq _
    · rw [fk_back5, fk_ne3 _ _ (by omega), fk_u_eq]
  obtain ⟨g1, g2⟩ := fk_lv_fuel pa c 8 9 x.1 x.2.1 x.2.2 (by omega) x5 (by omega) (by omega)
  obtain ⟨-, g3⟩ := fk_lv_fuel pa c 9 8 x.1 x.2.1 x.2.2 (by omega) x5 (by omega) (by omega)
  have ef : fmM_leaveWhatHasEnded_f I J G pa = fmM_leaveWhatHasEnded_f x.1 x.2.1 x.2.2 pa := by
    show fmM_leaveWhatHasEnded_L0_f (8 + 1) I J G pa = fmM_leaveWhatHasEnded_L0_f 9 x.1 x.2.1 x.2.2 pa
    rw [← g1, fmM_leaveWhatHasEnded_L0_f, if_neg n1, e1, e2, h22, e3, h23, h6, if_neg l1]
    by_cases hz : c = 0
    · rw [if_pos (by rw [hz]; decide), hx, if_pos hz]
    · rw [if_neg (show ¬ Int32.ofNat c ≤ 0 from fun q => absurd ((fk_le (a := c) (b := 0) (by omega) (by omega)).mp q) (by omega)), hx, if_neg hz]
      rfl
  have ep : fmM_leaveWhatHasEnded_p I J G pa := by
    show fmM_leaveWhatHasEnded_L0_p (8 + 1) I J G pa
    rw [fmM_leaveWhatHasEnded_L0_p, e1, e2, h22, e3, h23, h6]
    refine ⟨fun q => absurd q n1, fun _ => ⟨v1, v1, v2, fun q => absurd q l1, fun _ => ⟨fun q => ?_, fun q => ?_⟩⟩⟩
    · have hz : c = 0 := by
        have := (fk_le (a := c) (b := 0) (by omega) (by omega)).mp q
        omega
      have := g3 hw.1
      rw [hx, if_pos hz] at this
      exact this
    · have hz : ¬ c = 0 := fun z => q (by rw [z]; decide)
      refine ⟨v1, v2, hb (by omega), ?_⟩
      have := g3 hw.1
      rw [hx, if_neg hz] at this
      exact this
  unfold fk_Wp fk_Wf
  rw [ef]
  exact ⟨⟨ep, hw.2⟩, rfl⟩
theorem fk_Wno {I : fm_MI} {J : fm_MJ} {G : fm_MG} {pa : Nat × Nat} {c f r L : Nat} (h : fk_ch I c f r L) (hr : r < L) : fmM_leaveWhatHasEnded_p I J G pa ∧ fmM_leaveWhatHasEnded_f I J G pa = (I, J, G) := by
  obtain ⟨n1, e1, e2, v1, e3, v2⟩ := fk_ch_e h
  obtain ⟨hc, hf, h5, h22, h23, h6, hr1, hL1⟩ := h
  have l1 : Int32.ofNat r < Int32.ofNat L := (fk_lt (by omega) (by omega)).mpr hr
  constructor
  · show fmM_leaveWhatHasEnded_L0_p (8 + 1) I J G pa
    rw [fmM_leaveWhatHasEnded_L0_p, e1, e2, h22, e3, h23, h6]
    exact ⟨fun q => absurd q n1, fun _ => ⟨v1, v1, v2, fun _ => trivial, fun q => absurd l1 q⟩⟩
  · show fmM_leaveWhatHasEnded_L0_f (8 + 1) I J G pa = _
    rw [fmM_leaveWhatHasEnded_L0_f, if_neg n1, e1, e2, h22, e3, h23, h6, if_pos l1]
theorem fk_WU {I : fm_MI} {J : fm_MJ} {G : fm_MG} {pa : Nat × Nat} {fu : Int32} {n c f r L : Nat} (h : fk_ch I c f r L) (hr : r < L) (hu : fu ≤ I 18 0 0) : fk_Wp (n + 1) I J G pa fu ∧ fk_Wf (n + 1) I J G pa fu = (2, I, J, G) := by
  obtain ⟨p1, p2⟩ := fk_Wno (J := J) (G := G) (pa := pa) h hr
  obtain ⟨n1, -⟩ := fk_ch_e h
  unfold fk_Wp fk_Wf
  rw [p2]
  refine ⟨⟨p1, ?_⟩, ?_⟩
  · unfold fmM_work_L4_p
    exact ⟨fun q => absurd q n1, fun _ => ⟨fun _ => trivial, fun q => absurd hu q⟩⟩
  · unfold fmM_work_L4_f
    rw [if_neg n1, if_pos hu]
theorem fk_WS {I : fm_MI} {J : fm_MJ} {G : fm_MG} {pa : Nat × Nat} {fu : Int32} {n c f r L : Nat} (h : fk_ch I c f r L) (hr : r < L) (hu : ¬ fu ≤ I 18 0 0) {S : Nat × fm_MI × fm_MJ × fm_MG} (hS : S = fmM_step_f (fm_u I 18 0 0 (I 18 0 0 + 1)) J G pa) (hp : fmM_step_p (fm_u I 18 0 0 (I 18 0 0 + 1)) J G pa) (hw : S.1 = 0 → fk_Wp n S.2.1 S.2.2.1 S.2.2.2 pa fu) : fk_Wp (n + 1) I J G pa fu ∧ fk_Wf (n + 1) I J G pa fu = if S.1 = 0 then fk_Wf n S.2.1 S.2.2.1 S.2.2.2 pa fu else S := by
  subst hS
  obtain ⟨p1, p2⟩ := fk_Wno (J := J) (G := G) (pa := pa) h hr
  obtain ⟨n1, -⟩ := fk_ch_e h
  unfold fk_Wp fk_Wf
  rw [p2]
  refine ⟨⟨p1, ?_⟩, ?_⟩
  · unfold fmM_work_L4_p
    exact ⟨fun q => absurd q n1, fun _ => ⟨fun q => absurd q hu, fun _ => ⟨hp, fm_letQ (fun q => ⟨(hw q).1, fm_letQ (hw q).2⟩)⟩⟩⟩
  · conv => lhs; unfold fmM_work_L4_f
    rw [if_neg n1, if_neg hu, fm_letE]
    split
    · rfl
    · rfl
