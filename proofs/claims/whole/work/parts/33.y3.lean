theorem fk_dropS {x : fk_F} {l : List fk_F} {a : Nat} (h : a < (x :: l).length) : ∃ fr gs, (x :: l).drop a = fr :: gs ∧ ∃ pre, x :: l = pre ++ fr :: gs ∧ pre.length = a ∧ gs.length = l.length - a := by
  refine ⟨(x :: l)[a], (x :: l).drop (a + 1), List.drop_eq_getElem_cons h, (x :: l).take a, ?_, ?_, ?_⟩
  · rw [← List.drop_eq_getElem_cons h]; exact (List.take_append_drop a (x :: l)).symm
  · rw [List.length_take]; omega
  · rw [List.length_drop]; simp only [List.length_cons]; omega
theorem fk_wbn {a : Int32} {n : Nat} (h : fk_wb a n = true) : a.toNatClampNeg < n ∧ a = Int32.ofNat a.toNatClampNeg := by
  obtain ⟨h1, h2⟩ := fk_wbi h
  exact ⟨h2, fk_ofc h1⟩
theorem fk_put_t {t : Int32} {ts : List Int32} {fs : List fk_F} {q : Nat × fk_R} {k' : fk_K} (h : fk_put t (ts, fs, q) = .inr k') : k' = (if t = 4 then ts else t :: ts, fs, q) := by
  by_cases h4 : t = 4
  · rw [if_pos h4]
    unfold fk_put at h
    rw [if_pos h4] at h
    cases h
    rfl
  · rw [if_neg h4]; exact (fk_putL h4 h).1
theorem fk_st26 {D : fk_D} {K : Nat → fk_K} {I : fm_MI} {J : fm_MJ} {G : fm_MG} {I' : fm_MI} {J' : fm_MJ} {G' : fm_MG} {f p : Nat} {ts : List Int32} {fs : List fk_F} {r : List fk_en'} {f0 : Nat} {I2 I3 : fm_MI} (pa pa' pb' : Nat × Nat) (h : fk_RR D K I J G I' J' G' ((f, p, ts, fs) :: r)) (hb0 : fk_bot f0 f r) (hp : p < D.2.2.2.2.2.1 f) (ho : D.2.2.2.2.2.2.1 f p = 26) (hA : fk_AD I I2 I' I3 r.length p) :
    fmM_step_p I2 J G pa ∧ fmD_perform_p I3 J' G' pa' pb' (Int32.ofNat f) (Int32.ofNat (D.2.2.2.2.2.2.1 f p)) (D.2.2.2.2.2.2.2 f p) (Int32.ofNat p) ∧ fk_nx D K f0 (I2 18 0 0) (fmM_step_f I2 J G pa) (fmD_perform_f I3 J' G' pa' pb' (Int32.ofNat f) (Int32.ofNat (D.2.2.2.2.2.2.1 f p)) (D.2.2.2.2.2.2.2 f p) (Int32.ofNat p)) := by
  have hRR := h
  obtain ⟨x, l, q, rfl, htr, hlv, hcc, hbs, hst, h30, ⟨g25, g26, g27⟩, hgd, h40, hop30, hwt⟩ := fk_pre h hp
  obtain ⟨⟨hc, hf, ht, hp0, h20, hl1, hl9⟩, ⟨⟨b1, b2, i5, i6⟩, ⟨c1, c2, c3, c4⟩, j29, j28, j30, j18⟩, hud, hpl, hop, hel, ⟨hex1, hex2⟩, hsc, hmD, hdk⟩ := fk_at h
  obtain ⟨m1, m2, m3, m4, m5, m6, m7⟩ := hdk f hf ht
  have hA0 := hA
  obtain ⟨A1, A2, A3, A4, A5⟩ := hA
  have hCv := fk_Cv_tr hdk hf ht hgd p (by omega)
  have hsc2 : fk_sc D K I2 := fk_sc_k hsc (fun k i s a b c => A1 k i s (by omega))
  obtain ⟨hdo, hok⟩ := fk_stp_do hst
  rw [ho] at hdo hok
  obtain ⟨ha1, ha2⟩ := fk_wbn (show fk_wb (D.2.2.2.2.2.2.2 f p) (x :: l).length = true from hok)
  generalize hga : (D.2.2.2.2.2.2.2 f p).toNatClampNeg = a at ha1 ha2
  obtain ⟨fr, gs, hd, pre, hxl, hpre, hgl⟩ := fk_dropS ha1
  obtain ⟨k1, hjm, hdie⟩ := fk_bi (show fk_bind (fk_jump (D.2.2.1 f) 26 (D.2.2.2.2.2.2.2 f p).toNatClampNeg (ts, x :: l, q)) (fun k => .inr (fk_die k)) = .inr (fk_tr D f (p + 1)) from hdo)
  rw [hga] at hjm
  have hgv : fk_wb fr.2.1 5 = true := hCv.2.1 fr (by rw [htr]; show fr ∈ x :: l; rw [hxl]; simp)
  obtain ⟨tm, hts, hbm, hk1⟩ := fk_jumpL hlv hcc hbs hd hgv hjm
  have hq : (fk_tr D f (p + 1)).2.2 = (fk_jmz (D.2.2.1 f) gs.length 26 fr (tm, x :: l, q)).2.2 := by
    have : fk_die k1 = fk_tr D f (p + 1) := by simpa using hdie
    rw [← this, fk_die_r, hk1]
  have hj : fk_jh D K f p r.length (fk_ex D r).1 (fk_ex D r).2 ts ts tm x l pre fr gs q 26 := ⟨htr, hxl, hts, hbm, Or.inl rfl, hq, Or.inl rfl, by omega⟩
  obtain ⟨r1, r2, r3, r4, r5, r6, r7, r8, r9, r10⟩ := fk_jrow hsc2 hf ht hp hlv hj
  have htm : tm.length ≤ 20 := by
    rcases hts with ⟨-, w⟩ | ⟨-, w⟩
    · rw [w] at h20; omega
    · rw [w] at h20; simp only [List.length_cons] at h20; omega
  have hrg : I2 18 0 6 + I2 9 f q.1 = Int32.ofNat (26 * r.length + D.2.2.1 f + tm.length) := by
    rw [A1 18 0 6 (by omega), i6, r3, fk_add]
    exact congrArg Int32.ofNat (by omega)
  have b2' : I2 23 0 r.length = Int32.ofNat q.1 := by rw [A1 23 0 _ (by omega), b2, htr]
  obtain ⟨-, -, s3⟩ := fk_stepC (J := J) (G := G) pa hc hf r1 (by omega) (by rw [A1 18 0 5 (by omega)]; exact i5) (by rw [A1 22 0 _ (by omega)]; exact b1) b2' r2 rfl hrg
  obtain ⟨z1, z2⟩ := s3 (by decide) (by decide)
  have v29 : vp_in (I3 24 0 29 - 1) 10 := by rw [A3 24 0 29 (by omega) (by omega), j29, fk_d (by omega)]; exact (fk_in (by omega)).mpr (by omega)
  have h28 : I3 24 0 28 = Int32.ofNat ((fk_ex D r).1 + D.2.2.1 f + ts.length) := by rw [A3 24 0 28 (by omega) (by omega)]; exact j28
  have e7 : (fm_u I2 23 0 r.length (Int32.ofNat (q.1 + 1))) 7 f (Int32.ofNat q.1).toNatClampNeg = 26 := by rw [fk_cl (by omega), fk_ne _ _ (by decide)]; exact r2
  have vq : vp_in (Int32.ofNat q.1) 40 := (fk_in (by omega)).mpr r1
  have hgo : fmM_jump_p (fm_u I2 23 0 r.length (Int32.ofNat (q.1 + 1))) J G f (Int32.ofNat q.1) (Int32.ofNat (26 * r.length + D.2.2.1 f + tm.length)) → fmM_step_p I2 J G pa ∧ fmM_step_f I2 J G pa = (0, fmM_jump_f (fm_u I2 23 0 r.length (Int32.ofNat (q.1 + 1))) J G f (Int32.ofNat q.1) (Int32.ofNat (26 * r.length + D.2.2.1 f + tm.length))) := fun hjp => by
    rw [z1, z2]
    constructor <;> simp (config := {decide := true}) only [fmM_goOnElsewhere_p, fmM_goOnElsewhere_f, e7, vq, hjp, fm_letE, ↓reduceIte, false_implies, true_implies, true_and, and_true, implies_true, not_true, not_false, and_self, not_true_eq_false, not_false_eq_true]
  rw [ho]
  cases hgs : gs with
  | nil =>
    subst hgs
    have hal : a = l.length := by simp at hgl; simp only [List.length_cons] at ha1; omega
    obtain ⟨J1, J2⟩ := fk_jD0 (Ib := I3) (J := J') (G := G') pa' pb' (c := r.length) (f := f) (ob := (fk_ex D r).2) (n := a) hc hf (by rw [A3 24 0 29 (by omega) (by omega)]; exact j29) (by rw [A3 24 0 30 (by omega) (by omega), j30, hal]; rfl) (by rw [A3 47 0 _ (by omega) (by omega)]; exact c4)
    obtain ⟨P1, P2⟩ := fk_pe26 (J := J') (G := G') pa' pb' (Int32.ofNat f) (D.2.2.2.2.2.2.2 f p) (Int32.ofNat p) v29 (by rw [ha2]; exact J1)
    obtain ⟨X1, X2, X3⟩ := fk_jmp0 (Ib := I3) (Ic := fm_u I3 43 0 r.length (I3 27 0 f)) hRR hp hA0 hj hpl (fun _ _ _ _ => rfl) h28 (fun k i s w => fk_ne3 _ _ w) rfl
    obtain ⟨S1, S2⟩ := hgo X1
    refine ⟨S1, P1, ?_⟩
    rw [S2, P2, ha2, J2]
    refine Or.inr (Or.inr ⟨rfl, X2, f, r, _, (fm_u I3 43 0 r.length (I3 27 0 f), J', G'), hb0, X3, Or.inr ⟨rfl, ?_⟩⟩)
    dsimp only
    rw [fk_u_eq, A3 27 0 _ (by omega) (by omega)]
    exact g27
  | cons g0 gs' =>
    have hne : gs ≠ [] := by rw [hgs]; simp
    obtain ⟨X1, X2, X3, p', ts', fs', X4⟩ := fk_jmpF pa' pb' (Ib := I3) hRR hp hA0 hj hne hpl (fun _ _ _ _ => rfl) h28 rfl rfl
    obtain ⟨S1, S2⟩ := hgo X1
    rw [hpre] at X2 X4
    obtain ⟨P1, P2⟩ := fk_pe26 (J := J') (G := G') pa' pb' (Int32.ofNat f) (D.2.2.2.2.2.2.2 f p) (Int32.ofNat p) v29 (by rw [ha2]; exact X2)
    refine ⟨S1, P1, ?_⟩
    rw [S2, P2, ha2]
    exact Or.inl ⟨rfl, X3, f, p', ts', fs', r, hb0, X4⟩
theorem fk_st28 {D : fk_D} {K : Nat → fk_K} {I : fm_MI} {J : fm_MJ} {G : fm_MG} {I' : fm_MI} {J' : fm_MJ} {G' : fm_MG} {f p : Nat} {ts : List Int32} {fs : List fk_F} {r : List fk_en'} {f0 : Nat} {I2 I3 : fm_MI} (pa pa' pb' : Nat × Nat) (h : fk_RR D K I J G I' J' G' ((f, p, ts, fs) :: r)) (hb0 : fk_bot f0 f r) (hp : p < D.2.2.2.2.2.1 f) (ho : D.2.2.2.2.2.2.1 f p = 28) (hA : fk_AD I I2 I' I3 r.length p) :
    fmM_step_p I2 J G pa ∧ fmD_perform_p I3 J' G' pa' pb' (Int32.ofNat f) (Int32.ofNat (D.2.2.2.2.2.2.1 f p)) (D.2.2.2.2.2.2.2 f p) (Int32.ofNat p) ∧ fk_nx D K f0 (I2 18 0 0) (fmM_step_f I2 J G pa) (fmD_perform_f I3 J' G' pa' pb' (Int32.ofNat f) (Int32.ofNat (D.2.2.2.2.2.2.1 f p)) (D.2.2.2.2.2.2.2 f p) (Int32.ofNat p)) := by
  have hRR := h
  obtain ⟨x, l, q, rfl, htr, hlv, hcc, hbs, hst, h30, ⟨g25, g26, g27⟩, hgd, h40, hop30, hwt⟩ := fk_pre h hp
  obtain ⟨⟨hc, hf, ht, hp0, h20, hl1, hl9⟩, ⟨⟨b1, b2, i5, i6⟩, ⟨c1, c2, c3, c4⟩, j29, j28, j30, j18⟩, hud, hpl, hop, hel, ⟨hex1, hex2⟩, hsc, hmD, hdk⟩ := fk_at h
  obtain ⟨m1, m2, m3, m4, m5, m6, m7⟩ := hdk f hf ht
  have hA0 := hA
  obtain ⟨A1, A2, A3, A4, A5⟩ := hA
  have hCv := fk_Cv_tr hdk hf ht hgd p (by omega)
  have hsc2 : fk_sc D K I2 := fk_sc_k hsc (fun k i s a b c => A1 k i s (by omega))
  obtain ⟨hdo, hok⟩ := fk_stp_do hst
  rw [ho] at hdo hok
  have ha1 : l.length < (x :: l).length := by simp
  obtain ⟨fr, gs, hd, pre, hxl, hpre, hgl⟩ := fk_dropS ha1
  have hgs : gs = [] := by
    have : gs.length = 0 := by omega
    exact List.length_eq_zero_iff.mp this
  subst hgs
  obtain ⟨k1, hjm, hdie⟩ := fk_bi (show fk_bind (fk_jump (D.2.2.1 f) 26 ((x :: l).length - 1) (ts, x :: l, q)) (fun k => .inr (fk_die k)) = .inr (fk_tr D f (p + 1)) from hdo)
  have hgv : fk_wb fr.2.1 5 = true := hCv.2.1 fr (by rw [htr]; show fr ∈ x :: l; rw [hxl]; simp)
  obtain ⟨tm, hts, hbm, hk1⟩ := fk_jumpL hlv hcc hbs hd hgv hjm
  have hq : (fk_tr D f (p + 1)).2.2 = (fk_jmz (D.2.2.1 f) ([] : List fk_F).length 26 fr (tm, x :: l, q)).2.2 := by
    have : fk_die k1 = fk_tr D f (p + 1) := by simpa using hdie
    rw [← this, fk_die_r, hk1]
  have hj : fk_jh D K f p r.length (fk_ex D r).1 (fk_ex D r).2 ts ts tm x l pre fr [] q 26 := ⟨htr, hxl, hts, hbm, Or.inl rfl, hq, Or.inl rfl, by omega⟩
  obtain ⟨r1, r2, r3, r4, r5, r6, r7, r8, r9, r10⟩ := fk_jrow hsc2 hf ht hp hlv hj
  have htm : tm.length ≤ 20 := by
    rcases hts with ⟨-, w⟩ | ⟨-, w⟩
    · rw [w] at h20; omega
    · rw [w] at h20; simp only [List.length_cons] at h20; omega
  have hrg : I2 18 0 6 + I2 9 f q.1 = Int32.ofNat (26 * r.length + D.2.2.1 f + tm.length) := by
    rw [A1 18 0 6 (by omega), i6, r3, fk_add]
    exact congrArg Int32.ofNat (by omega)
  have b2' : I2 23 0 r.length = Int32.ofNat q.1 := by rw [A1 23 0 _ (by omega), b2, htr]
  obtain ⟨-, -, s3⟩ := fk_stepC (J := J) (G := G) pa hc hf r1 (by omega) (by rw [A1 18 0 5 (by omega)]; exact i5) (by rw [A1 22 0 _ (by omega)]; exact b1) b2' r2 rfl hrg
  obtain ⟨z1, z2⟩ := s3 (by decide) (by decide)
  have v29 : vp_in (I3 24 0 29 - 1) 10 := by rw [A3 24 0 29 (by omega) (by omega), j29, fk_d (by omega)]; exact (fk_in (by omega)).mpr (by omega)
  have h28 : I3 24 0 28 = Int32.ofNat ((fk_ex D r).1 + D.2.2.1 f + ts.length) := by rw [A3 24 0 28 (by omega) (by omega)]; exact j28
  have e7 : (fm_u I2 23 0 r.length (Int32.ofNat (q.1 + 1))) 7 f (Int32.ofNat q.1).toNatClampNeg = 26 := by rw [fk_cl (by omega), fk_ne _ _ (by decide)]; exact r2
  have vq : vp_in (Int32.ofNat q.1) 40 := (fk_in (by omega)).mpr r1
  have hgo : fmM_jump_p (fm_u I2 23 0 r.length (Int32.ofNat (q.1 + 1))) J G f (Int32.ofNat q.1) (Int32.ofNat (26 * r.length + D.2.2.1 f + tm.length)) → fmM_step_p I2 J G pa ∧ fmM_step_f I2 J G pa = (0, fmM_jump_f (fm_u I2 23 0 r.length (Int32.ofNat (q.1 + 1))) J G f (Int32.ofNat q.1) (Int32.ofNat (26 * r.length + D.2.2.1 f + tm.length))) := fun hjp => by
    rw [z1, z2]
    constructor <;> simp (config := {decide := true}) only [fmM_goOnElsewhere_p, fmM_goOnElsewhere_f, e7, vq, hjp, fm_letE, ↓reduceIte, false_implies, true_implies, true_and, and_true, implies_true, not_true, not_false, and_self, not_true_eq_false, not_false_eq_true]
  rw [ho]
  obtain ⟨X1, X2, X3⟩ := fk_jmp0 (Ib := I3) (Ic := I3) hRR hp hA0 hj hpl (fun _ _ _ _ => rfl) h28 (fun k i s w => rfl) rfl
  obtain ⟨L1, L2, L3, L4⟩ := fk_lvJ X3 rfl rfl
  obtain ⟨P1, P2⟩ := fk_pe28 (J := J') (G := G') pa' pb' (Int32.ofNat f) (D.2.2.2.2.2.2.2 f p) (Int32.ofNat p) v29 L3
  obtain ⟨S1, S2⟩ := hgo X1
  refine ⟨S1, P1, ?_⟩
  rw [S2, P2]
  exact Or.inr (Or.inr ⟨rfl, X2, f, r, _, (I3, J', G'), hb0, X3, Or.inl rfl⟩)
theorem fk_st30 {D : fk_D} {K : Nat → fk_K} {I : fm_MI} {J : fm_MJ} {G : fm_MG} {I' : fm_MI} {J' : fm_MJ} {G' : fm_MG} {f p : Nat} {ts : List Int32} {fs : List fk_F} {r : List fk_en'} {f0 : Nat} {I2 I3 : fm_MI} (pa pa' pb' : Nat × Nat) (h : fk_RR D K I J G I' J' G' ((f, p, ts, fs) :: r)) (hp : p < D.2.2.2.2.2.1 f) (ho : D.2.2.2.2.2.2.1 f p = 30) (hA : fk_AD I I2 I' I3 r.length p) :
    fmM_step_p I2 J G pa ∧ fmD_perform_p I3 J' G' pa' pb' (Int32.ofNat f) (Int32.ofNat (D.2.2.2.2.2.2.1 f p)) (D.2.2.2.2.2.2.2 f p) (Int32.ofNat p) ∧ fk_nx D K f0 (I2 18 0 0) (fmM_step_f I2 J G pa) (fmD_perform_f I3 J' G' pa' pb' (Int32.ofNat f) (Int32.ofNat (D.2.2.2.2.2.2.1 f p)) (D.2.2.2.2.2.2.2 f p) (Int32.ofNat p)) := by
  obtain ⟨x, l, q, rfl, htr, hlv, hcc, hbs, hst, h30, ⟨g25, g26, g27⟩, hgd, h40, hop30, hwt⟩ := fk_pre h hp
  obtain ⟨⟨hc, hf, ht, hp0, h20, hl1, hl9⟩, ⟨⟨b1, b2, i5, i6⟩, ⟨c1, c2, c3, c4⟩, j29, j28, j30, j18⟩, hud, hpl, hop, hel, ⟨hex1, hex2⟩, hsc, hmD, hdk⟩ := fk_at h
  obtain ⟨m1, m2, m3, m4, m5, m6, m7⟩ := hdk f hf ht
  obtain ⟨A1, A2, A3, A4, A5⟩ := hA
  have hsc2 : fk_sc D K I2 := fk_sc_k hsc (fun k i s a b c => A1 k i s (by omega))
  obtain ⟨hdo, hok⟩ := fk_stp_do hst
  rw [ho] at hdo
  have hq : (fk_tr D f (p + 1)).2.2 = (fk_row (D.2.2.1 f) (Int32.ofNat 30) (D.2.2.2.2.2.2.2 f p) (ts, x :: l, q)).2.2 := by
    have : fk_die (fk_row (D.2.2.1 f) (Int32.ofNat 30) (D.2.2.2.2.2.2.2 f p) (ts, x :: l, q)) = fk_tr D f (p + 1) := by
      have h2 : (Sum.inr (fk_die (fk_row (D.2.2.1 f) (Int32.ofNat 30) (D.2.2.2.2.2.2.2 f p) (ts, x :: l, q))) : Int32 ⊕ fk_K) = .inr (fk_tr D f (p + 1)) := hdo
      simpa using h2
    rw [← this, fk_die_r]
  obtain ⟨r1, r2, r3, r4, r5, r6, r7, r8, r9⟩ := fk_rowS hsc2 hf ht hp htr hlv (by omega) hq
  have hrg : I2 18 0 6 + I2 9 f q.1 = Int32.ofNat (26 * r.length + D.2.2.1 f + ts.length) := by
    rw [A1 18 0 6 (by omega), i6, r5, fk_add]
    exact congrArg Int32.ofNat (by omega)
  have b2' : I2 23 0 r.length = Int32.ofNat q.1 := by rw [A1 23 0 _ (by omega), b2, htr]
  obtain ⟨-, -, s3⟩ := fk_stepC (J := J) (G := G) pa hc hf r1 (by omega) (by rw [A1 18 0 5 (by omega)]; exact i5) (by rw [A1 22 0 _ (by omega)]; exact b1) b2' r3 r4 hrg
  obtain ⟨z1, z2⟩ := s3 (by decide) (by decide)
  have v29 : vp_in (I3 24 0 29 - 1) 10 := by rw [A3 24 0 29 (by omega) (by omega), j29, fk_d (by omega)]; exact (fk_in (by omega)).mpr (by omega)
  have e7 : (fm_u I2 23 0 r.length (Int32.ofNat (q.1 + 1))) 7 f (Int32.ofNat q.1).toNatClampNeg = 30 := by rw [fk_cl (by omega), fk_ne _ _ (by decide)]; exact r3
  have vq : vp_in (Int32.ofNat q.1) 40 := (fk_in (by omega)).mpr r1
  have hgo : fmM_step_p I2 J G pa ∧ fmM_step_f I2 J G pa = (4, fm_u I2 23 0 r.length (Int32.ofNat (q.1 + 1)), J, G) := by
    rw [z1, z2]
    constructor <;> simp (config := {decide := true}) only [fmM_goOnElsewhere_p, fmM_goOnElsewhere_f, e7, vq, fm_letE, ↓reduceIte, false_implies, true_implies, true_and, and_true, implies_true, not_true, not_false, and_self, not_true_eq_false, not_false_eq_true]
  rw [ho]
  obtain ⟨P1, P2⟩ := fk_pe30 (J := J') (G := G') pa' pb' (Int32.ofNat f) (D.2.2.2.2.2.2.2 f p) (Int32.ofNat p) v29 trivial
  refine ⟨hgo.1, P1, ?_⟩
  rw [hgo.2, P2]
  refine Or.inr (Or.inl ⟨Or.inr (Or.inr rfl), by dsimp only; rw [fk_u_eq]; rfl, ⟨?_, ?_⟩, hpl.2.2.2.2⟩)
  · dsimp only
    rw [fk_ne _ _ (by decide), fk_ne3 _ _ (by omega), A2, A5, hud.1]
  · dsimp only
    rw [fk_ne _ _ (by decide), fk_ne3 _ _ (by omega), A1 _ _ _ (by omega), A3 _ _ _ (by omega) (by omega), hud.2]
theorem fk_st27 {D : fk_D} {K : Nat → fk_K} {I : fm_MI} {J : fm_MJ} {G : fm_MG} {I' : fm_MI} {J' : fm_MJ} {G' : fm_MG} {f p : Nat} {ts : List Int32} {fs : List fk_F} {r : List fk_en'} {f0 : Nat} {I2 I3 : fm_MI} (pa pa' pb' : Nat × Nat) (h : fk_RR D K I J G I' J' G' ((f, p, ts, fs) :: r)) (hb0 : fk_bot f0 f r) (hp : p < D.2.2.2.2.2.1 f) (ho : D.2.2.2.2.2.2.1 f p = 27) (hA : fk_AD I I2 I' I3 r.length p) :
    fmM_step_p I2 J G pa ∧ fmD_perform_p I3 J' G' pa' pb' (Int32.ofNat f) (Int32.ofNat (D.2.2.2.2.2.2.1 f p)) (D.2.2.2.2.2.2.2 f p) (Int32.ofNat p) ∧ fk_nx D K f0 (I2 18 0 0) (fmM_step_f I2 J G pa) (fmD_perform_f I3 J' G' pa' pb' (Int32.ofNat f) (Int32.ofNat (D.2.2.2.2.2.2.1 f p)) (D.2.2.2.2.2.2.2 f p) (Int32.ofNat p)) := by
  have hRR := h
  obtain ⟨x, l, q, rfl, htr, hlv, hcc, hbs, hst, h30, ⟨g25, g26, g27⟩, hgd, h40, hop30, hwt⟩ := fk_pre h hp
  obtain ⟨⟨hc, hf, ht, hp0, h20, hl1, hl9⟩, ⟨⟨b1, b2, i5, i6⟩, ⟨c1, c2, c3, c4⟩, j29, j28, j30, j18⟩, hud, hpl, hop, hel, ⟨hex1, hex2⟩, hsc, hmD, hdk⟩ := fk_at h
  obtain ⟨m1, m2, m3, m4, m5, m6, m7⟩ := hdk f hf ht
  have hA0 := hA
  obtain ⟨A1, A2, A3, A4, A5⟩ := hA
  have hCv := fk_Cv_tr hdk hf ht hgd p (by omega)
  have hsc2 : fk_sc D K I2 := fk_sc_k hsc (fun k i s a b c => A1 k i s (by omega))
  obtain ⟨hdo, hok⟩ := fk_stp_do hst
  rw [ho] at hdo hok
  obtain ⟨ha1, ha2⟩ := fk_wbn (show fk_wb (D.2.2.2.2.2.2.2 f p) (x :: l).length = true from hok)
  generalize hga : (D.2.2.2.2.2.2.2 f p).toNatClampNeg = a at ha1 ha2
  obtain ⟨fr, gs, hd, pre, hxl, hpre, hgl⟩ := fk_dropS ha1
  obtain ⟨k0, htk, hdo2⟩ := fk_bi (show fk_bind (fk_tk 0 (ts, x :: l, q)) (fun k => fk_bind (fk_jump (D.2.2.1 f) 27 (D.2.2.2.2.2.2.2 f p).toNatClampNeg k) (fun k' => match k.2.1.drop (D.2.2.2.2.2.2.2 f p).toNatClampNeg with | [] => .inl 99 | f :: _ => fk_put (fk_need f) k')) = .inr (fk_tr D f (p + 1)) from hdo)
  obtain ⟨t, ts1, rfl, rfl, hb1, ht0⟩ := fk_tkL hlv hcc (by decide) hbs htk
  have ht0' : t = 0 := by
    rcases ht0 with w | w
    · exact absurd w (by decide)
    · exact w.symm
  subst ht0'
  obtain ⟨k1, hjm, hput⟩ := fk_bi hdo2
  rw [hga] at hjm hput
  dsimp only at hput
  rw [hd] at hput
  dsimp only at hput
  have hgv : fk_wb fr.2.1 5 = true := hCv.2.1 fr (by rw [htr]; show fr ∈ x :: l; rw [hxl]; simp)
  obtain ⟨tm, hts, hbm, hk1⟩ := fk_jumpL hlv (fk_cc_t hcc) hb1 hd hgv hjm
  rw [hk1] at hput
  have hput' := fk_put_t hput
  have hq : (fk_tr D f (p + 1)).2.2 = (fk_jmz (D.2.2.1 f) gs.length 27 fr (tm, x :: l, q)).2.2 := by rw [hput']
  have hn1 : (fk_tr D f (p + 1)).1 = ts1 := by
    rw [hput']
    dsimp only
    rcases hts with ⟨w, w2⟩ | ⟨w, w2⟩
    · rw [if_pos w, w2]
    · rw [if_neg w, w2]
  have hn2 : (fk_tr D f (p + 1)).2.1 = x :: l := by rw [hput']
  have hj : fk_jh D K f p r.length (fk_ex D r).1 (fk_ex D r).2 (0 :: ts1) ts1 tm x l pre fr gs q 27 := ⟨htr, hxl, hts, hbm, Or.inr rfl, hq, Or.inr rfl, by omega⟩
  obtain ⟨r1, r2, r3, r4, r5, r6, r7, r8, r9, r10⟩ := fk_jrow hsc2 hf ht hp hlv hj
  have hts20 : ts1.length ≤ 19 := by simp only [List.length_cons] at h20; omega
  have htm : tm.length ≤ 20 := by
    rcases hts with ⟨-, w⟩ | ⟨-, w⟩
    · rw [w] at hts20; omega
    · rw [w] at hts20; simp only [List.length_cons] at hts20; omega
  have hrg : I2 18 0 6 + I2 9 f q.1 = Int32.ofNat (26 * r.length + D.2.2.1 f + tm.length) := by
    rw [A1 18 0 6 (by omega), i6, r3, fk_add]
    exact congrArg Int32.ofNat (by omega)
  have b2' : I2 23 0 r.length = Int32.ofNat q.1 := by rw [A1 23 0 _ (by omega), b2, htr]
  obtain ⟨-, -, s3⟩ := fk_stepC (J := J) (G := G) pa hc hf r1 (by omega) (by rw [A1 18 0 5 (by omega)]; exact i5) (by rw [A1 22 0 _ (by omega)]; exact b1) b2' r2 rfl hrg
  obtain ⟨z1, z2⟩ := s3 (by decide) (by decide)
  have v29 : vp_in (I3 24 0 29 - 1) 10 := by rw [A3 24 0 29 (by omega) (by omega), j29, fk_d (by omega)]; exact (fk_in (by omega)).mpr (by omega)
  obtain ⟨hpl1, hv0⟩ := fk_pl_pop hpl
  have hcond : J 20 0 (26 * r.length + D.2.2.1 f + ts1.length) = J' 40 0 ((fk_ex D r).1 + D.2.2.1 f + ts1.length) := (hv0.1 rfl).1
  have h28 : I3 24 0 28 - 1 = Int32.ofNat ((fk_ex D r).1 + D.2.2.1 f + ts1.length) := by
    rw [A3 24 0 28 (by omega) (by omega), j28, fk_d (by simp only [List.length_cons]; omega)]
    exact congrArg Int32.ofNat (by simp only [List.length_cons]; omega)
  have c28 : (Int32.ofNat ((fk_ex D r).1 + D.2.2.1 f + ts1.length)).toNatClampNeg = (fk_ex D r).1 + D.2.2.1 f + ts1.length := fk_cl (by omega)
  have v28 : vp_in (Int32.ofNat ((fk_ex D r).1 + D.2.2.1 f + ts1.length)) 260 := (fk_in (by omega)).mpr (by omega)
  have eq : (Int32.ofNat q.1).toNatClampNeg = q.1 := fk_cl (by omega)
  have e7 : (fm_u I2 23 0 r.length (Int32.ofNat (q.1 + 1))) 7 f q.1 = 27 := by rw [fk_ne _ _ (by decide)]; exact r2
  have vq : vp_in (Int32.ofNat q.1) 40 := (fk_in (by omega)).mpr r1
  have hgo : ∀ W : Nat × fm_MI × fm_MJ × fm_MG, (lg_cmp (J' 40 0 ((fk_ex D r).1 + D.2.2.1 f + ts1.length)) 0 = 0 → W = (0, fm_u I2 23 0 r.length (Int32.ofNat (q.1 + 1)), J, G)) → (¬ lg_cmp (J' 40 0 ((fk_ex D r).1 + D.2.2.1 f + ts1.length)) 0 = 0 → fmM_jump_p (fm_u I2 23 0 r.length (Int32.ofNat (q.1 + 1))) J G f (Int32.ofNat q.1) (Int32.ofNat (26 * r.length + D.2.2.1 f + tm.length)) ∧ W = (0, fmM_jump_f (fm_u I2 23 0 r.length (Int32.ofNat (q.1 + 1))) J G f (Int32.ofNat q.1) (Int32.ofNat (26 * r.length + D.2.2.1 f + tm.length)))) → fmM_step_p I2 J G pa ∧ fmM_step_f I2 J G pa = W := fun W w1 w2 => by
    rw [z1, z2]
    have e10 : (fm_u I2 23 0 r.length (Int32.ofNat (q.1 + 1))) 10 f q.1 = (if fk_need fr = 4 then -1 else Int32.ofNat (D.2.2.1 f + fr.2.2.1)) := by rw [fk_ne _ _ (by decide)]; exact r4
    by_cases h4 : fk_need fr = 4
    · have htt : ts1 = tm := by
        rcases hts with ⟨-, w⟩ | ⟨w, -⟩
        · exact w
        · exact absurd h4 w
      rw [if_pos h4] at e10
      have er : (Int32.ofNat (26 * r.length + D.2.2.1 f + tm.length)).toNatClampNeg = 26 * r.length + D.2.2.1 f + ts1.length := by rw [htt]; exact fk_cl (by omega)
      have vr : vp_in (Int32.ofNat (26 * r.length + D.2.2.1 f + tm.length)) 212 := (fk_in (by omega)).mpr (by omega)
      by_cases hz : lg_cmp (J' 40 0 ((fk_ex D r).1 + D.2.2.1 f + ts1.length)) 0 = 0
      · rw [w1 hz]
        constructor <;> simp (config := {decide := true}) only [fmM_goOnElsewhere_p, fmM_goOnElsewhere_f, eq, e7, vq, e10, er, vr, hcond, hz, fm_letE, ↓reduceIte, false_implies, true_implies, true_and, and_true, implies_true, not_true, not_false, and_self, not_true_eq_false, not_false_eq_true]
      · obtain ⟨w2, w3⟩ := w2 hz
        rw [w3]
        constructor <;> simp (config := {decide := true}) only [fmM_goOnElsewhere_p, fmM_goOnElsewhere_f, eq, e7, vq, e10, er, vr, hcond, hz, w2, fm_letE, ↓reduceIte, false_implies, true_implies, true_and, and_true, implies_true, not_true, not_false, and_self, not_true_eq_false, not_false_eq_true]
    · have htt : ts1.length = tm.length + 1 := by
        rcases hts with ⟨w, -⟩ | ⟨-, w⟩
        · exact absurd w h4
        · rw [w]; rfl
      rw [if_neg h4] at e10
      have hn : ¬ Int32.ofNat (D.2.2.1 f + fr.2.2.1) = -1 := by
        intro w
        have hbb : fr.2.2.1 ≤ 20 := by
          have := fk_frin hxl (by have := (fk_J_tr hgd m7 p (by omega)).1; rw [htr] at this; exact this)
          omega
        have : ¬ (Int32.ofNat (D.2.2.1 f + fr.2.2.1) < 0) := fk_nn (by omega)
        rw [w] at this
        exact this (by decide)
      have er1 : Int32.ofNat (26 * r.length + D.2.2.1 f + tm.length) + 1 = Int32.ofNat (26 * r.length + D.2.2.1 f + ts1.length) := by
        rw [fk_s]; exact congrArg Int32.ofNat (by omega)
      have er : (Int32.ofNat (26 * r.length + D.2.2.1 f + ts1.length)).toNatClampNeg = 26 * r.length + D.2.2.1 f + ts1.length := fk_cl (by omega)
      have vr : vp_in (Int32.ofNat (26 * r.length + D.2.2.1 f + ts1.length)) 212 := (fk_in (by omega)).mpr (by omega)
      by_cases hz : lg_cmp (J' 40 0 ((fk_ex D r).1 + D.2.2.1 f + ts1.length)) 0 = 0
      · rw [w1 hz]
        constructor <;> simp (config := {decide := true}) only [fmM_goOnElsewhere_p, fmM_goOnElsewhere_f, eq, e7, vq, e10, hn, er1, er, vr, hcond, hz, fm_letE, ↓reduceIte, false_implies, true_implies, true_and, and_true, implies_true, not_true, not_false, and_self, not_true_eq_false, not_false_eq_true]
      · obtain ⟨w2, w3⟩ := w2 hz
        rw [w3]
        constructor <;> simp (config := {decide := true}) only [fmM_goOnElsewhere_p, fmM_goOnElsewhere_f, eq, e7, vq, e10, hn, er1, er, vr, hcond, hz, w2, fm_letE, ↓reduceIte, false_implies, true_implies, true_and, and_true, implies_true, not_true, not_false, and_self, not_true_eq_false, not_false_eq_true]
  have hIb : ∀ k i s, (k = 24 → s ≠ 28) → fm_u I3 24 0 28 (Int32.ofNat ((fk_ex D r).1 + D.2.2.1 f + ts1.length)) k i s = I3 k i s := fun k i s w => fk_ne3 _ _ w
  have hIb28 : fm_u I3 24 0 28 (Int32.ofNat ((fk_ex D r).1 + D.2.2.1 f + ts1.length)) 24 0 28 = Int32.ofNat ((fk_ex D r).1 + D.2.2.1 f + ts1.length) := fk_u_eq _
  rw [ho]
  by_cases hz : lg_cmp (J' 40 0 ((fk_ex D r).1 + D.2.2.1 f + ts1.length)) 0 = 0
  · obtain ⟨P1, P2⟩ := fk_pe27 (I := I3) (J := J') (G := G') pa' pb' (Int32.ofNat f) (D.2.2.2.2.2.2.2 f p) (Int32.ofNat p) v29 (by rw [h28, c28]; exact ⟨v28, fun _ => trivial, fun w => absurd hz w⟩)
    rw [h28, c28, if_pos hz] at P2
    obtain ⟨S1, S2⟩ := hgo (0, fm_u I2 23 0 r.length (Int32.ofNat (q.1 + 1)), J, G) (fun _ => rfl) (fun w => absurd hz w)
    refine ⟨S1, P1, ?_⟩
    rw [S2, P2]
    refine Or.inl ⟨rfl, by dsimp only; rw [fk_ne _ _ (by decide)], f, p + 1, ts1, x :: l, r, hb0, ?_⟩
    dsimp only
    refine fk_re hRR (fun k i s a b => by rw [fk_ne3 _ _ b, A1 k i s a]) (by rw [fk_u_eq, r7]) (fun k i s a b c => by rw [fk_ne3 _ _ (by omega), A3 k i s (by omega) b]) ?_ hIb28 ?_ ?_ hpl1 ?_ (by omega) hn1 hn2 hlv
    · rw [fk_ne _ _ (by decide), A4]
    · rw [fk_ne3 _ _ (by omega), A3 _ _ _ (by omega) (by omega), j30]
    · rw [fk_ne _ _ (by decide), fk_ne3 _ _ (by omega), A2, A5, hud.1]
    · refine fk_op_c (fun j hj => ?_) hop
      rw [fk_ne _ _ (by decide), fk_ne _ _ (by decide), A3 _ _ _ (by omega) (by omega), A3 _ _ _ (by omega) (by omega)]
      exact ⟨rfl, rfl⟩
  · cases hgs : gs with
    | nil =>
      subst hgs
      have hal : a = l.length := by simp at hgl; simp only [List.length_cons] at ha1; omega
      obtain ⟨J1, J2⟩ := fk_jD0 (Ib := fm_u I3 24 0 28 (Int32.ofNat ((fk_ex D r).1 + D.2.2.1 f + ts1.length))) (J := J') (G := G') pa' pb' (c := r.length) (f := f) (ob := (fk_ex D r).2) (n := a) hc hf (by rw [hIb 24 0 29 (by omega), A3 24 0 29 (by omega) (by omega)]; exact j29) (by rw [hIb 24 0 30 (by omega), A3 24 0 30 (by omega) (by omega), j30, hal]; rfl) (by rw [hIb 47 0 _ (by omega), A3 47 0 _ (by omega) (by omega)]; exact c4)
      obtain ⟨P1, P2⟩ := fk_pe27 (I := I3) (J := J') (G := G') pa' pb' (Int32.ofNat f) (D.2.2.2.2.2.2.2 f p) (Int32.ofNat p) v29 (by rw [h28, c28]; exact ⟨v28, fun w => absurd w hz, fun _ => by rw [ha2]; exact J1⟩)
      rw [h28, c28, if_neg hz, ha2, J2, fm_letE] at P2
      obtain ⟨X1, X2, X3⟩ := fk_jmp0 (Ib := fm_u I3 24 0 28 (Int32.ofNat ((fk_ex D r).1 + D.2.2.1 f + ts1.length))) (Ic := fm_u (fm_u I3 24 0 28 (Int32.ofNat ((fk_ex D r).1 + D.2.2.1 f + ts1.length))) 43 0 r.length ((fm_u I3 24 0 28 (Int32.ofNat ((fk_ex D r).1 + D.2.2.1 f + ts1.length))) 27 0 f)) hRR hp hA0 hj hpl1 hIb hIb28 (fun k i s w => fk_ne3 _ _ w) rfl
      obtain ⟨S1, S2⟩ := hgo _ (fun w => absurd w hz) (fun _ => ⟨X1, rfl⟩)
      refine ⟨S1, P1, ?_⟩
      rw [← ha2] at P2
      rw [S2, P2]
      refine Or.inr (Or.inr ⟨rfl, X2, f, r, _, (fm_u (fm_u I3 24 0 28 (Int32.ofNat ((fk_ex D r).1 + D.2.2.1 f + ts1.length))) 43 0 r.length ((fm_u I3 24 0 28 (Int32.ofNat ((fk_ex D r).1 + D.2.2.1 f + ts1.length))) 27 0 f), J', G'), hb0, X3, Or.inr ⟨rfl, ?_⟩⟩)
      dsimp only
      rw [fk_u_eq, hIb 27 0 _ (by omega), A3 27 0 _ (by omega) (by omega)]
      exact g27
    | cons g0 gs' =>
      have hne : gs ≠ [] := by rw [hgs]; simp
      obtain ⟨X1, X2, X3, p', ts', fs', X4⟩ := fk_jmpF pa' pb' (Ib := fm_u I3 24 0 28 (Int32.ofNat ((fk_ex D r).1 + D.2.2.1 f + ts1.length))) hRR hp hA0 hj hne hpl1 hIb hIb28 rfl rfl
      obtain ⟨S1, S2⟩ := hgo _ (fun w => absurd w hz) (fun _ => ⟨X1, rfl⟩)
      rw [hpre] at X2 X4
      obtain ⟨P1, P2⟩ := fk_pe27 (I := I3) (J := J') (G := G') pa' pb' (Int32.ofNat f) (D.2.2.2.2.2.2.2 f p) (Int32.ofNat p) v29 (by rw [h28, c28]; exact ⟨v28, fun w => absurd w hz, fun _ => by rw [ha2]; exact X2⟩)
      rw [h28, c28, if_neg hz, fm_letE] at P2
      refine ⟨S1, P1, ?_⟩
      rw [S2, P2, ha2]
      exact Or.inl ⟨rfl, X3, f, p', ts', fs', r, hb0, X4⟩
theorem fk_least {P : Nat → Prop} : ∀ n, P n → ∃ m, m ≤ n ∧ P m ∧ ∀ j, j < m → ¬ P j := by
  intro n
  induction n using Nat.strongRecOn with
  | ind n ih =>
    intro hn
    by_cases h : ∃ j, j < n ∧ P j
    · obtain ⟨j, hj, hp⟩ := h
      obtain ⟨m, m1, m2, m3⟩ := ih j hj hp
      exact ⟨m, by omega, m2, m3⟩
    · exact ⟨n, Nat.le_refl _, hn, fun j hj hp => h ⟨j, hj, hp⟩⟩
theorem fk_k23 {D : fk_D} {f : Nat} {K : fk_K} (hg : fk_gd D f K) (hop : ∀ i, i < D.2.2.2.2.2.1 f → D.2.2.2.2.2.2.1 f i ≤ 30) {j : Nat} (hj : j < D.2.2.2.2.2.1 f) {pre r : List fk_F} {y : fk_F} (h : (fk_tr D f j).2.1 = pre ++ y :: r) (h23 : y.1 = 23) (hn : ¬ ((D.2.2.2.2.2.2.1 f j = 24 ∨ D.2.2.2.2.2.2.1 f j = 25) ∧ pre = [])) : ∃ pre' y', (fk_tr D f (j + 1)).2.1 = pre' ++ y' :: r ∧ y'.1 = 23 := by
  have hfo := (fk_tr_fo hg hop hj).1
  rw [h] at hfo
  rcases hfo with ⟨-, z, w⟩ | ⟨o, z, r0, w1, -, w2⟩ | ⟨o, z, z2, r0, w1, w2⟩ | ⟨-, z, r0, w1, w2⟩ | ⟨-, w⟩
  · exact ⟨z :: pre, y, w, h23⟩
  · cases pre with
    | nil => exact absurd ⟨Or.inl o, rfl⟩ hn
    | cons a pre => exact ⟨fk_ee z :: pre, y, by rw [w2, ← (List.cons.inj w1).2]; rfl, h23⟩
  · cases pre with
    | nil => exact absurd ⟨Or.inr o, rfl⟩ hn
    | cons a pre => exact ⟨pre, y, w2.trans (List.cons.inj w1).2.symm, h23⟩
  · cases pre with
    | nil =>
      obtain ⟨e1, e2⟩ := List.cons.inj w1
      exact ⟨[], fk_dd z, by rw [w2, ← e2]; rfl, by rw [← e1]; exact h23⟩
    | cons a pre => exact ⟨fk_dd z :: pre, y, by rw [w2, ← (List.cons.inj w1).2]; rfl, h23⟩
  · exact ⟨pre, y, w, h23⟩
theorem fk_k23s {D : fk_D} {f : Nat} {K : fk_K} (hg : fk_gd D f K) (hop : ∀ i, i < D.2.2.2.2.2.1 f → D.2.2.2.2.2.2.1 f i ≤ 30) {i : Nat} {r : List fk_F} (hi : ∃ y, (fk_tr D f i).2.1 = y :: r ∧ y.1 = 23) : ∀ n, i + n ≤ D.2.2.2.2.2.1 f → (∀ j, i ≤ j → j < i + n → ∀ pre x, (fk_tr D f j).2.1 = pre ++ x :: r → ¬ ((D.2.2.2.2.2.2.1 f j = 24 ∨ D.2.2.2.2.2.2.1 f j = 25) ∧ pre = [])) → ∃ pre' y', (fk_tr D f (i + n)).2.1 = pre' ++ y' :: r ∧ y'.1 = 23
  | 0, _, _ => by
    obtain ⟨y, h1, h2⟩ := hi
    exact ⟨[], y, h1, h2⟩
  | n + 1, hn, hno => by
    obtain ⟨pre, y, h1, h2⟩ := fk_k23s hg hop hi n (by omega) (fun j a b => hno j a (by omega))
    exact fk_k23 hg hop (j := i + n) (by omega) h1 h2 (hno (i + n) (by omega) (by omega) pre y h1)
theorem fk_end23 {D : fk_D} {f i : Nat} {a : Int32} {k k' : fk_K} {y g : fk_F} {l : List fk_F} (h : fk_do D f i 25 a k = .inr k') (hl : k.2.1 = y :: g :: l) (h23 : y.1 = 23) : y.2.1 = 4 := by
  obtain ⟨ts, fs, q⟩ := k
  dsimp only at hl
  subst hl
  obtain ⟨k1, -, h2⟩ := fk_bi (show fk_bind (fk_just (ts, y :: g :: l, q)) (fun k' => if y.1 = 23 ∧ y.2.1 ≠ 4 then .inl 6 else fk_put y.2.1 (fk_pop (fk_all (l.length + 1) (if y.1 = 23 then fk_here y.2.2.2.2.2.2.2 k' else k')))) = .inr k' from h)
  by_cases h4 : y.2.1 = 4
  · exact h4
  · rw [if_pos ⟨h23, h4⟩] at h2
    cases h2
theorem fk_elz_new (nl o : Nat) (br : Int32) (tm : List Int32) (x : fk_F) (l : List fk_F) (q : Nat × fk_R) (hl : fk_lv (x :: l) = true) {z : Nat × fk_R} (hz : z = (fk_elz nl o br (tm, x :: l, q)).2.2) : z.1 = q.1 + 1 ∧ z.2.1 q.1 = 26 ∧ z.2.2.2.1 q.1 = Int32.ofNat (nl + tm.length) ∧ z.2.2.2.2.1 q.1 = -1 ∧ z.2.2.2.2.2.2 q.1 = Int32.ofNat o := by
  subst hz
  obtain ⟨L, r1, r2, r3, r4, r5, r6⟩ := q
  unfold fk_elz
  dsimp only
  rw [if_pos hl]
  unfold fk_row
  dsimp only
  rw [if_pos hl]
  unfold fk_w12 fk_here
  dsimp only
  by_cases hb : br = -1
  · rw [if_pos hb]
    exact ⟨rfl, fk_up_eq, fk_up_eq, fk_up_eq, fk_up_eq⟩
  · rw [if_neg hb]
    exact ⟨rfl, fk_up_eq, fk_up_eq, fk_up_eq, fk_up_eq⟩
theorem fk_st24 {D : fk_D} {K : Nat → fk_K} {I : fm_MI} {J : fm_MJ} {G : fm_MG} {I' : fm_MI} {J' : fm_MJ} {G' : fm_MG} {f p : Nat} {ts : List Int32} {fs : List fk_F} {r : List fk_en'} {f0 : Nat} {I2 I3 : fm_MI} (pa pa' pb' : Nat × Nat) (h : fk_RR D K I J G I' J' G' ((f, p, ts, fs) :: r)) (hb0 : fk_bot f0 f r) (hp : p < D.2.2.2.2.2.1 f) (ho : D.2.2.2.2.2.2.1 f p = 24) (hA : fk_AD I I2 I' I3 r.length p) :
    fmM_step_p I2 J G pa ∧ fmD_perform_p I3 J' G' pa' pb' (Int32.ofNat f) (Int32.ofNat (D.2.2.2.2.2.2.1 f p)) (D.2.2.2.2.2.2.2 f p) (Int32.ofNat p) ∧ fk_nx D K f0 (I2 18 0 0) (fmM_step_f I2 J G pa) (fmD_perform_f I3 J' G' pa' pb' (Int32.ofNat f) (Int32.ofNat (D.2.2.2.2.2.2.1 f p)) (D.2.2.2.2.2.2.2 f p) (Int32.ofNat p)) := by
  have hRR := h
  obtain ⟨x, l, q, rfl, htr, hlv, hcc, hbs, hst, h30, ⟨g25, g26, g27⟩, hgd, h40, hop30, hwt⟩ := fk_pre h hp
  obtain ⟨⟨hc, hf, ht, hp0, h20, hl1, hl9⟩, ⟨⟨b1, b2, i5, i6⟩, ⟨c1, c2, c3, c4⟩, j29, j28, j30, j18⟩, hud, hpl, hop, hel, ⟨hex1, hex2⟩, hsc, hmD, hdk⟩ := fk_at h
  obtain ⟨m1, m2, m3, m4, m5, m6, m7⟩ := hdk f hf ht
  obtain ⟨A1, A2, A3, A4, A5⟩ := hA
  have hCv := fk_Cv_tr hdk hf ht hgd p (by omega)
  have hJ := fk_J_tr hgd m7 p (by omega)
  have hsc2 : fk_sc D K I2 := fk_sc_k hsc (fun k i s a b c => A1 k i s (by omega))
  obtain ⟨hdo, hok⟩ := fk_stp_do hst
  rw [ho] at hdo
  have hfo := (fk_tr_fo hgd m7 hp).1
  rw [ho, htr] at hfo
  have hfo2 : x.1 = 23 ∧ (fk_tr D f (p + 1)).2.1 = fk_ee x :: l := by
    rcases hfo with ⟨w, -⟩ | ⟨-, z, r0, w1, w2, w3⟩ | ⟨w, -⟩ | ⟨w, -⟩ | ⟨w, -⟩
    · omega
    · obtain ⟨e1, e2⟩ := List.cons.inj w1
      rw [e1, e2]
      exact ⟨w2, w3⟩
    · omega
    · omega
    · omega
  obtain ⟨h23, hnew⟩ := hfo2
  have hl0 : l ≠ [] := by
    intro w
    have := fk_Q24 hJ.2.2.2.2 x (by rw [htr, w])
    exact this h23
  obtain ⟨g0, l', rfl⟩ : ∃ g0 l', l = g0 :: l' := by
    cases l with
    | nil => exact absurd rfl hl0
    | cons a b => exact ⟨a, b, rfl⟩
  have hgv : fk_wb x.2.1 5 = true := hCv.2.1 x (by rw [htr]; exact List.mem_cons_self)
  have hdo' : (if x.1 = 23 then fk_bind (fk_just (ts, x :: g0 :: l', q)) (fun k' => .inr (fk_elz (D.2.2.1 f) (g0 :: l').length x.2.2.2.2.2.2.2 k')) else .inl 5) = .inr (fk_tr D f (p + 1)) := hdo
  rw [if_pos h23] at hdo'
  obtain ⟨k1, hjust, helz⟩ := fk_bi hdo'
  obtain ⟨hk1, hjl⟩ := fk_justL hbs hjust
  have hjl' := hjl hlv hcc hgv
  have htr1 : fk_tr D f (p + 1) = fk_elz (D.2.2.1 f) (g0 :: l').length x.2.2.2.2.2.2.2 (fk_bt x.2.2.1 ts, x :: g0 :: l', q) := by
    rw [hk1] at helz
    simpa using helz.symm
  have htt1 : (fk_tr D f (p + 1)).1 = fk_bt x.2.2.1 ts := (fk_do_e hdo rfl hbs).1
  obtain ⟨n1, n2, n3, n4, n6⟩ := fk_elz_new (D.2.2.1 f) (g0 :: l').length x.2.2.2.2.2.2.2 (fk_bt x.2.2.1 ts) x (g0 :: l') q hlv (z := (fk_tr D f (p + 1)).2.2) (by rw [htr1])
  have hblen : (fk_bt x.2.2.1 ts).length = x.2.2.1 := fk_bt_len hbs
  rw [hblen] at n3
  have e1 : (fk_tr D f p).2.2 = q := by rw [htr]
  obtain ⟨a1, a2, a3, a4, a5, a6, a7, a8, a9⟩ := fk_rowC hsc2 hf ht hp (by rw [htr]; exact hlv) (by omega)
  rw [e1] at a1 a2 a3 a4 a5 a6 a7 a8 a9
  have r2 : I2 7 f q.1 = 26 := a4.trans n2
  have r3 : I2 9 f q.1 = Int32.ofNat (D.2.2.1 f + x.2.2.1) := a6.trans n3
  have r4 : I2 10 f q.1 = -1 := a7.trans n4
  have hrg : I2 18 0 6 + I2 9 f q.1 = Int32.ofNat (26 * r.length + D.2.2.1 f + x.2.2.1) := by
    rw [A1 18 0 6 (by omega), i6, r3, fk_add]
    exact congrArg Int32.ofNat (by omega)
  have b2' : I2 23 0 r.length = Int32.ofNat q.1 := by rw [A1 23 0 _ (by omega), b2, htr]
  obtain ⟨-, -, s3⟩ := fk_stepC (J := J) (G := G) pa hc hf a1 (by omega) (by rw [A1 18 0 5 (by omega)]; exact i5) (by rw [A1 22 0 _ (by omega)]; exact b1) b2' r2 rfl hrg
  obtain ⟨z1, z2⟩ := s3 (by decide) (by decide)
  have v29 : vp_in (I3 24 0 29 - 1) 10 := by rw [A3 24 0 29 (by omega) (by omega), j29, fk_d (by omega)]; exact (fk_in (by omega)).mpr (by omega)
  obtain ⟨jp, jI, jc⟩ := fk_jC (Ia := fm_u I2 23 0 r.length (Int32.ofNat (q.1 + 1))) (J := J) (G := G) (f := f) (rw := q.1) (nl := D.2.2.1 f) (b := 0) (tml := x.2.2.1) (nd := 4) (tg := (K f).2.2.2.2.2.2.2.1 q.1) hc a1 m3 (by omega) (by omega) (by rw [fk_ne _ _ (by decide), A1 18 0 5 (by omega)]; exact i5) (by rw [fk_ne _ _ (by decide), A1 18 0 6 (by omega)]; exact i6) (by rw [fk_ne _ _ (by decide)]; exact a8) (by rw [fk_ne _ _ (by decide), if_pos rfl]; exact r4)
  rw [if_pos rfl] at jc
  have e7 : (fm_u I2 23 0 r.length (Int32.ofNat (q.1 + 1))) 7 f (Int32.ofNat q.1).toNatClampNeg = 26 := by rw [fk_cl (by omega), fk_ne _ _ (by decide)]; exact r2
  have vq : vp_in (Int32.ofNat q.1) 40 := (fk_in (by omega)).mpr a1
  have hgo : fmM_step_p I2 J G pa ∧ fmM_step_f I2 J G pa = (0, fmM_jump_f (fm_u I2 23 0 r.length (Int32.ofNat (q.1 + 1))) J G f (Int32.ofNat q.1) (Int32.ofNat (26 * r.length + D.2.2.1 f + x.2.2.1))) := by
    rw [z1, z2]
    constructor <;> simp (config := {decide := true}) only [fmM_goOnElsewhere_p, fmM_goOnElsewhere_f, e7, vq, jp, fm_letE, ↓reduceIte, false_implies, true_implies, true_and, and_true, implies_true, not_true, not_false, and_self, not_true_eq_false, not_false_eq_true]
  obtain ⟨e, ⟨⟨k1', k2, k3, k4⟩, ⟨y, k5, k6⟩, k7, k8, k9, k10, -, -⟩, -⟩ := fk_close hgd m7 (i := p + 1) (pre := []) (fr := fk_ee x) (gs := g0 :: l') (by omega) hnew (by simp)
  have kia : x.2.2.2.2.2.1 < p + 1 := k1'
  have htg := fk_tgJ hgd m7 m5 k3 k4 (by simp) ⟨y, k5⟩ (e - (p + 1)) (p + 1) (by omega) (by omega) n6 (by rw [n2]; decide) k10
  have hIb : ∀ k i s, (k = 24 → s ≠ 30) → fm_u I3 24 0 30 (I3 24 0 30 - 1) k i s = I3 k i s := fun k i s w => fk_ne3 _ _ w
  obtain ⟨E1, E2⟩ := fk_endOf (I := fm_u I3 24 0 30 (I3 24 0 30 - 1)) (oe := 0) J' G' pa' pb' hf ht (fk_mD_k hmD (fun k i s a b => by rw [hIb k i s (by omega), A3 k i s (by omega) (by omega)])) hgd m7 m5 (Or.inl rfl) k3 (Or.inl k4) ⟨y, k5⟩ k2 hnew (fun j j1 j2 pre' x' hjj w => by
        rcases w.1 with w1 | ⟨-, w1⟩
        · exact k9 j (show x.2.2.2.2.2.1 + 1 ≤ j by omega) j2 pre' x' hjj ⟨w1, w.2⟩
        · exact absurd w1 (by decide))
  rw [ho]
  obtain ⟨P1, P2⟩ := fk_pe24 (I := I3) (J := J') (G := G') pa' pb' (Int32.ofNat f) (D.2.2.2.2.2.2.2 f p) (Int32.ofNat p) v29 ⟨E1, fm_letQ v29⟩
  have e29 : (I3 24 0 29 - 1).toNatClampNeg = r.length := by rw [A3 24 0 29 (by omega) (by omega), j29, fk_d (by omega)]; exact fk_cl (by omega)
  rw [E2, fm_letE, e29, fk_s] at P2
  have hdoe := (fk_stp_do (hgd.1 e k3)).1
  rw [k4] at hdoe
  have hyb : y.2.2.1 ≤ (fk_tr D f e).1.length := by
    have := (fk_J_tr hgd m7 e (by omega)).1
    rw [k5] at this
    exact this.1
  obtain ⟨w1, -⟩ := fk_do_n hdoe k5 hyb
  have hbb : fk_bt x.2.2.1 (fk_tr D f e).1 = fk_bt x.2.2.1 ts := by
    have := k8.2
    rw [htt1] at this
    exact this.trans (fk_bt_all (by rw [hblen]; exact Nat.le_refl _))
  have e6 : y.2.1 = x.2.1 := k6.1
  have e8 : y.2.2.1 = x.2.2.1 := k6.2.1
  rw [e6, e8, hbb] at w1
  have htt : (fk_tr D f (e + 1)).1 = ts := by
    rcases w1 with ⟨u1, u2⟩ | ⟨u1, u2⟩
    · rcases hjl' with ⟨v1, v2⟩ | ⟨v1, v2⟩
      · rw [u2]; exact v2.symm
      · exact absurd u1 v1
    · rcases hjl' with ⟨v1, v2⟩ | ⟨v1, v2⟩
      · exact absurd v1 u1
      · rw [u2]; exact v2.symm
  have hlvg : fk_lv (g0 :: l') = true := fk_lvs hCv [x] g0 l' (by rw [htr]; rfl) (by rw [htr]; exact hlv)
  refine ⟨hgo.1, P1, ?_⟩
  rw [hgo.2, P2]
  have xu : (fmM_jump_f (fm_u I2 23 0 r.length (Int32.ofNat (q.1 + 1))) J G f (Int32.ofNat q.1) (Int32.ofNat (26 * r.length + D.2.2.1 f + x.2.2.1))).1 18 0 0 = I2 18 0 0 := by rw [jI, fk_ne _ _ (by decide), fk_ne _ _ (by decide)]
  refine Or.inl ⟨rfl, xu, f, e + 1, ts, g0 :: l', r, hb0, ?_⟩
  dsimp only
  refine fk_re hRR (fun k i s a b => by rw [jI, fk_ne3 _ _ b, fk_ne3 _ _ b, A1 k i s a]) (by rw [jI, fk_u_eq]; exact htg) (fun k i s a b c => by rw [fk_ne3 _ _ b, fk_ne3 _ _ (by omega), A3 k i s (by omega) b]) (by rw [fk_u_eq]) ?_ ?_ ?_ (by rw [jc]; exact hpl) ?_ (by omega) htt k7 hlvg
  · rw [fk_ne _ _ (by decide), fk_ne3 _ _ (by omega), A3 _ _ _ (by omega) (by omega), j28]
  · rw [fk_ne _ _ (by decide), fk_u_eq, A3 _ _ _ (by omega) (by omega), j30, fk_d (by simp only [List.length_cons]; omega)]
    exact congrArg Int32.ofNat (by simp only [List.length_cons]; omega)
  · rw [xu, fk_ne _ _ (by decide), fk_ne3 _ _ (by omega), A2, A5, hud.1]
  · refine fk_op_c (fun j hj => ?_) hop.2
    rw [fk_ne _ _ (by decide), fk_ne _ _ (by decide), fk_ne _ _ (by decide), fk_ne _ _ (by decide), A3 _ _ _ (by omega) (by omega), A3 _ _ _ (by omega) (by omega)]
    exact ⟨rfl, rfl⟩
theorem fk_st23 {D : fk_D} {K : Nat → fk_K} {I : fm_MI} {J : fm_MJ} {G : fm_MG} {I' : fm_MI} {J' : fm_MJ} {G' : fm_MG} {f p : Nat} {ts : List Int32} {fs : List fk_F} {r : List fk_en'} {f0 : Nat} {I2 I3 : fm_MI} (pa pa' pb' : Nat × Nat) (h : fk_RR D K I J G I' J' G' ((f, p, ts, fs) :: r)) (hb0 : fk_bot f0 f r) (hp : p < D.2.2.2.2.2.1 f) (ho : D.2.2.2.2.2.2.1 f p = 23) (hA : fk_AD I I2 I' I3 r.length p) :
    fmM_step_p I2 J G pa ∧ fmD_perform_p I3 J' G' pa' pb' (Int32.ofNat f) (Int32.ofNat (D.2.2.2.2.2.2.1 f p)) (D.2.2.2.2.2.2.2 f p) (Int32.ofNat p) ∧ fk_nx D K f0 (I2 18 0 0) (fmM_step_f I2 J G pa) (fmD_perform_f I3 J' G' pa' pb' (Int32.ofNat f) (Int32.ofNat (D.2.2.2.2.2.2.1 f p)) (D.2.2.2.2.2.2.2 f p) (Int32.ofNat p)) := by
  have hRR := h
  obtain ⟨x, l, q, rfl, htr, hlv, hcc, hbs, hst, h30, ⟨g25, g26, g27⟩, hgd, h40, hop30, hwt⟩ := fk_pre h hp
  obtain ⟨⟨hc, hf, ht, hp0, h20, hl1, hl9⟩, ⟨⟨b1, b2, i5, i6⟩, ⟨c1, c2, c3, c4⟩, j29, j28, j30, j18⟩, hud, hpl, hop, hel, ⟨hex1, hex2⟩, hsc, hmD, hdk⟩ := fk_at h
  obtain ⟨m1, m2, m3, m4, m5, m6, m7⟩ := hdk f hf ht
  obtain ⟨A1, A2, A3, A4, A5⟩ := hA
  have hsc2 : fk_sc D K I2 := fk_sc_k hsc (fun k i s a b c => A1 k i s (by omega))
  obtain ⟨hdo, hok⟩ := fk_stp_do hst
  rw [ho] at hdo
  obtain ⟨o1, o2, -, o4⟩ := fk_do_o hdo (by omega)
  obtain ⟨k1, htk, o5, o6⟩ := o4 rfl
  obtain ⟨t, tm, rfl, rfl, hb1, ht0⟩ := fk_tkL hlv hcc (by decide) hbs htk
  have ht0' : t = 0 := by
    rcases ht0 with w | w
    · exact absurd w (by decide)
    · exact w.symm
  subst ht0'
  dsimp only at o1 o2 o5 o6
  rw [if_pos ⟨rfl, hlv⟩, o5] at o1
  have hl9' : l.length + 1 ≠ 9 := o2
  have htm : tm.length ≤ 19 := by simp only [List.length_cons] at h20; omega
  obtain ⟨r1, r2, r3, r4, r5, r6, r7, r8, r9⟩ := fk_rowS hsc2 hf ht hp htr hlv (by omega) o6
  rw [r2] at o1
  generalize hF : ((Int32.ofNat 23, D.2.2.2.2.2.2.2 f p, tm.length, fk_lv (x :: l), false, p, q.1 + 1, Int32.ofNat q.1) : fk_F) = F at o1
  have F1 : F.1 = 23 := by rw [← hF]; rfl
  have F3 : F.2.2.1 = tm.length := by rw [← hF]
  have F4 : F.2.2.2.1 = true := by rw [← hF]; exact hlv
  have F5 : F.2.2.2.2.1 = false := by rw [← hF]
  have F6 : F.2.2.2.2.2.1 = p := by rw [← hF]
  have F8 : F.2.2.2.2.2.2.2 = Int32.ofNat q.1 := by rw [← hF]
  have hrg : I2 18 0 6 + I2 9 f q.1 = Int32.ofNat (26 * r.length + D.2.2.1 f + tm.length) := by
    rw [A1 18 0 6 (by omega), i6, r5, fk_add]
    exact congrArg Int32.ofNat (by omega)
  have b2' : I2 23 0 r.length = Int32.ofNat q.1 := by rw [A1 23 0 _ (by omega), b2, htr]
  obtain ⟨-, -, s3⟩ := fk_stepC (J := J) (G := G) pa hc hf r1 (by omega) (by rw [A1 18 0 5 (by omega)]; exact i5) (by rw [A1 22 0 _ (by omega)]; exact b1) b2' r3 r4 hrg
  obtain ⟨z1, z2⟩ := s3 (by decide) (by decide)
  have e29 : I3 24 0 29 - 1 = Int32.ofNat r.length := by rw [A3 24 0 29 (by omega) (by omega), j29, fk_d (by omega)]; rfl
  have v29' : vp_in (Int32.ofNat r.length) 10 := (fk_in (by omega)).mpr (by omega)
  have v29 : vp_in (I3 24 0 29 - 1) 10 := by rw [e29]; exact v29'
  have crl : (Int32.ofNat r.length).toNatClampNeg = r.length := fk_cl (by omega)
  obtain ⟨hpl1, hv0⟩ := fk_pl_pop hpl
  have hcond : J 20 0 (26 * r.length + D.2.2.1 f + tm.length) = J' 40 0 ((fk_ex D r).1 + D.2.2.1 f + tm.length) := (hv0.1 rfl).1
  have h28 : I3 24 0 28 - 1 = Int32.ofNat ((fk_ex D r).1 + D.2.2.1 f + tm.length) := by
    rw [A3 24 0 28 (by omega) (by omega), j28, fk_d (by simp only [List.length_cons]; omega)]
    exact congrArg Int32.ofNat (by simp only [List.length_cons]; omega)
  have c28 : (Int32.ofNat ((fk_ex D r).1 + D.2.2.1 f + tm.length)).toNatClampNeg = (fk_ex D r).1 + D.2.2.1 f + tm.length := fk_cl (by omega)
  have v28 : vp_in (Int32.ofNat ((fk_ex D r).1 + D.2.2.1 f + tm.length)) 260 := (fk_in (by omega)).mpr (by omega)
  have eq : (Int32.ofNat q.1).toNatClampNeg = q.1 := fk_cl (by omega)
  have e7 : (fm_u I2 23 0 r.length (Int32.ofNat (q.1 + 1))) 7 f q.1 = 23 := by rw [fk_ne _ _ (by decide)]; exact r3
  have e11 : (fm_u I2 23 0 r.length (Int32.ofNat (q.1 + 1))) 11 f q.1 = (K f).2.2.2.2.2.2.2.1 q.1 := by rw [fk_ne _ _ (by decide)]; exact r7
  have e5 : (fm_u I2 23 0 r.length (Int32.ofNat (q.1 + 1))) 18 0 5 - 1 = Int32.ofNat r.length := by rw [fk_ne _ _ (by decide), A1 18 0 5 (by omega), i5, fk_d (by omega)]; rfl
  have v5 : vp_in (Int32.ofNat r.length) 8 := (fk_in (by omega)).mpr hc
  have vq : vp_in (Int32.ofNat q.1) 40 := (fk_in (by omega)).mpr r1
  have er : (Int32.ofNat (26 * r.length + D.2.2.1 f + tm.length)).toNatClampNeg = 26 * r.length + D.2.2.1 f + tm.length := fk_cl (by omega)
  have vr : vp_in (Int32.ofNat (26 * r.length + D.2.2.1 f + tm.length)) 212 := (fk_in (by omega)).mpr (by omega)
  obtain ⟨R, hR⟩ : ∃ R, R = fmD_openFrame_f (fm_u I3 24 0 28 (Int32.ofNat ((fk_ex D r).1 + D.2.2.1 f + tm.length))) (Int32.ofNat p) := ⟨_, rfl⟩
  have k30 : (fm_u I3 24 0 28 (Int32.ofNat ((fk_ex D r).1 + D.2.2.1 f + tm.length))) 24 0 30 = Int32.ofNat ((fk_ex D r).2 + l.length) := by rw [fk_ne3 _ _ (by omega), A3 24 0 30 (by omega) (by omega), j30]; rfl
  have ck30 : (Int32.ofNat ((fk_ex D r).2 + l.length)).toNatClampNeg = (fk_ex D r).2 + l.length := fk_cl (by simp only [List.length_cons] at hl9; omega)
  have v30 : vp_in (Int32.ofNat ((fk_ex D r).2 + l.length)) 90 := (fk_in (by simp only [List.length_cons] at hl9; omega)).mpr (by simp only [List.length_cons] at hl9; omega)
  unfold fmD_openFrame_f at hR
  rw [k30, ck30, fk_u_eq] at hR
  have RI : ∀ k i s, (k = 24 → s ≠ 28 ∧ s ≠ 30) → (k = 45 ∨ k = 46 → s ≠ (fk_ex D r).2 + l.length) → R k i s = I3 k i s := fun k i s a b => by
    rw [hR, fk_ne3 _ _ (by omega), fk_ne3 _ _ (by omega), fk_ne3 _ _ (by omega), fk_ne3 _ _ (by omega)]
  have R28 : R 24 0 28 = Int32.ofNat ((fk_ex D r).1 + D.2.2.1 f + tm.length) := by rw [hR, fk_ne3 _ _ (by omega), fk_ne _ _ (by decide), fk_ne _ _ (by decide), fk_u_eq]
  have R30 : R 24 0 30 = Int32.ofNat ((fk_ex D r).2 + l.length + 1) := by rw [hR, fk_u_eq, fk_s]
  have R45 : R 45 0 ((fk_ex D r).2 + l.length) = Int32.ofNat p := by rw [hR, fk_ne _ _ (by decide), fk_ne _ _ (by decide), fk_u_eq]
  have R46 : R 46 0 ((fk_ex D r).2 + l.length) = Int32.ofNat ((fk_ex D r).1 + D.2.2.1 f + tm.length) := by rw [hR, fk_ne _ _ (by decide), fk_u_eq]
  have hRf : fmD_openFrame_f (fm_u I3 24 0 28 (I3 24 0 28 - 1)) (Int32.ofNat p) = R := by
    rw [hR, h28]
    unfold fmD_openFrame_f
    rw [k30, ck30, fk_u_eq]
  have hRp : fmD_openFrame_p (fm_u I3 24 0 28 (I3 24 0 28 - 1)) := by
    rw [h28]
    unfold fmD_openFrame_p
    rw [k30]
    exact ⟨v30, v30⟩
  have hopR : ∀ {I1 : fm_MI}, (∀ s, I1 45 0 s = R 45 0 s ∧ I1 46 0 s = R 46 0 s) → fk_op I1 (fk_ex D r).2 ((fk_ex D r).1 + D.2.2.1 f) (x :: l) := fun {I1} hI1 => fk_op_c (fun j hj => by
    have hj' : j < l.length := by simpa using hj
    rw [(hI1 _).1, (hI1 _).2, RI 45 0 _ (by omega) (by omega), RI 46 0 _ (by omega) (by omega), A3 _ _ _ (by omega) (by omega), A3 _ _ _ (by omega) (by omega)]
    exact ⟨rfl, rfl⟩) hop
  have hopF : ∀ {I1 : fm_MI}, (∀ s, I1 45 0 s = R 45 0 s ∧ I1 46 0 s = R 46 0 s) → ∀ z : fk_F, z.2.2.1 = tm.length → z.2.2.2.2.2.1 = p → fk_op I1 (fk_ex D r).2 ((fk_ex D r).1 + D.2.2.1 f) (z :: x :: l) := fun {I1} hI1 z w1 w2 => ⟨fun _ => by
    rw [show (fk_ex D r).2 + ((x :: l).length - 1) = (fk_ex D r).2 + l.length from rfl, (hI1 _).1, (hI1 _).2, R45, R46, w1, w2]
    exact ⟨rfl, rfl⟩, hopR hI1⟩
  rw [ho]
  by_cases hz : lg_cmp (J' 40 0 ((fk_ex D r).1 + D.2.2.1 f + tm.length)) 0 = 0
  ·
    obtain ⟨e25, y25, d1, d2, d3, d4, d5, d6, d7⟩ := fk_clo hgd m7 (D.2.2.2.2.2.1 f - (p + 1)) (p + 1) [] F (x :: l) (by omega) o1 (by simp)
    obtain ⟨e, hee, ⟨he1, he2, y, he3⟩, hmin⟩ := fk_least (P := fun j => p + 1 ≤ j ∧ (D.2.2.2.2.2.2.1 f j = 24 ∨ D.2.2.2.2.2.2.1 f j = 25) ∧ ∃ y, (fk_tr D f j).2.1 = y :: x :: l) e25 ⟨d1, Or.inr d3, y25, d4⟩
    have hno : ∀ j, p + 1 ≤ j → j < e → ∀ pre x', (fk_tr D f j).2.1 = pre ++ x' :: x :: l → ¬ ((D.2.2.2.2.2.2.1 f j = 24 ∨ D.2.2.2.2.2.2.1 f j = 25) ∧ pre = []) := fun j j1 j2 pre x' hj w => by
      obtain ⟨w1, rfl⟩ := w
      exact hmin j j2 ⟨j1, w1, x', hj⟩
    have hes : e < D.2.2.2.2.2.1 f := by omega
    obtain ⟨⟨pre1, y1, w1, hsm, -⟩, hab⟩ := d7 e he1 hee
    have hsm' : fk_sm F y := by
      have : [] ++ y :: x :: l = pre1 ++ y1 :: x :: l := he3.symm.trans w1
      obtain ⟨-, rfl⟩ := fk_ptr this
      exact hsm
    have hbt : fk_bt tm.length (fk_tr D f e).1 = tm := by
      have := hab.2
      rw [F3, o5] at this
      rw [this]
      exact fk_bt_all (Nat.le_refl _)
    have htg := fk_tgI hgd m7 m5 hes he2 ⟨y, he3⟩ (e - (p + 1)) (p + 1) (p := q.1) (by omega) (by omega) (by
        have := (fk_row_new (D.2.2.1 f) 23 (D.2.2.2.2.2.2.2 f p) tm (x :: l) q hlv).2.2.2.2.2
        rw [o6]; exact this) ⟨[], F, o1, F1, F8, fun y hy => by simp at hy, by
        have := fk_Nrow hgd m7 m5 hp
        rw [htr] at this
        exact this⟩ hno
    have hmDR : fk_mD R D := fk_mD_k hmD (fun k i s a b => by rw [RI k i s (by omega) (by omega), A3 k i s (by omega) (by omega)])
    obtain ⟨E1, E2⟩ := fk_endOf (I := R) (oe := 1) J' G' pa' pb' hf ht hmDR hgd m7 m5 (Or.inr rfl) hes (by rcases he2 with w | w; exact Or.inr ⟨w, rfl⟩; exact Or.inl w) ⟨y, he3⟩ he1 o1 (fun j j1 j2 pre x' hj w => by
      refine hno j j1 j2 pre x' hj ⟨?_, w.2⟩
      rcases w.1 with w1 | ⟨w1, -⟩
      · exact Or.inr w1
      · exact Or.inl w1)
    have ve : vp_in (Int32.ofNat f * 40 + Int32.ofNat e) 160 := by rw [fk_f40 hf (by omega)]; exact (fk_in (by omega)).mpr (by omega)
    have ce : (Int32.ofNat f * 40 + Int32.ofNat e).toNatClampNeg = f * 40 + e := by rw [fk_f40 hf (by omega)]; exact fk_cl (by omega)
    obtain ⟨P1, P2⟩ := fk_pe23 (I := I3) (J := J') (G := G') pa' pb' (Int32.ofNat f) (D.2.2.2.2.2.2.2 f p) (Int32.ofNat p) v29 ⟨hRp, by
      rw [hRf]
      refine fm_letQ ?_
      rw [R28, c28]
      exact ⟨v28, fun _ => ⟨E1, fm_letQ (by rw [E2, e29]; exact ⟨v29', ve⟩)⟩, fun w => absurd hz w⟩⟩
    rw [hRf, fm_letE, R28, c28, if_pos hz, E2, fm_letE, e29, crl, ce, fk_s] at P2
    have hgo : fmM_step_p I2 J G pa ∧ fmM_step_f I2 J G pa = (0, fm_u (fm_u I2 23 0 r.length (Int32.ofNat (q.1 + 1))) 23 0 r.length ((K f).2.2.2.2.2.2.2.1 q.1), J, G) := by
      rw [z1, z2]
      constructor <;> simp (config := {decide := true}) only [fmM_goOnElsewhere_p, fmM_goOnElsewhere_f, eq, e7, e11, e5, v5, crl, vq, er, vr, hcond, hz, fm_letE, ↓reduceIte, false_implies, true_implies, true_and, and_true, implies_true, not_true, not_false, and_self, not_true_eq_false, not_false_eq_true]
    have xI : ∀ k i s, (k = 18 → s ≠ 0) → (k = 23 → s ≠ r.length) → fm_u (fm_u I2 23 0 r.length (Int32.ofNat (q.1 + 1))) 23 0 r.length ((K f).2.2.2.2.2.2.2.1 q.1) k i s = I k i s := fun k i s a b => by rw [fk_ne3 _ _ b, fk_ne3 _ _ b, A1 k i s a]
    have xu : fm_u (fm_u I2 23 0 r.length (Int32.ofNat (q.1 + 1))) 23 0 r.length ((K f).2.2.2.2.2.2.2.1 q.1) 18 0 0 = I2 18 0 0 := by rw [fk_ne _ _ (by decide), fk_ne _ _ (by decide)]
    refine ⟨hgo.1, P1, ?_⟩
    rw [hgo.2]
    have g25e := ((hmD f hf).2 ht).2.2.2.2.2 e hes
    have R25 : R 25 0 (f * 40 + e) = Int32.ofNat (D.2.2.2.2.2.2.1 f e) := by rw [RI 25 0 _ (by omega) (by omega), A3 _ _ _ (by omega) (by omega)]; exact g25e.1
    have hdoe := (fk_stp_do (hgd.1 e hes)).1
    have hyb : y.2.2.1 ≤ (fk_tr D f e).1.length := by
      have := (fk_J_tr hgd m7 e (by omega)).1
      rw [he3] at this
      exact this.1
    have hy3 : y.2.2.1 = tm.length := hsm'.2.1.trans F3
    rcases he2 with h24 | h25
    · rw [h24] at R25
      rw [R25, if_neg (by decide)] at P2
      rw [h24] at hdoe
      have htt : (fk_tr D f (e + 1)).1 = tm := by
        have := (fk_do_e hdoe he3 hyb).1
        rw [this, hy3, hbt]
      have hnew : (fk_tr D f (e + 1)).2.1 = fk_ee y :: x :: l := by
        have hfo := (fk_tr_fo hgd m7 hes).1
        rw [h24, he3] at hfo
        rcases hfo with ⟨w, -⟩ | ⟨-, z, r0, w1, w2, w3⟩ | ⟨w, -⟩ | ⟨w, -⟩ | ⟨w, -⟩
        · omega
        · obtain ⟨e1, e2⟩ := List.cons.inj w1
          rw [e1, e2]
          exact w3
        · omega
        · omega
        · omega
      rw [P2]
      refine Or.inl ⟨rfl, xu, f, e + 1, tm, fk_ee y :: x :: l, r, hb0, ?_⟩
      dsimp only
      refine fk_re hRR xI (by rw [fk_u_eq]; exact htg) (fun k i s a b c => by rw [fk_ne3 _ _ b, RI k i s (by omega) (by omega), A3 k i s (by omega) b]) (by rw [fk_u_eq]) (by rw [fk_ne _ _ (by decide), R28]) (by rw [fk_ne _ _ (by decide), R30]; exact congrArg Int32.ofNat (by simp only [List.length_cons]; omega)) ?_ hpl1 (hopF (fun s => ?_) (fk_ee y) hy3 ?_) (by omega) htt hnew ?_
      · rw [xu, fk_ne _ _ (by decide), RI _ _ _ (by omega) (by omega), A2, A5, hud.1]
      · rw [fk_ne _ _ (by decide), fk_ne _ _ (by decide)]; exact ⟨rfl, rfl⟩
      · have := hsm'.2.2.2.1
        show y.2.2.2.2.2.1 = p
        rw [this, F6]
      · exact fk_lv_i (show y.2.2.2.1 = true by rw [hsm'.2.2.1, F4]) rfl
    · rw [h25] at R25
      rw [R25, if_pos (show Int32.ofNat 25 = 25 from rfl), R30] at P2
      rw [h25] at hdoe
      have hk23 : y.1 = 23 := by
        obtain ⟨pre', y', w1, w2⟩ := fk_k23s hgd m7 (i := p + 1) (r := x :: l) ⟨F, o1, F1⟩ (e - (p + 1)) (by omega) (fun j a b => hno j a (by omega))
        rw [show p + 1 + (e - (p + 1)) = e by omega, he3] at w1
        obtain ⟨-, rfl⟩ := fk_ptr (pre := []) w1
        exact w2
      have hy4 : y.2.1 = 4 := fk_end23 hdoe he3 hk23
      have htt : (fk_tr D f (e + 1)).1 = tm := by
        rcases (fk_do_n hdoe he3 hyb).1 with ⟨-, w⟩ | ⟨w, -⟩
        · rw [w, hy3, hbt]
        · exact absurd hy4 w
      have hnew : (fk_tr D f (e + 1)).2.1 = x :: l := by
        have hfo := (fk_tr_fo hgd m7 hes).1
        rw [h25, he3] at hfo
        rcases hfo with ⟨w, -⟩ | ⟨w, -⟩ | ⟨-, z, z2, r0, w1, w2⟩ | ⟨w, -⟩ | ⟨w, -⟩
        · omega
        · omega
        · rw [(List.cons.inj w1).2]; exact w2
        · omega
        · omega
      rw [P2]
      refine Or.inl ⟨rfl, xu, f, e + 1, tm, x :: l, r, hb0, ?_⟩
      dsimp only
      refine fk_re hRR xI (by rw [fk_u_eq]; exact htg) (fun k i s a b c => by rw [fk_ne3 _ _ (by omega), fk_ne3 _ _ b, RI k i s (by omega) (by omega), A3 k i s (by omega) b]) (by rw [fk_ne _ _ (by decide), fk_u_eq]) (by rw [fk_ne3 _ _ (by omega), fk_ne _ _ (by decide), R28]) (by rw [fk_u_eq, fk_d (by omega)]; exact congrArg Int32.ofNat (by simp only [List.length_cons]; omega)) ?_ hpl1 (hopR (fun s => ?_)) (by omega) htt hnew hlv
      · rw [xu, fk_ne3 _ _ (by omega), fk_ne _ _ (by decide), RI _ _ _ (by omega) (by omega), A2, A5, hud.1]
      · rw [fk_ne _ _ (by decide), fk_ne _ _ (by decide), fk_ne _ _ (by decide), fk_ne _ _ (by decide)]; exact ⟨rfl, rfl⟩
  ·
    obtain ⟨P1, P2⟩ := fk_pe23 (I := I3) (J := J') (G := G') pa' pb' (Int32.ofNat f) (D.2.2.2.2.2.2.2 f p) (Int32.ofNat p) v29 ⟨hRp, by
      rw [hRf]
      refine fm_letQ ?_
      rw [R28, c28]
      exact ⟨v28, fun w => absurd w hz, fun _ => trivial⟩⟩
    rw [hRf, fm_letE, R28, c28, if_neg hz] at P2
    have hgo : fmM_step_p I2 J G pa ∧ fmM_step_f I2 J G pa = (0, fm_u I2 23 0 r.length (Int32.ofNat (q.1 + 1)), J, G) := by
      rw [z1, z2]
      constructor <;> simp (config := {decide := true}) only [fmM_goOnElsewhere_p, fmM_goOnElsewhere_f, eq, e7, e11, e5, v5, crl, vq, er, vr, hcond, hz, fm_letE, ↓reduceIte, false_implies, true_implies, true_and, and_true, implies_true, not_true, not_false, and_self, not_true_eq_false, not_false_eq_true]
    refine ⟨hgo.1, P1, ?_⟩
    rw [hgo.2, P2]
    refine Or.inl ⟨rfl, by dsimp only; rw [fk_ne _ _ (by decide)], f, p + 1, tm, F :: x :: l, r, hb0, ?_⟩
    dsimp only
    refine fk_re hRR (fun k i s a b => by rw [fk_ne3 _ _ b, A1 k i s a]) (by rw [fk_u_eq, r2]) (fun k i s a b c => by rw [RI k i s (by omega) (by omega), A3 k i s (by omega) b]) (by rw [RI _ _ _ (by omega) (by omega), A4]) R28 (by rw [R30]; exact congrArg Int32.ofNat (by simp only [List.length_cons]; omega)) ?_ hpl1 (hopF (fun s => ⟨rfl, rfl⟩) F F3 F6) (by omega) o5 o1 (fk_lv_i F4 F5)
    rw [fk_ne _ _ (by decide), RI _ _ _ (by omega) (by omega), A2, A5, hud.1]
