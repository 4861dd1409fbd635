theorem fk_lv_c {x : fk_F} {l : List fk_F} (h : fk_lv (x :: l) = true) : x.2.2.2.1 = true ∧ x.2.2.2.2.1 = false := by
  have : (x.2.2.2.1 && !x.2.2.2.2.1) = true := h
  revert this
  cases x.2.2.2.1 <;> cases x.2.2.2.2.1 <;> decide
theorem fk_lv_i {x : fk_F} {l : List fk_F} (h1 : x.2.2.2.1 = true) (h2 : x.2.2.2.2.1 = false) : fk_lv (x :: l) = true := by
  show (x.2.2.2.1 && !x.2.2.2.2.1) = true
  rw [h1, h2]; rfl
theorem fk_lvs {k : fk_K} (hC : fk_Cv k) : ∀ (pre : List fk_F) (x : fk_F) (r : List fk_F), k.2.1 = pre ++ x :: r → fk_lv k.2.1 = true → fk_lv (x :: r) = true := by
  intro pre
  have : ∀ (n : Nat) (pre0 pre : List fk_F) (x : fk_F) (r : List fk_F), pre.length = n → k.2.1 = pre0 ++ (pre ++ x :: r) → fk_lv (pre ++ x :: r) = true → fk_lv (x :: r) = true := by
    intro n
    induction n with
    | zero =>
      intro pre0 pre x r hn hk hl
      have : pre = [] := List.length_eq_zero_iff.mp hn
      subst this
      exact hl
    | succ n ih =>
      intro pre0 pre x r hn hk hl
      cases pre with
      | nil => cases hn
      | cons z pre =>
        have h1 := (fk_lv_c (x := z) (l := pre ++ x :: r) hl).1
        have hn' : pre.length = n := by simpa using hn
        have hk' : k.2.1 = (pre0 ++ [z]) ++ (pre ++ x :: r) := by rw [hk]; simp
        refine ih (pre0 ++ [z]) pre x r hn' hk' ?_
        cases pre with
        | nil =>
          have := hC.2.2.2 pre0 z x r (by rw [hk]; rfl)
          rw [h1] at this
          exact this.symm
        | cons w pre =>
          have := hC.2.2.2 pre0 z w (pre ++ x :: r) (by rw [hk]; rfl)
          rw [h1] at this
          exact this.symm
  intro x r hk hl
  exact this pre.length [] pre x r rfl (by rw [hk]; rfl) (by rw [← hk]; exact hl)
theorem fk_stp_do {D : fk_D} {f i o : Nat} {a : Int32} {k k' : fk_K} (h : fk_stp D f i o a k = .inr k') : fk_do D f i o a k = .inr k' ∧ fk_okn D f o a k.2.1.length = true := by
  unfold fk_stp at h
  cases hz : fk_okn D f o a k.2.1.length
  · rw [hz] at h; cases h
  · rw [hz] at h; exact ⟨h, rfl⟩
theorem fk_free {D : fk_D} {K : Nat → fk_K} {I : fm_MI} {J : fm_MJ} {G : fm_MG} {I' : fm_MI} {J' : fm_MJ} {G' : fm_MG} {f p : Nat} {ts : List Int32} {fs : List fk_F} {r : List fk_en'} (pa' pb' : Nat × Nat) (h : fk_RR D K I J G I' J' G' ((f, p, ts, fs) :: r)) (hp : p < D.2.2.2.2.2.1 f) (ho : D.2.2.2.2.2.2.1 f p = 21 ∨ D.2.2.2.2.2.2.1 f p = 22 ∨ D.2.2.2.2.2.2.1 f p = 25) {I3 : fm_MI} (h3 : I3 = fm_u I' 43 0 r.length (Int32.ofNat (p + 1))) {y : fm_MI × fm_MJ × fm_MG} (hyy : y = fmD_perform_f I3 J' G' pa' pb' (Int32.ofNat f) (Int32.ofNat (D.2.2.2.2.2.2.1 f p)) (D.2.2.2.2.2.2.2 f p) (Int32.ofNat p)) :
    fmD_perform_p I3 J' G' pa' pb' (Int32.ofNat f) (Int32.ofNat (D.2.2.2.2.2.2.1 f p)) (D.2.2.2.2.2.2.2 f p) (Int32.ofNat p) ∧ ∃ ts' fs', fk_RR D K I J G y.1 y.2.1 y.2.2 ((f, p + 1, ts', fs') :: r) := by
  have hRR := h
  obtain ⟨x, l, q, rfl, htr, hlv, hcc, hbs, hst, h30, ⟨g25, g26, g27⟩, hgd, h40, hop30, hwt⟩ := fk_pre h hp
  obtain ⟨⟨hc, hf, ht, hp0, h20, hl1, hl9⟩, ⟨⟨b1, b2, i5, i6⟩, ⟨c1, c2, c3, c4⟩, j29, j28, j30, j18⟩, hud, hpl, hop, hel, ⟨hex1, hex2⟩, hsc, hmD, hdk⟩ := fk_at h
  obtain ⟨m1, m2, m3, m4, m5, m6, m7⟩ := hdk f hf ht
  have hCv := fk_Cv_tr hdk hf ht hgd p (by omega)
  have hdo := (fk_stp_do hst).1
  have k29 : I3 24 0 29 = Int32.ofNat (r.length + 1) := by rw [h3, fk_ne _ _ (by decide)]; exact j29
  have k28 : I3 24 0 28 = Int32.ofNat ((fk_ex D r).1 + D.2.2.1 f + ts.length) := by rw [h3, fk_ne _ _ (by decide)]; exact j28
  have k30 : I3 24 0 30 = Int32.ofNat ((fk_ex D r).2 + l.length) := by rw [h3, fk_ne _ _ (by decide)]; exact j30
  have v29 : vp_in (I3 24 0 29 - 1) 10 := by rw [k29, fk_d (by omega)]; exact (fk_in (by omega)).mpr (by omega)
  have hl9' : l.length + 1 ≤ 9 := by simpa using hl9
  have f3 : ∀ k i s, (k = 43 → s ≠ r.length) → I3 k i s = I' k i s := fun k i s a => by rw [h3, fk_ne3 _ _ a]
  have f43 : I3 43 0 r.length = Int32.ofNat (p + 1) := by rw [h3, fk_u_eq]
  rcases (show (D.2.2.2.2.2.2.1 f p = 21 ∨ D.2.2.2.2.2.2.1 f p = 22) ∨ D.2.2.2.2.2.2.1 f p = 25 by omega) with ho2 | ho2
  · obtain ⟨e1, e2, e3, -⟩ := fk_do_o hdo (by omega)
    obtain ⟨e3, e4⟩ := e3 (by omega)
    dsimp only at e1 e2 e3 e4
    have v30 : vp_in (I3 24 0 30) 90 := by rw [k30]; exact (fk_in (by omega)).mpr (by omega)
    have hP : fmD_perform_p I3 J' G' pa' pb' (Int32.ofNat f) (Int32.ofNat (D.2.2.2.2.2.2.1 f p)) (D.2.2.2.2.2.2.2 f p) (Int32.ofNat p) ∧ fmD_perform_f I3 J' G' pa' pb' (Int32.ofNat f) (Int32.ofNat (D.2.2.2.2.2.2.1 f p)) (D.2.2.2.2.2.2.2 f p) (Int32.ofNat p) = (fmD_openFrame_f I3 (Int32.ofNat p), J', G') := by
      rcases ho2 with ho2 | ho2
      · rw [ho2]; exact fk_pe21 pa' pb' _ _ _ v29 ⟨v30, v30⟩
      · rw [ho2]; exact fk_pe22 pa' pb' _ _ _ v29 ⟨v30, v30⟩
    refine ⟨hP.1, ts, (fk_tr D f (p + 1)).2.1, ?_⟩
    rw [hyy, hP.2]
    dsimp only
    have c30 : (I3 24 0 30).toNatClampNeg = (fk_ex D r).2 + l.length := by rw [k30]; exact fk_cl (by omega)
    unfold fmD_openFrame_f
    rw [c30]
    refine fk_re hRR (fun k i s a b => rfl) ?_ (fun k i s a b c => ?_) ?_ ?_ ?_ ?_ hpl ?_ (by omega) e3 rfl ?_
    · rw [b2, htr, e4]
    · rw [fk_ne3 _ _ (by omega), fk_ne3 _ _ (by omega), fk_ne3 _ _ (by omega), f3 k i s b]
    · rw [fk_ne _ _ (by decide), fk_ne _ _ (by decide), fk_ne _ _ (by decide), f43]
    · rw [fk_ne3 _ _ (by omega), fk_ne _ _ (by decide), fk_ne _ _ (by decide), k28]
    · rw [fk_u_eq, k30, fk_s, e1]
      exact congrArg Int32.ofNat (by simp; omega)
    · rw [fk_ne3 _ _ (by omega), fk_ne _ _ (by decide), fk_ne _ _ (by decide), f3 24 0 31 (by omega)]; exact hud.1
    · rw [e1]
      refine ⟨fun _ => ⟨?_, ?_⟩, fk_op_c (fun j hj => ?_) hop⟩
      · rw [fk_ne _ _ (by decide), fk_ne _ _ (by decide)]; exact fk_u_eq _
      · rw [fk_ne _ _ (by decide), show (fk_ex D r).2 + ((x :: l).length - 1) = (fk_ex D r).2 + l.length from rfl, fk_u_eq, k28, e3]
      · have hj' : j < l.length := by simpa using hj
        rw [fk_ne _ _ (by decide), fk_ne _ _ (by decide), fk_ne3 _ _ (by omega), fk_ne _ _ (by decide), fk_ne3 _ _ (by omega), fk_ne _ _ (by decide), f3 _ _ _ (by omega), f3 _ _ _ (by omega)]
        exact ⟨rfl, rfl⟩
    · rw [e1]; exact fk_lv_i hlv rfl
  · obtain ⟨P1, P2⟩ := fk_pe25 (J := J') (G := G') pa' pb' (Int32.ofNat f) (D.2.2.2.2.2.2.2 f p) (Int32.ofNat p) v29 trivial
    rw [ho2] at hyy ⊢
    refine ⟨P1, ?_⟩
    rw [hyy, P2]
    rw [ho2] at hdo hst
    have hfo := (fk_tr_fo hgd m7 hp).1
    rw [ho2, htr] at hfo
    have hfo2 : ∃ x0 y r0, x :: l = x0 :: y :: r0 ∧ (fk_tr D f (p + 1)).2.1 = y :: r0 := by
      rcases hfo with ⟨w, -⟩ | ⟨w, -⟩ | ⟨-, w⟩ | ⟨w, -⟩ | ⟨w, -⟩
      · omega
      · omega
      · exact w
      · omega
      · omega
    obtain ⟨x0, y0, r0, hxl, hnew⟩ := hfo2
    obtain ⟨rfl, rfl⟩ : x = x0 ∧ l = y0 :: r0 := by simpa using hxl
    obtain ⟨n1, k1, n2⟩ := fk_do_n hdo rfl hbs
    have hgv : fk_wb x.2.1 5 = true := hCv.2.1 x (by rw [htr]; exact List.mem_cons_self)
    obtain ⟨-, n3⟩ := fk_justL hbs n2
    have n3' := n3 hlv hcc hgv
    have e3 : (fk_tr D f (p + 1)).1 = ts := by
      rcases n1 with ⟨z1, z2⟩ | ⟨z1, z2⟩
      · rcases n3' with ⟨w1, w2⟩ | ⟨w1, w2⟩
        · rw [z2]; exact w2.symm
        · exact absurd z1 w1
      · rcases n3' with ⟨w1, w2⟩ | ⟨w1, w2⟩
        · exact absurd w1 z1
        · rw [z2]; exact w2.symm
    obtain ⟨en1, -, -⟩ := fk_tr_en hgd m7 m5 hp (show (fk_tr D f p).2.1 = x :: y0 :: r0 by rw [htr])
    rw [if_neg (by omega), htr] at en1
    refine ⟨ts, y0 :: r0, ?_⟩
    dsimp only
    refine fk_re hRR (fun k i s a b => rfl) ?_ (fun k i s a b c => ?_) ?_ ?_ ?_ ?_ hpl ?_ (by omega) e3 hnew ?_
    · rw [b2, htr, en1]; rfl
    · rw [fk_ne3 _ _ (by omega), f3 k i s b]
    · rw [fk_ne _ _ (by decide), f43]
    · rw [fk_ne3 _ _ (by omega), k28]
    · rw [fk_u_eq, k30, fk_d (by simp only [List.length_cons]; omega)]
      exact congrArg Int32.ofNat (by simp only [List.length_cons]; omega)
    · rw [fk_ne3 _ _ (by omega), f3 24 0 31 (by omega)]; exact hud.1
    · refine fk_op_c (fun j hj => ?_) hop.2
      rw [fk_ne _ _ (by decide), fk_ne _ _ (by decide), f3 _ _ _ (by omega), f3 _ _ _ (by omega)]
      exact ⟨rfl, rfl⟩
    · exact fk_lvs hCv [x] y0 r0 (by rw [htr]; rfl) (by rw [htr]; exact hlv)
theorem fk_b0 {D : fk_D} {f : Nat} {K : fk_K} (hg : fk_gd D f K) (hop : ∀ i, i < D.2.2.2.2.2.1 f → D.2.2.2.2.2.2.1 f i ≤ 30) : ∀ i, i ≤ D.2.2.2.2.2.1 f → ∃ pre fr, (fk_tr D f i).2.1 = pre ++ [fr] ∧ fr.2.2.1 = 0
  | 0, _ => ⟨[], _, rfl, rfl⟩
  | i + 1, hi => by
    obtain ⟨pre, fr, h1, h2⟩ := fk_b0 hg hop i (by omega)
    have hx := fk_fo_fx (fk_tr_fo hg hop (show i < D.2.2.2.2.2.1 f by omega)).1
    rw [h1] at hx
    rcases hx with hx | ⟨x, hx⟩ | ⟨x, r, hx, hm⟩ | ⟨x, r, hx, -, hm⟩ | ⟨x, y, r, hx, hm⟩
    · exact ⟨pre, fr, hx, h2⟩
    · exact ⟨x :: pre, fr, hx, h2⟩
    · cases pre with
      | nil => cases hx; exact ⟨[], fk_dd fr, hm, h2⟩
      | cons z pre => cases hx; exact ⟨fk_dd x :: pre, fr, hm, h2⟩
    · cases pre with
      | nil => cases hx; exact ⟨[], fk_ee fr, hm, h2⟩
      | cons z pre => cases hx; exact ⟨fk_ee x :: pre, fr, hm, h2⟩
    · cases pre with
      | nil => cases hx
      | cons z pre =>
        exact ⟨pre, fr, hm.trans (List.cons.inj hx).2.symm, h2⟩
theorem fk_atend {D : fk_D} {K : Nat → fk_K} {I : fm_MI} {J : fm_MJ} {G : fm_MG} {I' : fm_MI} {J' : fm_MJ} {G' : fm_MG} {f p : Nat} {ts : List Int32} {fs : List fk_F} {r : List fk_en'} (h : fk_RR D K I J G I' J' G' ((f, p, ts, fs) :: r)) (hp : ¬ p < D.2.2.2.2.2.1 f) : ∃ T, fk_RL D K f r I J G I' J' G' T ∧ p = D.2.2.2.2.2.1 f := by
  obtain ⟨⟨hc, hf, ht, hp0, h20, hl1, hl9⟩, ⟨⟨b1, b2, i5, i6⟩, ⟨c1, c2, c3, c4⟩, j29, j28, j30, j18⟩, hud, hpl, hop, hel, ⟨hex1, hex2⟩, hsc, hmD, hdk⟩ := fk_at h
  obtain ⟨-, -, -, ⟨t1, t2, t3⟩, hwt⟩ := h
  obtain ⟨m1, m2, m3, m4, m5, m6, m7⟩ := hdk f hf ht
  obtain ⟨hgd, -⟩ := hsc.2 f hf ht
  have hpe : p = D.2.2.2.2.2.1 f := by omega
  subst hpe
  have hCv := fk_Cv_tr hdk hf ht hgd (D.2.2.2.2.2.1 f) (by omega)
  have hJ := fk_J_tr hgd m7 (D.2.2.2.2.2.1 f) (by omega)
  obtain ⟨pre, fr, hb1, hb2⟩ := fk_b0 hgd m7 (D.2.2.2.2.2.1 f) (by omega)
  obtain ⟨pre', fr', hq1, hq2, hq3⟩ := hJ.2.2.2.2
  have hfin := hgd.2
  unfold fk_fin at hfin
  split at hfin
  · rename_i hl
    obtain ⟨k1, hk1, -⟩ := fk_bi hfin
    rw [hb1] at hl hq1
    have hpre : pre = [] := by
      cases pre with
      | nil => rfl
      | cons _ _ => simp at hl
    subst hpre
    have hfr : fr = fr' := by
      have := congrArg List.getLast? hq1
      simpa using this
    subst hfr
    have htr : fk_tr D f (D.2.2.2.2.2.1 f) = (ts, fr :: [], (fk_tr D f (D.2.2.2.2.2.1 f)).2.2) := by
      have hb1' : (fk_tr D f (D.2.2.2.2.2.1 f)).2.1 = [fr] := hb1
      generalize fk_tr D f (D.2.2.2.2.2.1 f) = z at t1 hb1'
      obtain ⟨z1, z2, z3⟩ := z
      dsimp only at t1 hb1'
      rw [t1, hb1']
    rw [htr] at hk1
    obtain ⟨-, n3⟩ := fk_justL (by rw [hb2]; omega) hk1
    have hb1' : fs = [fr] := by rw [← t2]; exact hb1
    have n3' := n3 (by rw [← hb1']; exact t3) (by rw [← t1]; exact hCv.1 (by rw [t2]; exact t3)) (by rw [hq3]; exact m4)
    have hbt : fk_bt 0 ts = [] := by unfold fk_bt; simp
    rw [hb2, hbt, hq3] at n3'
    refine ⟨(fk_ex D r).1 + D.2.2.1 f + ts.length, ⟨⟨hc, hf, ht⟩, hel, hwt, ⟨b1, by rw [b2, (fk_fin_r hgd).1], i5, i6⟩, ⟨c1, c3, c4⟩, ⟨j29, j28, j18⟩, ⟨by omega, fun h4 => ?_⟩, hud, hpl.2.2.2.2, hsc, hmD⟩, rfl⟩
    rcases n3' with ⟨w, -⟩ | ⟨-, w⟩
    · exact absurd w h4
    · subst w
      refine ⟨by simp only [List.length_cons]; omega, ?_⟩
      exact hpl.2.2.2.1.1
  · cases hfin
theorem fk_ptr {pre pre' r : List fk_F} {x x' : fk_F} (h : pre ++ x :: r = pre' ++ x' :: r) : pre = pre' ∧ x = x' := by
  have hl : pre.length = pre'.length := by
    have := congrArg List.length h
    simp only [List.length_append, List.length_cons] at this
    omega
  obtain ⟨h1, h2⟩ := List.append_inj h hl
  exact ⟨h1, (List.cons.inj h2).1⟩
def fk_cls (D : fk_D) (f i : Nat) (fr : fk_F) (gs : List fk_F) (e : Nat) : Prop :=
  (fr.2.2.2.2.2.1 < i ∧ i ≤ e ∧ e < D.2.2.2.2.2.1 f ∧ D.2.2.2.2.2.2.1 f e = 25) ∧ (∃ y, (fk_tr D f e).2.1 = y :: gs ∧ fk_sm fr y) ∧ (fk_tr D f (e + 1)).2.1 = gs ∧ fk_ab fr.2.2.1 (fk_tr D f i).1 (fk_tr D f e).1 ∧
  (∀ j, fr.2.2.2.2.2.1 + 1 ≤ j → j < e → ∀ pre' x', (fk_tr D f j).2.1 = pre' ++ x' :: gs → ¬ (D.2.2.2.2.2.2.1 f j = 25 ∧ pre' = [])) ∧
  (∀ j, i ≤ j → j ≤ e → ∃ pre x, (fk_tr D f j).2.1 = pre ++ x :: gs ∧ (j < e → ¬ (D.2.2.2.2.2.2.1 f j = 25 ∧ pre = []))) ∧
  (∃ x0, (fk_tr D f (fr.2.2.2.2.2.1 + 1)).2.1 = x0 :: gs ∧ fk_sm x0 fr) ∧ fk_ab fr.2.2.1 (fk_tr D f (fr.2.2.2.2.2.1 + 1)).1 (fk_tr D f i).1
theorem fk_close {D : fk_D} {f : Nat} {K : fk_K} (hg : fk_gd D f K) (hop : ∀ i, i < D.2.2.2.2.2.1 f → D.2.2.2.2.2.2.1 f i ≤ 30) {i : Nat} {pre : List fk_F} {fr : fk_F} {gs : List fk_F} (hi : i ≤ D.2.2.2.2.2.1 f) (hx : (fk_tr D f i).2.1 = pre ++ fr :: gs) (hgs : gs ≠ []) : ∃ e, fk_cls D f i fr gs e ∧ fk_ops D f i pre fr gs := by
  have hops := fk_his hg hop i pre fr gs hi hx hgs
  obtain ⟨o1, o2, o3, o4, o5, o6, o7, o8, o9, o10⟩ := id hops
  obtain ⟨e, y, c1, c2, c3, c4, c5, c6, c7⟩ := fk_clo hg hop (D.2.2.2.2.2.1 f - i) i pre fr gs (by omega) hx hgs
  obtain ⟨pre0, x0, z1, z2, z3, z4, z5⟩ := o10 (fr.2.2.2.2.2.1 + 1) (by omega) (by omega)
  have hp0 := z3 rfl
  subst hp0
  have z1' : (fk_tr D f (fr.2.2.2.2.2.1 + 1)).2.1 = x0 :: gs := z1
  refine ⟨e, ⟨⟨o1, c1, c2, c3⟩, ⟨y, c4, c5⟩, c6, (c7 e c1 (Nat.le_refl _)).2, fun j j1 j2 pre' x' hj => ?_, fun j j1 j2 => ?_, ⟨x0, z1', z2⟩, ?_⟩, hops⟩
  · by_cases hji : j < i
    · obtain ⟨p1, x1, w1, w2, w3, w4, w5⟩ := o10 j (by omega) (by omega)
      obtain ⟨rfl, -⟩ := fk_ptr (hj.symm.trans w1)
      exact w5 hji
    · obtain ⟨⟨p1, x1, w1, w2, w3⟩, -⟩ := c7 j (by omega) (by omega)
      obtain ⟨rfl, -⟩ := fk_ptr (hj.symm.trans w1)
      exact w3 j2
  · obtain ⟨⟨p1, x1, w1, w2, w3⟩, -⟩ := c7 j j1 j2
    exact ⟨p1, x1, w1, w3⟩
  · obtain ⟨e', y', d1, d2, d3, d4, d5, d6, d7⟩ := fk_clo hg hop (D.2.2.2.2.2.1 f - (fr.2.2.2.2.2.1 + 1)) (fr.2.2.2.2.2.1 + 1) [] x0 gs (by omega) z1' hgs
    have hie : i ≤ e' := by
      rcases Nat.lt_or_ge e' i with hlt | hge
      · obtain ⟨p1, x1, w1, w2, w3, w4, w5⟩ := o10 e' (by omega) (by omega)
        have : [] ++ y' :: gs = p1 ++ x1 :: gs := d4.symm.trans w1
        obtain ⟨rfl, -⟩ := fk_ptr this
        exact absurd ⟨d3, rfl⟩ (w5 hlt)
      · exact hge
    have := (d7 i (by omega) hie).2
    rw [← z2.2.1] at this
    exact this
theorem fk_endOf {D : fk_D} {f : Nat} {K : fk_K} {I : fm_MI} (J : fm_MJ) (G : fm_MG) (pa pb : Nat × Nat) {oe : Int32} (hf : f < 4) (ht : D.1 f = true) (hD : fk_mD I D) (hg : fk_gd D f K) (hop : ∀ i, i < D.2.2.2.2.2.1 f → D.2.2.2.2.2.2.1 f i ≤ 30) (h40 : D.2.2.2.2.2.1 f ≤ 40) (hoe : oe = 0 ∨ oe = 1) {e : Nat} {r : List fk_F} (he : e < D.2.2.2.2.2.1 f) (hst : D.2.2.2.2.2.2.1 f e = 25 ∨ (D.2.2.2.2.2.2.1 f e = 24 ∧ oe = 1)) (hy : ∃ y, (fk_tr D f e).2.1 = y :: r) {i : Nat} {x : fk_F} (hi : i + 1 ≤ e) (hx : (fk_tr D f (i + 1)).2.1 = x :: r)
    (hno : ∀ j', i + 1 ≤ j' → j' < e → ∀ pre' x', (fk_tr D f j').2.1 = pre' ++ x' :: r → ¬ ((D.2.2.2.2.2.2.1 f j' = 25 ∨ (D.2.2.2.2.2.2.1 f j' = 24 ∧ oe = 1)) ∧ pre' = [])) : fmD_endOf_p I J G pa pb (Int32.ofNat f) (Int32.ofNat i) oe ∧ fmD_endOf_f I J G pa pb (Int32.ofNat f) (Int32.ofNat i) oe = Int32.ofNat e := by
  have := fk_scan (J := J) (G := G) (pa := pa) (pb := pb) (ati := Int32.ofNat i) hf ht hD hg hop h40 hoe he hst hy (e - (i + 1)) (i + 1) [] x 41 (by omega) hx hno (by omega)
  unfold fmD_endOf_p fmD_endOf_f
  rw [fk_s]
  exact this
theorem fk_vs_d {C E : Nat → fk_cell} {b c : Nat} : ∀ (n : Nat) {ts : List Int32}, fk_vs C E b c ts → fk_vs C E b c (ts.drop n)
  | 0, _, h => by simpa using h
  | n + 1, [], h => by simpa using h
  | n + 1, t :: ts, h => by
    have := fk_vs_d n h.2
    simpa using this
theorem fk_pl_bt {D : fk_D} {f c b0 : Nat} {ts : List Int32} {C C1 E E1 H : Nat → fk_cell} (b : Nat) (h : fk_pl D f c b0 ts C C1 E E1 H) : fk_pl D f c b0 (fk_bt b ts) C C1 E E1 H := ⟨h.1, h.2.1, h.2.2.1, fk_vs_d _ h.2.2.2.1, h.2.2.2.2⟩
theorem fk_bt_len {b : Nat} {ts : List Int32} (h : b ≤ ts.length) : (fk_bt b ts).length = b := by
  unfold fk_bt
  rw [List.length_drop]
  omega
theorem fk_jmz_new (nl o : Nat) (op : Int32) (fr : fk_F) (tm : List Int32) (fs : List fk_F) (q : Nat × fk_R) (hl : fk_lv fs = true) {z : Nat × fk_R} (hz : z = (fk_jmz nl o op fr (tm, fs, q)).2.2) : z.1 = q.1 + 1 ∧ z.2.1 q.1 = op ∧ z.2.2.2.1 q.1 = Int32.ofNat (nl + tm.length) ∧ z.2.2.2.2.1 q.1 = (if fk_need fr = 4 then -1 else Int32.ofNat (nl + fr.2.2.1)) ∧ z.2.2.2.2.2.1 q.1 = (if fr.1 = 22 then Int32.ofNat fr.2.2.2.2.2.2.1 else -1) ∧ z.2.2.2.2.2.2 q.1 = (if fr.1 = 22 then -1 else Int32.ofNat o) := by
  subst hz
  obtain ⟨L, r1, r2, r3, r4, r5, r6⟩ := q
  unfold fk_jmz
  dsimp only
  rw [if_pos hl]
  by_cases h4 : fk_need fr = 4
  · by_cases h22 : fr.1 = 22
    · rw [if_pos h4, if_pos h22, if_pos h4, if_pos h22, if_pos h22]
      unfold fk_row
      dsimp only
      rw [if_pos hl]
      exact ⟨rfl, fk_up_eq, fk_up_eq, fk_up_eq, fk_up_eq, fk_up_eq⟩
    · rw [if_pos h4, if_neg h22, if_pos h4, if_neg h22, if_neg h22]
      unfold fk_row
      dsimp only
      rw [if_pos hl]
      exact ⟨rfl, fk_up_eq, fk_up_eq, fk_up_eq, fk_up_eq, fk_up_eq⟩
  · by_cases h22 : fr.1 = 22
    · rw [if_neg h4, if_pos h22, if_neg h4, if_pos h22, if_pos h22]
      unfold fk_row
      dsimp only
      rw [if_pos hl]
      exact ⟨rfl, fk_up_eq, fk_up_eq, fk_up_eq, fk_up_eq, fk_up_eq⟩
    · rw [if_neg h4, if_neg h22, if_neg h4, if_neg h22, if_neg h22]
      unfold fk_row
      dsimp only
      rw [if_pos hl]
      exact ⟨rfl, fk_up_eq, fk_up_eq, fk_up_eq, fk_up_eq, fk_up_eq⟩
theorem fk_jC {Ia : fm_MI} {J : fm_MJ} {G : fm_MG} {c f rw nl b tml : Nat} {tg nd : Int32} (hc : c < 8) (hrw : rw < 40) (hnl : nl ≤ 6) (hb : b ≤ 20) (htm : tml ≤ 20) (h5 : Ia 18 0 5 = Int32.ofNat (c + 1)) (h6 : Ia 18 0 6 = Int32.ofNat (26 * c)) (h11 : Ia 11 f rw = tg) (h10 : Ia 10 f rw = if nd = 4 then -1 else Int32.ofNat (nl + b)) : fmM_jump_p Ia J G f (Int32.ofNat rw) (Int32.ofNat (26 * c + nl + tml)) ∧ (fmM_jump_f Ia J G f (Int32.ofNat rw) (Int32.ofNat (26 * c + nl + tml))).1 = fm_u Ia 23 0 c tg ∧ fk_cC (fmM_jump_f Ia J G f (Int32.ofNat rw) (Int32.ofNat (26 * c + nl + tml))).2.1 (fmM_jump_f Ia J G f (Int32.ofNat rw) (Int32.ofNat (26 * c + nl + tml))).2.2 = if nd = 4 then fk_cC J G else fk_up (fk_cC J G) (26 * c + nl + b) (fk_cC J G (26 * c + nl + tml)) := by
  have er : (Int32.ofNat rw).toNatClampNeg = rw := fk_cl (by omega)
  have vr : vp_in (Int32.ofNat rw) 40 := (fk_in (by omega)).mpr hrw
  have e5 : Ia 18 0 5 - 1 = Int32.ofNat c := by rw [h5, fk_d (by omega)]; rfl
  have ec : (Int32.ofNat c).toNatClampNeg = c := fk_cl (by omega)
  have vc : vp_in (Int32.ofNat c) 8 := (fk_in (by omega)).mpr hc
  by_cases h4 : nd = 4
  · rw [if_pos h4] at h10
    rw [if_pos h4]
    unfold fmM_jump_p fmM_jump_f
    rw [er, h10, h11, e5, ec, if_pos rfl]
    exact ⟨⟨vr, fun _ => ⟨vr, vc⟩, fun q => absurd rfl q⟩, rfl, rfl⟩
  · rw [if_neg h4] at h10
    rw [if_neg h4]
    have hn : ¬ Int32.ofNat (nl + b) = -1 := by
      intro q
      have : ¬ (Int32.ofNat (nl + b) < 0) := fk_nn (by omega)
      rw [q] at this
      exact this (by decide)
    have e6 : Ia 18 0 6 + Int32.ofNat (nl + b) = Int32.ofNat (26 * c + nl + b) := by
      rw [h6, fk_add]; exact congrArg Int32.ofNat (by omega)
    obtain ⟨q1, q2, q3⟩ := fk_copy_v (a := 26 * c + nl + tml) (b := 26 * c + nl + b) (by omega) (by omega) J G
    unfold fmM_jump_p fmM_jump_f
    rw [er, h10, h11, e5, ec, if_neg hn, e6, q2, fm_letE]
    exact ⟨⟨vr, fun q => absurd q hn, fun _ => ⟨vr, q1, fm_letQ ⟨vr, vc⟩⟩⟩, rfl, q3⟩
theorem fk_jD0 {Ib : fm_MI} {J : fm_MJ} {G : fm_MG} (pa pb : Nat × Nat) {c f ob n : Nat} (hc : c < 8) (hf : f < 4) (h29 : Ib 24 0 29 = Int32.ofNat (c + 1)) (h30 : Ib 24 0 30 = Int32.ofNat (ob + n)) (h47 : Ib 47 0 c = Int32.ofNat ob) : fmD_jumpTo_p Ib J G pa pb (Int32.ofNat f) (Int32.ofNat n) ∧ fmD_jumpTo_f Ib J G pa pb (Int32.ofNat f) (Int32.ofNat n) = (fm_u Ib 43 0 c (Ib 27 0 f), J, G) := by
  have e29 : Ib 24 0 29 - 1 = Int32.ofNat c := by rw [h29, fk_d (by omega)]; rfl
  have ec : (Int32.ofNat c).toNatClampNeg = c := fk_cl (by omega)
  have vc : vp_in (Int32.ofNat c) 10 := (fk_in (by omega)).mpr (by omega)
  have vf : vp_in (Int32.ofNat f) 4 := (fk_in (by omega)).mpr hf
  have cf : (Int32.ofNat f).toNatClampNeg = f := fk_cl (by omega)
  have en : Int32.ofNat (ob + n) - Int32.ofNat ob = Int32.ofNat n := by rw [fk_sb (by omega)]; exact congrArg Int32.ofNat (by omega)
  unfold fmD_jumpTo_p fmD_jumpTo_f
  rw [e29, ec, h30, h47, en, if_pos rfl, cf]
  exact ⟨⟨vc, fun _ => ⟨vf, vc⟩, fun q => absurd rfl q⟩, rfl⟩
theorem fk_jDL {Ib : fm_MI} {J : fm_MJ} {G : fm_MG} (pa pb : Nat × Nat) {c f ob a m ia hb : Nat} (hc : c < 8) (hf : f < 4) (h29 : Ib 24 0 29 = Int32.ofNat (c + 1)) (h30 : Ib 24 0 30 = Int32.ofNat (ob + (a + 1 + m))) (hob : ob + (a + 1 + m) ≤ 72) (h47 : Ib 47 0 c = Int32.ofNat ob) (hia : ia < 40) (h45 : Ib 45 0 (ob + m) = Int32.ofNat ia) (h46 : Ib 46 0 (ob + m) = Int32.ofNat hb) (h25 : Ib 25 0 (f * 40 + ia) = 22) :
    fmD_jumpTo_p Ib J G pa pb (Int32.ofNat f) (Int32.ofNat a) ∧ fmD_jumpTo_f Ib J G pa pb (Int32.ofNat f) (Int32.ofNat a) = (fm_u (fm_u (fm_u Ib 24 0 28 (Int32.ofNat hb)) 24 0 30 (Int32.ofNat (ob + m + 1))) 43 0 c (Int32.ofNat (ia + 1)), J, G) := by
  have e29 : Ib 24 0 29 - 1 = Int32.ofNat c := by rw [h29, fk_d (by omega)]; rfl
  have ec : (Int32.ofNat c).toNatClampNeg = c := fk_cl (by omega)
  have vc : vp_in (Int32.ofNat c) 10 := (fk_in (by omega)).mpr (by omega)
  have en : ¬ Int32.ofNat a = Int32.ofNat (ob + (a + 1 + m)) - Int32.ofNat ob := by
    rw [fk_sb (by omega)]
    intro q
    have := (fk_ie (by omega) (by omega)).mp q
    omega
  have ex : Int32.ofNat (ob + (a + 1 + m)) - 1 - Int32.ofNat a = Int32.ofNat (ob + m) := by
    rw [fk_d (by omega), fk_sb (by omega)]; exact congrArg Int32.ofNat (by omega)
  have cx : (Int32.ofNat (ob + m)).toNatClampNeg = ob + m := fk_cl (by omega)
  have vx : vp_in (Int32.ofNat (ob + m)) 90 := (fk_in (by omega)).mpr (by omega)
  have e3 := fk_f40 hf hia
  have e4 : (Int32.ofNat (f * 40 + ia)).toNatClampNeg = f * 40 + ia := fk_cl (by omega)
  have v3 : vp_in (Int32.ofNat (f * 40 + ia)) 160 := (fk_in (by omega)).mpr (by omega)
  constructor <;> simp only [fmD_jumpTo_p, fmD_jumpTo_f, h30, e29, ec, vc, h47, en, ex, cx, vx, h45, h46, e3, e4, v3, h25, fk_s, ↓reduceIte, false_implies, true_implies, true_and, and_true, implies_true, not_true, not_false, and_self, not_true_eq_false, not_false_eq_true]
theorem fk_jDE {Ib : fm_MI} {J : fm_MJ} {G : fm_MG} (pa pb : Nat × Nat) {c f ob a m ia hb e : Nat} {gv : Int32} {y : fm_MI × fm_MJ × fm_MG} (hc : c < 8) (hf : f < 4) (h29 : Ib 24 0 29 = Int32.ofNat (c + 1)) (h30 : Ib 24 0 30 = Int32.ofNat (ob + (a + 1 + m))) (hob : ob + (a + 1 + m) ≤ 72) (h47 : Ib 47 0 c = Int32.ofNat ob) (hia : ia < 40) (h45 : Ib 45 0 (ob + m) = Int32.ofNat ia) (h46 : Ib 46 0 (ob + m) = Int32.ofNat hb) (h25 : ¬ Ib 25 0 (f * 40 + ia) = 22) (h26 : Ib 26 0 (f * 40 + ia) = gv)
    (hy : y = fmD_keep_f Ib J G (if gv = 4 then 0 else 1) (Int32.ofNat hb)) (hk : fmD_keep_p Ib (if gv = 4 then 0 else 1) (Int32.ofNat hb)) (hE1 : fmD_endOf_p (fm_u y.1 24 0 30 (Int32.ofNat (ob + m))) y.2.1 y.2.2 pa pb (Int32.ofNat f) (Int32.ofNat ia) 0) (hE2 : fmD_endOf_f (fm_u y.1 24 0 30 (Int32.ofNat (ob + m))) y.2.1 y.2.2 pa pb (Int32.ofNat f) (Int32.ofNat ia) 0 = Int32.ofNat e) :
    fmD_jumpTo_p Ib J G pa pb (Int32.ofNat f) (Int32.ofNat a) ∧ fmD_jumpTo_f Ib J G pa pb (Int32.ofNat f) (Int32.ofNat a) = (fm_u (fm_u y.1 24 0 30 (Int32.ofNat (ob + m))) 43 0 c (Int32.ofNat (e + 1)), y.2.1, y.2.2) := by
  have e29 : Ib 24 0 29 - 1 = Int32.ofNat c := by rw [h29, fk_d (by omega)]; rfl
  have ec : (Int32.ofNat c).toNatClampNeg = c := fk_cl (by omega)
  have vc : vp_in (Int32.ofNat c) 10 := (fk_in (by omega)).mpr (by omega)
  have en : ¬ Int32.ofNat a = Int32.ofNat (ob + (a + 1 + m)) - Int32.ofNat ob := by
    rw [fk_sb (by omega)]
    intro q
    have := (fk_ie (by omega) (by omega)).mp q
    omega
  have ex : Int32.ofNat (ob + (a + 1 + m)) - 1 - Int32.ofNat a = Int32.ofNat (ob + m) := by
    rw [fk_d (by omega), fk_sb (by omega)]; exact congrArg Int32.ofNat (by omega)
  have cx : (Int32.ofNat (ob + m)).toNatClampNeg = ob + m := fk_cl (by omega)
  have vx : vp_in (Int32.ofNat (ob + m)) 90 := (fk_in (by omega)).mpr (by omega)
  have e3 := fk_f40 hf hia
  have e4 : (Int32.ofNat (f * 40 + ia)).toNatClampNeg = f * 40 + ia := fk_cl (by omega)
  have v3 : vp_in (Int32.ofNat (f * 40 + ia)) 160 := (fk_in (by omega)).mpr (by omega)
  by_cases h4 : gv = 4
  · rw [if_pos h4] at hy hk
    constructor <;> simp only [fmD_jumpTo_p, fmD_jumpTo_f, h30, e29, ec, vc, h47, en, ex, cx, vx, h45, h46, e3, e4, v3, h25, h26, h4, ← hy, hk, fm_letE, fm_letT, hE1, hE2, fk_s, ↓reduceIte, false_implies, true_implies, true_and, and_true, implies_true, not_true, not_false, and_self, not_true_eq_false, not_false_eq_true]
  · rw [if_neg h4] at hy hk
    constructor <;> simp only [fmD_jumpTo_p, fmD_jumpTo_f, h30, e29, ec, vc, h47, en, ex, cx, vx, h45, h46, e3, e4, v3, h25, h26, h4, ← hy, hk, fm_letE, fm_letT, hE1, hE2, fk_s, ↓reduceIte, false_implies, true_implies, true_and, and_true, implies_true, not_true, not_false, and_self, not_true_eq_false, not_false_eq_true]
def fk_jh (D : fk_D) (K : Nat → fk_K) (f p c b0 ob : Nat) (ts ts1 tm : List Int32) (x : fk_F) (l pre : List fk_F) (fr : fk_F) (gs : List fk_F) (q : Nat × fk_R) (op : Int32) : Prop :=
  fk_tr D f p = (ts, x :: l, q) ∧ x :: l = pre ++ fr :: gs ∧ ((fk_need fr = 4 ∧ ts1 = tm) ∨ (fk_need fr ≠ 4 ∧ ts1 = fk_need fr :: tm)) ∧ x.2.2.1 ≤ tm.length ∧ (ts = ts1 ∨ ts = 0 :: ts1) ∧ (fk_tr D f (p + 1)).2.2 = (fk_jmz (D.2.2.1 f) gs.length op fr (tm, x :: l, q)).2.2 ∧ (op = 26 ∨ op = 27) ∧ (D.2.2.2.2.2.2.1 f p = 26 ∨ D.2.2.2.2.2.2.1 f p = 27 ∨ D.2.2.2.2.2.2.1 f p = 28)
theorem fk_jrow {D : fk_D} {K : Nat → fk_K} {I : fm_MI} {f p c b0 ob : Nat} {ts ts1 tm : List Int32} {x : fk_F} {l pre : List fk_F} {fr : fk_F} {gs : List fk_F} {q : Nat × fk_R} {op : Int32} (hs : fk_sc D K I) (hf : f < 4) (ht : D.1 f = true) (hp : p < D.2.2.2.2.2.1 f) (hl : fk_lv (x :: l) = true) (hj : fk_jh D K f p c b0 ob ts ts1 tm x l pre fr gs q op) :
    q.1 < 40 ∧ I 7 f q.1 = op ∧ I 9 f q.1 = Int32.ofNat (D.2.2.1 f + tm.length) ∧ I 10 f q.1 = (if fk_need fr = 4 then -1 else Int32.ofNat (D.2.2.1 f + fr.2.2.1)) ∧ I 11 f q.1 = (K f).2.2.2.2.2.2.2.1 q.1 ∧ q.1 < (fk_tr D f (p + 1)).2.2.1 ∧ (fk_tr D f (p + 1)).2.2.1 = q.1 + 1 ∧ (fk_tr D f (p + 1)).2.2.2.1 q.1 = op ∧ (fk_tr D f (p + 1)).2.2.2.2.2.2.2.1 q.1 = (if fr.1 = 22 then Int32.ofNat fr.2.2.2.2.2.2.1 else -1) ∧ (fk_tr D f (p + 1)).2.2.2.2.2.2.2.2 q.1 = (if fr.1 = 22 then -1 else Int32.ofNat gs.length) := by
  obtain ⟨htr, hxl, hts, hbm, hts0, hq, hopv, ho⟩ := hj
  have e1 : (fk_tr D f p).2.2 = q := by rw [htr]
  obtain ⟨a1, a2, a3, a4, a5, a6, a7, a8, a9⟩ := fk_rowC hs hf ht hp (by rw [htr]; exact hl) (by omega)
  obtain ⟨b1, b2, b3, b4, b5, b6⟩ := fk_jmz_new (D.2.2.1 f) gs.length op fr tm (x :: l) q hl hq
  rw [e1] at a1 a2 a3 a4 a5 a6 a7 a8 a9
  exact ⟨a1, a4.trans b2, a6.trans b3, a7.trans b4, a8, by omega, a2, b2, b5, b6⟩
theorem fk_frin {pre gs l : List fk_F} {x fr : fk_F} {n : Nat} (h : x :: l = pre ++ fr :: gs) (hbs : fk_bs n (x :: l)) : fr.2.2.1 ≤ x.2.2.1 := by
  rw [h] at hbs
  exact (fk_bs_in hbs).2 x l h.symm
theorem fk_jmp0 {D : fk_D} {K : Nat → fk_K} {I : fm_MI} {J : fm_MJ} {G : fm_MG} {I' : fm_MI} {J' : fm_MJ} {G' : fm_MG} {f p : Nat} {ts : List Int32} {fs : List fk_F} {r : List fk_en'} {I2 I3 Ib Ic : fm_MI} {ts1 tm : List Int32} {x : fk_F} {l pre : List fk_F} {fr : fk_F} {q : Nat × fk_R} {op : Int32} (h : fk_RR D K I J G I' J' G' ((f, p, ts, fs) :: r)) (hp : p < D.2.2.2.2.2.1 f) (hA : fk_AD I I2 I' I3 r.length p) (hj : fk_jh D K f p r.length (fk_ex D r).1 (fk_ex D r).2 ts ts1 tm x l pre fr [] q op)
    (hpl1 : fk_pl D f r.length (fk_ex D r).1 ts1 (fk_cC J G) (fk_cC J G) (fk_cD J' G') (fk_cD J' G') (fk_cG J' G')) (hIb : ∀ k i s, (k = 24 → s ≠ 28) → Ib k i s = I3 k i s) (h28 : Ib 24 0 28 = Int32.ofNat ((fk_ex D r).1 + D.2.2.1 f + ts1.length)) (hIc : ∀ k i s, (k = 43 → s ≠ r.length) → Ic k i s = Ib k i s) {X : fm_MI × fm_MJ × fm_MG} (hX : X = fmM_jump_f (fm_u I2 23 0 r.length (Int32.ofNat (q.1 + 1))) J G f (Int32.ofNat q.1) (Int32.ofNat (26 * r.length + D.2.2.1 f + tm.length))) :
    fmM_jump_p (fm_u I2 23 0 r.length (Int32.ofNat (q.1 + 1))) J G f (Int32.ofNat q.1) (Int32.ofNat (26 * r.length + D.2.2.1 f + tm.length)) ∧ X.1 18 0 0 = I2 18 0 0 ∧ fk_RL D K f r X.1 X.2.1 X.2.2 Ic J' G' ((fk_ex D r).1 + D.2.2.1 f + ts1.length) := by
  obtain ⟨x0, l0, q0, rfl, htr0, hlv, hcc, hbs, hst, h30, ⟨g25, g26, g27⟩, hgd, h40, hop30, hwt⟩ := fk_pre h hp
  obtain ⟨⟨hc, hf, ht, hp0, h20, hl1, hl9⟩, ⟨⟨b1, b2, i5, i6⟩, ⟨c1, c2, c3, c4⟩, j29, j28, j30, j18⟩, hud, hpl, hop, hel, ⟨hex1, hex2⟩, hsc, hmD, hdk⟩ := fk_at h
  obtain ⟨m1, m2, m3, m4, m5, m6, m7⟩ := hdk f hf ht
  obtain ⟨A1, A2, A3, A4, A5⟩ := hA
  have hj0 := hj
  obtain ⟨htr, hxl, hts, hbm, hts0, hq, hopv, ho⟩ := hj0
  rw [htr] at htr0
  obtain ⟨⟨rfl, rfl⟩, rfl⟩ : (x = x0 ∧ l = l0) ∧ q = q0 := by
    have e1 := congrArg (fun z => z.2.1) htr0
    have e2 := congrArg (fun z => z.2.2) htr0
    simp only [List.cons.injEq] at e1
    exact ⟨e1, e2⟩
  have hsc2 : fk_sc D K I2 := fk_sc_k hsc (fun k i s a b c => A1 k i s (by omega))
  obtain ⟨r1, r2, r3, r4, r5, r6, r7, r8, r9, r10⟩ := fk_jrow hsc2 hf ht hp hlv hj
  have hJ := fk_J_tr hgd m7 p (by omega)
  obtain ⟨pre', fr', hq1, hq2, hq3⟩ := hJ.2.2.2.2
  obtain ⟨pre2, fr2, hb1, hb2⟩ := fk_b0 hgd m7 p (by omega)
  have hfr : fr = fr' ∧ fr = fr2 := by
    rw [htr] at hq1 hb1
    dsimp only at hq1 hb1
    rw [hxl] at hq1 hb1
    have w1 := congrArg List.getLast? hq1
    have w2 := congrArg List.getLast? hb1
    simp at w1 w2
    exact ⟨w1, w2⟩
  obtain ⟨rfl, rfl⟩ := hfr
  have h22 : ¬ fr.1 = 22 := by rw [hq2]; decide
  have hnd : fk_need fr = D.2.2.2.1 f := by unfold fk_need; rw [if_neg h22, hq3]
  rw [if_neg h22] at r10
  rw [hnd] at r4 hts
  have hts20 : ts1.length ≤ 20 := by
    rcases hts0 with w | w
    · rw [w] at h20; omega
    · rw [w] at h20; simp only [List.length_cons] at h20; omega
  have htm20 : tm.length ≤ 20 := by
    rcases hts with ⟨-, w⟩ | ⟨-, w⟩
    · rw [w] at hts20; omega
    · rw [w] at hts20; simp only [List.length_cons] at hts20; omega
  obtain ⟨jp, jI, jc⟩ := fk_jC (Ia := fm_u I2 23 0 r.length (Int32.ofNat (q.1 + 1))) (J := J) (G := G) (f := f) (rw := q.1) (nl := D.2.2.1 f) (b := fr.2.2.1) (tml := tm.length) (nd := D.2.2.2.1 f) (tg := (K f).2.2.2.2.2.2.2.1 q.1) hc r1 m3 (by omega) htm20 (by rw [fk_ne _ _ (by decide), A1 18 0 5 (by omega)]; exact i5) (by rw [fk_ne _ _ (by decide), A1 18 0 6 (by omega)]; exact i6) (by rw [fk_ne _ _ (by decide)]; exact r5) (by rw [fk_ne _ _ (by decide)]; exact r4)
  rw [← hX] at jI jc
  have htg := fk_tg0 hgd m7 m5 (D.2.2.2.2.2.1 f - (p + 1)) (p + 1) (by omega) r6 r10
  rw [← (fk_fin_r hgd).1] at htg
  have xI : ∀ k i s, (k = 18 → s ≠ 0) → (k = 23 → s ≠ r.length) → X.1 k i s = I k i s := fun k i s a b => by rw [jI, fk_ne3 _ _ b, fk_ne3 _ _ b, A1 k i s a]
  have cI : ∀ k i s, (k = 24 → s ≠ 28 ∧ s ≠ 31) → (k = 43 → s ≠ r.length) → Ic k i s = I' k i s := fun k i s a b => by rw [hIc k i s b, hIb k i s (by omega), A3 k i s (by omega) b]
  have hcells : ∀ n, n ≠ 26 * r.length + D.2.2.1 f → fk_cC X.2.1 X.2.2 n = fk_cC J G n := fun n hn => by
    rw [jc]
    split
    · rfl
    · rw [fk_up_ne (by omega)]
  refine ⟨jp, ?_, ⟨hc, hf, ht⟩, ?_, hwt, ⟨?_, ?_, ?_, ?_⟩, ⟨?_, ?_, ?_⟩, ⟨?_, ?_, ?_⟩, ⟨by omega, fun h4 => ?_⟩, ⟨?_, ?_⟩, fun g hg => ?_, ?_, ?_⟩
  · rw [jI, fk_ne _ _ (by decide), fk_ne _ _ (by decide)]
  · exact fk_el_c hdk (fun k s a b => xI k 0 s (by omega) (by omega)) (fun k s a b => cI k 0 s (by omega) (by omega)) (fun k s a b => cI k 0 s (by omega) (by omega)) (fun n hn => hcells n (by omega)) (fun n hn => rfl) hel
  · rw [xI 22 _ _ (by omega) (by omega)]; exact b1
  · rw [jI, fk_u_eq]; exact htg
  · rw [xI 18 _ _ (by omega) (by omega)]; exact i5
  · rw [xI 18 _ _ (by omega) (by omega)]; exact i6
  · rw [cI 42 _ _ (by omega) (by omega)]; exact c1
  · rw [cI 44 _ _ (by omega) (by omega)]; exact c3
  · rw [cI 47 _ _ (by omega) (by omega)]; exact c4
  · rw [cI 24 _ _ (by omega) (by omega)]; exact j29
  · rw [hIc 24 _ _ (by omega)]; exact h28
  · rw [cI 24 _ _ (by omega) (by omega)]; exact j18
  · rcases hts with ⟨w, -⟩ | ⟨-, w⟩
    · exact absurd w h4
    · rw [w] at hpl1 ⊢
      obtain ⟨-, hv⟩ := fk_pl_pop hpl1
      refine ⟨by simp only [List.length_cons]; omega, ?_⟩
      rw [jc, if_neg h4, hb2]
      have e : fk_up (fk_cC J G) (26 * r.length + D.2.2.1 f + 0) (fk_cC J G (26 * r.length + D.2.2.1 f + tm.length)) (26 * r.length + D.2.2.1 f) = fk_cC J G (26 * r.length + D.2.2.1 f + tm.length) := fk_up_eq
      rw [e]
      exact hv
  · rw [jI, fk_ne _ _ (by decide), fk_ne _ _ (by decide), hIc 24 0 31 (by omega), hIb 24 0 31 (by omega), A2, A5, hud.1]
  · rw [xI 18 0 1 (by omega) (by omega), cI 24 0 32 (by omega) (by omega)]; exact hud.2
  · rw [hcells _ (by omega)]; exact hpl1.2.2.2.2 g hg
  · exact fk_sc_k hsc (fun k i s a1 a2 a3 => xI k i s (by omega) (by omega))
  · exact fk_mD_k hmD (fun k i s a1 a2 => cI k i s (by omega) (by omega))
theorem fk_tg22 {D : fk_D} {f : Nat} {K : fk_K} (hg : fk_gd D f K) (hop : ∀ i, i < D.2.2.2.2.2.1 f → D.2.2.2.2.2.2.1 f i ≤ 30) (h40 : D.2.2.2.2.2.1 f ≤ 40) {i rw : Nat} (hi : i ≤ D.2.2.2.2.2.1 f) (hr : rw < (fk_tr D f i).2.2.1) (hN : fk_N rw (fk_tr D f i).2.1) (hw : (fk_tr D f i).2.2.2.2.2.2.2.2 rw = -1) : K.2.2.2.2.2.2.2.1 rw = (fk_tr D f i).2.2.2.2.2.2.2.1 rw := by
  obtain ⟨n, hn⟩ : ∃ n, D.2.2.2.2.2.1 f = i + n := ⟨D.2.2.2.2.2.1 f - i, by omega⟩
  obtain ⟨s1, s2, s3, s4, s5, s6⟩ := fk_stay hg hop h40 hr n (by omega)
  obtain ⟨-, s7, s8⟩ := s6 hN hw
  obtain ⟨-, f2⟩ := fk_fin_r hg
  obtain ⟨-, -, -, -, t5⟩ := f2 rw
  rw [hn] at t5
  rw [t5, if_neg, s8]
  rintro ⟨-, q⟩
  rw [s7] at q
  exact absurd q (by decide)
theorem fk_Nrow {D : fk_D} {f : Nat} {K : fk_K} (hg : fk_gd D f K) (hop : ∀ i, i < D.2.2.2.2.2.1 f → D.2.2.2.2.2.2.1 f i ≤ 30) (h40 : D.2.2.2.2.2.1 f ≤ 40) {p : Nat} (hp : p < D.2.2.2.2.2.1 f) : fk_N (fk_tr D f p).2.2.1 (fk_tr D f p).2.1 := by
  obtain ⟨hG, hL⟩ := fk_G_tr hg hop h40 p (by omega)
  intro y hy h23 hbr
  rcases hG y hy with w | ⟨b, w1, w2, w3⟩
  · rw [w] at hbr
    have : ¬ (Int32.ofNat (fk_tr D f p).2.2.1 < 0) := fk_nn (by omega)
    rw [← hbr] at this
    exact this (by decide)
  · rw [w2] at hbr
    have := (fk_ie (by omega) (by omega)).mp hbr
    omega
theorem fk_jmpF {D : fk_D} {K : Nat → fk_K} {I : fm_MI} {J : fm_MJ} {G : fm_MG} {I' : fm_MI} {J' : fm_MJ} {G' : fm_MG} {f p : Nat} {ts : List Int32} {fs : List fk_F} {r : List fk_en'} (pa' pb' : Nat × Nat) {I2 I3 Ib : fm_MI} {ts1 tm : List Int32} {x : fk_F} {l pre : List fk_F} {fr : fk_F} {gs : List fk_F} {q : Nat × fk_R} {op : Int32} (h : fk_RR D K I J G I' J' G' ((f, p, ts, fs) :: r)) (hp : p < D.2.2.2.2.2.1 f) (hA : fk_AD I I2 I' I3 r.length p) (hj : fk_jh D K f p r.length (fk_ex D r).1 (fk_ex D r).2 ts ts1 tm x l pre fr gs q op) (hgs : gs ≠ [])
    (hpl1 : fk_pl D f r.length (fk_ex D r).1 ts1 (fk_cC J G) (fk_cC J G) (fk_cD J' G') (fk_cD J' G') (fk_cG J' G')) (hIb : ∀ k i s, (k = 24 → s ≠ 28) → Ib k i s = I3 k i s) (h28 : Ib 24 0 28 = Int32.ofNat ((fk_ex D r).1 + D.2.2.1 f + ts1.length)) {X : fm_MI × fm_MJ × fm_MG} (hX : X = fmM_jump_f (fm_u I2 23 0 r.length (Int32.ofNat (q.1 + 1))) J G f (Int32.ofNat q.1) (Int32.ofNat (26 * r.length + D.2.2.1 f + tm.length))) {Y : fm_MI × fm_MJ × fm_MG} (hY : Y = fmD_jumpTo_f Ib J' G' pa' pb' (Int32.ofNat f) (Int32.ofNat pre.length)) :
    fmM_jump_p (fm_u I2 23 0 r.length (Int32.ofNat (q.1 + 1))) J G f (Int32.ofNat q.1) (Int32.ofNat (26 * r.length + D.2.2.1 f + tm.length)) ∧ fmD_jumpTo_p Ib J' G' pa' pb' (Int32.ofNat f) (Int32.ofNat pre.length) ∧ X.1 18 0 0 = I2 18 0 0 ∧ ∃ p' ts' fs', fk_RR D K X.1 X.2.1 X.2.2 Y.1 Y.2.1 Y.2.2 ((f, p', ts', fs') :: r) := by
  have hRR := h
  obtain ⟨x0, l0, q0, rfl, htr0, hlv, hcc, hbs, hst, h30, ⟨g25, g26, g27⟩, hgd, h40, hop30, hwt⟩ := fk_pre h hp
  obtain ⟨⟨hc, hf, ht, hp0, h20, hl1, hl9⟩, ⟨⟨b1, b2, i5, i6⟩, ⟨c1, c2, c3, c4⟩, j29, j28, j30, j18⟩, hud, hpl, hop, hel, ⟨hex1, hex2⟩, hsc, hmD, hdk⟩ := fk_at h
  obtain ⟨m1, m2, m3, m4, m5, m6, m7⟩ := hdk f hf ht
  obtain ⟨A1, A2, A3, A4, A5⟩ := hA
  have hj0 := hj
  obtain ⟨htr, hxl, hts, hbm, hts0, hq, hopv, ho⟩ := hj0
  rw [htr] at htr0
  obtain ⟨⟨rfl, rfl⟩, rfl⟩ : (x = x0 ∧ l = l0) ∧ q = q0 := by
    have e1 := congrArg (fun z => z.2.1) htr0
    have e2 := congrArg (fun z => z.2.2) htr0
    simp only [List.cons.injEq] at e1
    exact ⟨e1, e2⟩
  have hsc2 : fk_sc D K I2 := fk_sc_k hsc (fun k i s a b c => A1 k i s (by omega))
  obtain ⟨r1, r2, r3, r4, r5, r6, r7, r8, r9, r10⟩ := fk_jrow hsc2 hf ht hp hlv hj
  have hJ := fk_J_tr hgd m7 p (by omega)
  have hCv := fk_Cv_tr hdk hf ht hgd p (by omega)
  have htrf : (fk_tr D f p).2.1 = pre ++ fr :: gs := by rw [htr]; exact hxl
  obtain ⟨e, ⟨⟨k1, k2, k3, k4⟩, ⟨y, k5, k6⟩, k7, k8, k9, k10, ⟨x0, k11, k12⟩, k13⟩, o1, o2, o3, o4, o5, o6, o7, o8, o9, -⟩ := fk_close hgd m7 (i := p) (by omega) htrf hgs
  have hpe : p < e := by
    rcases Nat.lt_or_ge p e with w | w
    · exact w
    · have : p = e := by omega
      subst this
      omega
  have hlvf : fk_lv (fr :: gs) = true := fk_lvs hCv pre fr gs htrf (by rw [htr]; exact hlv)
  have hlvg : fk_lv gs = true := by rw [← o5]; exact (fk_lv_c hlvf).1
  have hts20 : ts1.length ≤ 20 := by
    rcases hts0 with w | w
    · rw [w] at h20; omega
    · rw [w] at h20; simp only [List.length_cons] at h20; omega
  have htm20 : tm.length ≤ 20 := by
    rcases hts with ⟨-, w⟩ | ⟨-, w⟩
    · rw [w] at hts20; omega
    · rw [w] at hts20; simp only [List.length_cons] at hts20; omega
  have hfb : fr.2.2.1 ≤ x.2.2.1 := fk_frin hxl (by have := hJ.1; rw [htr] at this; exact this)
  have hbt1 : fk_bt fr.2.2.1 ts1 = fk_bt fr.2.2.1 ts := by
    rcases hts0 with w | w
    · rw [w]
    · rw [w]
      refine (fk_bt_cons ?_).symm
      rcases hts with ⟨-, w⟩ | ⟨-, w⟩
      · rw [w]; omega
      · rw [w]; simp only [List.length_cons]; omega
  have hb1 : fr.2.2.1 ≤ ts1.length := by
    rcases hts with ⟨-, w⟩ | ⟨-, w⟩
    · rw [w]; omega
    · rw [w]; simp only [List.length_cons]; omega
  obtain ⟨jp, jI, jc⟩ := fk_jC (Ia := fm_u I2 23 0 r.length (Int32.ofNat (q.1 + 1))) (J := J) (G := G) (f := f) (rw := q.1) (nl := D.2.2.1 f) (b := fr.2.2.1) (tml := tm.length) (nd := fk_need fr) (tg := (K f).2.2.2.2.2.2.2.1 q.1) hc r1 m3 (by omega) htm20 (by rw [fk_ne _ _ (by decide), A1 18 0 5 (by omega)]; exact i5) (by rw [fk_ne _ _ (by decide), A1 18 0 6 (by omega)]; exact i6) (by rw [fk_ne _ _ (by decide)]; exact r5) (by rw [fk_ne _ _ (by decide)]; exact r4)
  rw [← hX] at jI jc
  have hlen : (x :: l).length = pre.length + 1 + gs.length := by rw [hxl]; simp only [List.length_append, List.length_cons]; omega
  have hg1 : 1 ≤ gs.length := by
    cases gs with
    | nil => exact absurd rfl hgs
    | cons _ _ => simp
  rw [hlen] at j30 hl9
  have hopf : fk_op I' (fk_ex D r).2 ((fk_ex D r).1 + D.2.2.1 f) (fr :: gs) := fk_op_in (pre := pre) (by rw [← hxl]; exact hop)
  obtain ⟨p45, p46⟩ := hopf.1 hgs
  have bI : ∀ k i s, (k = 24 → s ≠ 28 ∧ s ≠ 31) → (k = 43 → s ≠ r.length) → Ib k i s = I' k i s := fun k i s a b => by rw [hIb k i s (by omega), A3 k i s (by omega) b]
  obtain ⟨d1, d2, d3, d4, d5, d6⟩ := (hmD f hf).2 ht
  obtain ⟨w25, w26⟩ := d6 fr.2.2.2.2.2.1 (by omega)
  have h40' : fr.2.2.2.2.2.1 < 40 := by omega
  have hm : pre.length + 1 + gs.length - 1 = pre.length + 1 + (gs.length - 1) := by omega
  rw [hm] at j30
  have q29 : Ib 24 0 29 = Int32.ofNat (r.length + 1) := by rw [bI 24 0 29 (by omega) (by omega)]; exact j29
  have q30 : Ib 24 0 30 = Int32.ofNat ((fk_ex D r).2 + (pre.length + 1 + (gs.length - 1))) := by rw [bI 24 0 30 (by omega) (by omega)]; exact j30
  have q47 : Ib 47 0 r.length = Int32.ofNat (fk_ex D r).2 := by rw [bI 47 0 _ (by omega) (by omega)]; exact c4
  have q45 : Ib 45 0 ((fk_ex D r).2 + (gs.length - 1)) = Int32.ofNat fr.2.2.2.2.2.1 := by rw [bI 45 0 _ (by omega) (by omega)]; exact p45
  have q46 : Ib 46 0 ((fk_ex D r).2 + (gs.length - 1)) = Int32.ofNat ((fk_ex D r).1 + D.2.2.1 f + fr.2.2.1) := by rw [bI 46 0 _ (by omega) (by omega)]; exact p46
  have q25 : Ib 25 0 (f * 40 + fr.2.2.2.2.2.1) = Int32.ofNat (D.2.2.2.2.2.2.1 f fr.2.2.2.2.2.1) := by rw [bI 25 0 _ (by omega) (by omega)]; exact w25
  have q26 : Ib 26 0 (f * 40 + fr.2.2.2.2.2.1) = fr.2.1 := by rw [bI 26 0 _ (by omega) (by omega), w26, o4]
  have xu : X.1 18 0 0 = I2 18 0 0 := by rw [jI, fk_ne _ _ (by decide), fk_ne _ _ (by decide)]
  have xI : ∀ k i s, (k = 18 → s ≠ 0) → (k = 23 → s ≠ r.length) → X.1 k i s = I k i s := fun k i s a b => by rw [jI, fk_ne3 _ _ b, fk_ne3 _ _ b, A1 k i s a]
  have hopg : ∀ {I1 : fm_MI}, (∀ s, I1 45 0 s = I' 45 0 s ∧ I1 46 0 s = I' 46 0 s) → ∀ z, fk_sm z fr → fk_op I1 (fk_ex D r).2 ((fk_ex D r).1 + D.2.2.1 f) (z :: gs) := fun {I1} hI1 z hz => fk_op_sm hz.2.1.symm hz.2.2.2.1.symm (fk_op_c (fun j hj => hI1 _) hopf)
  by_cases h22 : D.2.2.2.2.2.2.1 f fr.2.2.2.2.2.1 = 22
  · have hk22 : fr.1 = 22 := by
      rcases o7 with w | ⟨w, -⟩
      · rw [w, h22]; rfl
      · omega
    have hnd : fk_need fr = 4 := by unfold fk_need; rw [if_pos hk22]
    obtain ⟨J1, J2⟩ := fk_jDL (J := J') (G := G') pa' pb' (a := pre.length) (m := gs.length - 1) hc hf q29 q30 (by omega) q47 h40' q45 q46 (by rw [q25, h22]; rfl)
    rw [J2] at hY
    refine ⟨jp, J1, xu, fr.2.2.2.2.2.1 + 1, fk_bt fr.2.2.1 ts, x0 :: gs, ?_⟩
    have hfs : fk_lv (x0 :: gs) = true := by
      have hdo := (fk_stp_do (hgd.1 fr.2.2.2.2.2.1 (by omega))).1
      obtain ⟨w1, -⟩ := fk_do_o hdo o2
      rw [k11, o3] at w1
      obtain ⟨w1, -⟩ := List.cons.inj w1
      rw [w1]
      exact fk_lv_i hlvg rfl
    have htt : (fk_tr D f (fr.2.2.2.2.2.1 + 1)).1 = fk_bt fr.2.2.1 ts := by
      have := k13.2
      rw [htr] at this
      dsimp only at this
      rw [this]
      exact (fk_bt_all (by omega)).symm
    have htg : (K f).2.2.2.2.2.2.2.1 q.1 = Int32.ofNat (fk_tr D f (fr.2.2.2.2.2.1 + 1)).2.2.1 := by
      rw [if_pos hk22] at r9 r10
      have hN : fk_N q.1 (fk_tr D f (p + 1)).2.1 := by
        have hN0 := fk_Nrow hgd m7 m5 hp
        rw [htr] at hN0
        dsimp only at hN0
        have hfo := (fk_tr_fo hgd m7 hp).1
        rw [htr] at hfo
        dsimp only at hfo
        rcases hfo with ⟨w, -⟩ | ⟨w, -⟩ | ⟨w, -⟩ | ⟨-, z, rr, w1, w2⟩ | ⟨-, w⟩
        · omega
        · omega
        · omega
        · rw [w2]
          intro yy hyy
          rcases List.mem_cons.mp hyy with e1 | e1
          · subst e1
            exact hN0 z (by rw [w1]; exact List.mem_cons_self)
          · exact hN0 yy (by rw [w1]; exact List.mem_cons_of_mem _ e1)
        · rw [w]; exact hN0
      rw [fk_tg22 hgd m7 m5 (by omega) r6 hN r10, r9, o8]
    rw [hY]
    have hlt : (fk_bt fr.2.2.1 ts).length = fr.2.2.1 := fk_bt_len (by omega)
    refine fk_re hRR xI (by rw [jI, fk_u_eq]; exact htg) (fun k i s a b c => ?_) ?_ ?_ ?_ ?_ ?_ (hopg (fun s => ?_) x0 k12) (by omega) htt k11 hfs
    · dsimp only; rw [fk_ne3 _ _ b, fk_ne3 _ _ (by omega), fk_ne3 _ _ (by omega), bI k i s (by omega) b]
    · dsimp only; rw [fk_u_eq]
    · dsimp only; rw [fk_ne _ _ (by decide), fk_ne3 _ _ (by omega), fk_u_eq, hlt]
    · dsimp only; rw [fk_ne _ _ (by decide), fk_u_eq]; exact congrArg Int32.ofNat (by simp only [List.length_cons]; omega)
    · dsimp only; rw [xu, fk_ne _ _ (by decide), fk_ne3 _ _ (by omega), fk_ne3 _ _ (by omega), hIb 24 0 31 (by omega), A2, A5, hud.1]
    · dsimp only
      rw [jc, if_pos hnd, ← hbt1]
      exact fk_pl_bt _ hpl1
    · dsimp only
      rw [fk_ne _ _ (by decide), fk_ne _ _ (by decide), fk_ne _ _ (by decide), fk_ne _ _ (by decide), fk_ne _ _ (by decide), fk_ne _ _ (by decide), bI 45 0 s (by omega) (by omega), bI 46 0 s (by omega) (by omega)]
      exact ⟨rfl, rfl⟩
  · have hk22 : ¬ fr.1 = 22 := by
      rcases o7 with w | ⟨-, w⟩
      · rw [w]
        intro z
        exact h22 ((fk_ie (b := 22) (by omega) (by omega)).mp z)
      · rw [w]; decide
    have hnd : fk_need fr = fr.2.1 := by unfold fk_need; rw [if_neg hk22]
    rw [hnd] at jc hts
    rw [if_neg hk22] at r10
    have htg := fk_tgJ hgd m7 m5 k3 k4 hgs ⟨y, k5⟩ (e - (p + 1)) (p + 1) (by omega) r6 r10 (by rw [r8]; rcases hopv with w | w <;> (rw [w]; decide)) (fun j j1 j2 => k10 j (by omega) j2)
    have hdo := (fk_stp_do (hgd.1 e k3)).1
    rw [k4] at hdo
    have hJe := fk_J_tr hgd m7 e (by omega)
    obtain ⟨g0, gs', rfl⟩ : ∃ g0 gs', gs = g0 :: gs' := by
      cases gs with
      | nil => exact absurd rfl hgs
      | cons a b => exact ⟨a, b, rfl⟩
    have hyb : y.2.2.1 ≤ (fk_tr D f e).1.length := by
      have := hJe.1
      rw [k5] at this
      exact this.1
    obtain ⟨n1, -⟩ := fk_do_n hdo k5 hyb
    rw [k6.1, k6.2.1, k8.2, htr] at n1
    dsimp only at n1
    have hlt : (fk_bt fr.2.2.1 ts).length = fr.2.2.1 := fk_bt_len (by omega)
    have hEmem : ∀ (I1 : fm_MI), (∀ k i s, (k = 24 → s = 19) → k < 42 ∨ 47 < k → I1 k i s = I' k i s) → ∀ (J1 : fm_MJ) (G1 : fm_MG), fmD_endOf_p I1 J1 G1 pa' pb' (Int32.ofNat f) (Int32.ofNat fr.2.2.2.2.2.1) 0 ∧ fmD_endOf_f I1 J1 G1 pa' pb' (Int32.ofNat f) (Int32.ofNat fr.2.2.2.2.2.1) 0 = Int32.ofNat e := fun I1 hI1 J1 G1 =>
      fk_endOf J1 G1 pa' pb' hf ht (fk_mD_k hmD (fun k i s a b => hI1 k i s b a)) hgd m7 m5 (Or.inl rfl) k3 (Or.inl k4) ⟨y, k5⟩ (by omega) k11 (fun j j1 j2 pre' x' hjj w => by
        rcases w.1 with w1 | ⟨-, w1⟩
        · exact k9 j j1 j2 pre' x' hjj ⟨w1, w.2⟩
        · exact absurd w1 (by decide))
    by_cases h4 : fr.2.1 = 4
    · have hk : fmD_keep_f Ib J' G' (if fr.2.1 = 4 then 0 else 1) (Int32.ofNat ((fk_ex D r).1 + D.2.2.1 f + fr.2.2.1)) = (fm_u Ib 24 0 28 (Int32.ofNat ((fk_ex D r).1 + D.2.2.1 f + fr.2.2.1)), J', G') := by rw [if_pos h4]; exact fk_keep0 Ib J' G' _
      obtain ⟨E1, E2⟩ := hEmem (fm_u (fm_u Ib 24 0 28 (Int32.ofNat ((fk_ex D r).1 + D.2.2.1 f + fr.2.2.1))) 24 0 30 (Int32.ofNat ((fk_ex D r).2 + ((g0 :: gs').length - 1)))) (fun k i s a b => by rw [fk_ne3 _ _ (by omega), fk_ne3 _ _ (by omega), bI k i s (by omega) (by omega)]) J' G'
      obtain ⟨J1, J2⟩ := fk_jDE (J := J') (G := G') pa' pb' (a := pre.length) (m := (g0 :: gs').length - 1) (gv := fr.2.1) (e := e) hc hf q29 q30 (by omega) q47 h40' q45 q46 (by rw [q25]; intro z; exact h22 ((fk_ie (b := 22) (by omega) (by omega)).mp z)) q26 hk.symm (by rw [if_pos h4]; exact ⟨fun _ => trivial, fun z => absurd rfl z⟩) E1 E2
      rw [J2] at hY
      dsimp only at hY
      refine ⟨jp, J1, xu, e + 1, fk_bt fr.2.2.1 ts, g0 :: gs', ?_⟩
      rw [hY]
      have htt : (fk_tr D f (e + 1)).1 = fk_bt fr.2.2.1 ts := by
        rcases n1 with ⟨-, w⟩ | ⟨w, -⟩
        · exact w
        · exact absurd h4 w
      refine fk_re hRR xI (by rw [jI, fk_u_eq]; exact htg) (fun k i s a b c => ?_) ?_ ?_ ?_ ?_ ?_ ?_ (by omega) htt k7 hlvg
      · dsimp only; rw [fk_ne3 _ _ b, fk_ne3 _ _ (by omega), fk_ne3 _ _ (by omega), bI k i s (by omega) b]
      · dsimp only; rw [fk_u_eq]
      · dsimp only; rw [fk_ne _ _ (by decide), fk_ne3 _ _ (by omega), fk_u_eq, hlt]
      · dsimp only; rw [fk_ne _ _ (by decide), fk_u_eq]
      · dsimp only; rw [xu, fk_ne _ _ (by decide), fk_ne3 _ _ (by omega), fk_ne3 _ _ (by omega), hIb 24 0 31 (by omega), A2, A5, hud.1]
      · dsimp only
        rw [jc, if_pos h4, ← hbt1]
        exact fk_pl_bt _ hpl1
      · refine fk_op_c (fun j hj => ?_) hopf.2
        dsimp only
        rw [fk_ne _ _ (by decide), fk_ne _ _ (by decide), fk_ne _ _ (by decide), fk_ne _ _ (by decide), fk_ne _ _ (by decide), fk_ne _ _ (by decide), bI 45 0 _ (by omega) (by omega), bI 46 0 _ (by omega) (by omega)]
        exact ⟨rfl, rfl⟩
    · have hts' : ts1 = fr.2.1 :: tm := by
        rcases hts with ⟨w, -⟩ | ⟨-, w⟩
        · exact absurd w h4
        · exact w
      have hT : ts1.length = tm.length + 1 := by rw [hts']; rfl
      rw [hT] at h28
      have hk : fmD_keep_f Ib J' G' (if fr.2.1 = 4 then 0 else 1) (Int32.ofNat ((fk_ex D r).1 + D.2.2.1 f + fr.2.2.1)) = (fm_u Ib 24 0 28 (Int32.ofNat ((fk_ex D r).1 + D.2.2.1 f + fr.2.2.1 + 1)), fm_u J' 40 0 ((fk_ex D r).1 + D.2.2.1 f + fr.2.2.1) (J' 40 0 ((fk_ex D r).1 + D.2.2.1 f + tm.length)), fm_u G' 41 0 ((fk_ex D r).1 + D.2.2.1 f + fr.2.2.1) (G' 41 0 ((fk_ex D r).1 + D.2.2.1 f + tm.length))) := by
        rw [if_neg h4]
        exact fk_keep1 J' G' (T := (fk_ex D r).1 + D.2.2.1 f + (tm.length + 1)) (by omega) (by omega) (by omega) h28
      have vt : vp_in (Ib 24 0 28 - 1) 260 := by rw [h28, fk_d (by omega)]; exact (fk_in (by omega)).mpr (by omega)
      have vb : vp_in (Int32.ofNat ((fk_ex D r).1 + D.2.2.1 f + fr.2.2.1)) 260 := (fk_in (by omega)).mpr (by omega)
      obtain ⟨E1, E2⟩ := hEmem (fm_u (fm_u Ib 24 0 28 (Int32.ofNat ((fk_ex D r).1 + D.2.2.1 f + fr.2.2.1 + 1))) 24 0 30 (Int32.ofNat ((fk_ex D r).2 + ((g0 :: gs').length - 1)))) (fun k i s a b => by rw [fk_ne3 _ _ (by omega), fk_ne3 _ _ (by omega), bI k i s (by omega) (by omega)]) (fm_u J' 40 0 ((fk_ex D r).1 + D.2.2.1 f + fr.2.2.1) (J' 40 0 ((fk_ex D r).1 + D.2.2.1 f + tm.length))) (fm_u G' 41 0 ((fk_ex D r).1 + D.2.2.1 f + fr.2.2.1) (G' 41 0 ((fk_ex D r).1 + D.2.2.1 f + tm.length)))
      obtain ⟨J1, J2⟩ := fk_jDE (J := J') (G := G') pa' pb' (a := pre.length) (m := (g0 :: gs').length - 1) (gv := fr.2.1) (e := e) hc hf q29 q30 (by omega) q47 h40' q45 q46 (by rw [q25]; intro z; exact h22 ((fk_ie (b := 22) (by omega) (by omega)).mp z)) q26 hk.symm (by rw [if_neg h4]; exact ⟨fun z => absurd z (by decide), fun _ => ⟨vt, vb, vt, vb⟩⟩) E1 E2
      rw [J2] at hY
      dsimp only at hY
      refine ⟨jp, J1, xu, e + 1, fr.2.1 :: fk_bt fr.2.2.1 ts, g0 :: gs', ?_⟩
      rw [hY]
      have htt : (fk_tr D f (e + 1)).1 = fr.2.1 :: fk_bt fr.2.2.1 ts := by
        rcases n1 with ⟨w, -⟩ | ⟨-, w⟩
        · exact absurd w h4
        · exact w
      refine fk_re hRR xI (by rw [jI, fk_u_eq]; exact htg) (fun k i s a b c => ?_) ?_ ?_ ?_ ?_ ?_ ?_ (by omega) htt k7 hlvg
      · dsimp only; rw [fk_ne3 _ _ b, fk_ne3 _ _ (by omega), fk_ne3 _ _ (by omega), bI k i s (by omega) b]
      · dsimp only; rw [fk_u_eq]
      · dsimp only; rw [fk_ne _ _ (by decide), fk_ne3 _ _ (by omega), fk_u_eq]; exact congrArg Int32.ofNat (by simp only [List.length_cons, hlt]; omega)
      · dsimp only; rw [fk_ne _ _ (by decide), fk_u_eq]
      · dsimp only; rw [xu, fk_ne _ _ (by decide), fk_ne3 _ _ (by omega), fk_ne3 _ _ (by omega), hIb 24 0 31 (by omega), A2, A5, hud.1]
      · dsimp only
        rw [jc, if_neg h4, fk_cDB, fk_cGD]
        have hv := (fk_pl_pop (by rw [← hts']; exact hpl1)).2
        have hp2 := fk_pl_push (t := fr.2.1) (tm := fk_bt fr.2.2.1 ts1) (by omega) m3 (by rw [fk_bt_len hb1]; omega) (fk_pl_bt fr.2.2.1 hpl1) hv
        rw [fk_bt_len hb1, hbt1] at hp2
        exact hp2
      · refine fk_op_c (fun j hj => ?_) hopf.2
        dsimp only
        rw [fk_ne _ _ (by decide), fk_ne _ _ (by decide), fk_ne _ _ (by decide), fk_ne _ _ (by decide), fk_ne _ _ (by decide), fk_ne _ _ (by decide), bI 45 0 _ (by omega) (by omega), bI 46 0 _ (by omega) (by omega)]
        exact ⟨rfl, rfl⟩
