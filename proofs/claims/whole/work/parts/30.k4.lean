theorem fk_bi {α β : Type} {x : Int32 ⊕ α} {f : α → Int32 ⊕ β} {b : β} (h : fk_bind x f = .inr b) : ∃ a, x = .inr a ∧ f a = .inr b := by
  cases x with
  | inl c => cases h
  | inr a => exact ⟨a, rfl, h⟩
theorem fk_put_i {t : Int32} {k k' : fk_K} (h : fk_put t k = .inr k') : k'.2 = k.2 ∧ ((t = 4 ∧ k'.1 = k.1) ∨ (t ≠ 4 ∧ k.1.length ≠ 20 ∧ k'.1 = t :: k.1)) := by
  unfold fk_put at h
  split at h
  · rename_i h4
    cases h
    exact ⟨rfl, Or.inl ⟨h4, rfl⟩⟩
  · rename_i h4
    split at h
    · cases h
    · rename_i h20
      cases h
      exact ⟨rfl, Or.inr ⟨h4, h20, rfl⟩⟩
theorem fk_pars_fs {ty : Nat → Int32} : ∀ {n : Nat} {k k' : fk_K}, fk_pars ty n k = .inr k' → k'.2 = k.2
  | 0, k, k', h => by cases h; rfl
  | n + 1, k, k', h => by
    obtain ⟨a, h1, h2⟩ := fk_bi h
    exact (fk_pars_fs h2).trans (fk_tk_fs h1)
theorem fk_jump_fs {nl a : Nat} {op : Int32} {k k' : fk_K} (h : fk_jump nl op a k = .inr k') : k'.2.1 = k.2.1 := by
  unfold fk_jump at h
  split at h
  · cases h
  · obtain ⟨b, h1, h2⟩ := fk_bi h
    cases h2
    rw [(fk_jmz_fs _ _ _ _ _).2, fk_tk_fs h1]
def fk_dd (f : fk_F) : fk_F := (f.1, f.2.1, f.2.2.1, f.2.2.2.1, true, f.2.2.2.2.2)
def fk_ee (f : fk_F) : fk_F := (24, f.2.1, f.2.2.1, f.2.2.2.1, false, f.2.2.2.2.2)
theorem fk_die_fs (k : fk_K) : (fk_die k).2.1 = k.2.1 ∨ ∃ x r, k.2.1 = x :: r ∧ (fk_die k).2.1 = fk_dd x :: r := by
  obtain ⟨ts, fs, q⟩ := k
  cases fs with
  | nil => exact Or.inl rfl
  | cons x r => exact Or.inr ⟨x, r, rfl, rfl⟩
def fk_fx (l m : List fk_F) : Prop := m = l ∨ (∃ x, m = x :: l) ∨ (∃ x r, l = x :: r ∧ m = fk_dd x :: r) ∨ (∃ x r, l = x :: r ∧ x.1 = 23 ∧ m = fk_ee x :: r) ∨ ∃ x y r, l = x :: y :: r ∧ m = y :: r
theorem fk_elz_fs (nl o : Nat) (br : Int32) (ts : List Int32) (fr : fk_F) (fs : List fk_F) (q : Nat × fk_R) : (fk_elz nl o br (ts, fr :: fs, q)).1 = ts ∧ (fk_elz nl o br (ts, fr :: fs, q)).2.1 = fk_ee fr :: fs := by
  simp only [fk_elz]
  generalize hz : (if fk_lv (fr :: fs) = true then fk_w12 q.1 (Int32.ofNat o) (fk_row nl 26 0 (ts, fr :: fs, q)) else (ts, fr :: fs, q)) = z
  have hz1 : z.1 = ts ∧ z.2.1 = fr :: fs := by
    rw [← hz]
    split
    · exact fk_row_fs nl 26 0 (ts, fr :: fs, q)
    · exact ⟨rfl, rfl⟩
  obtain ⟨e1, e2⟩ := fk_here_fs br z
  generalize fk_here br z = y at e1 e2
  obtain ⟨y1, y2, y3⟩ := y
  dsimp only at e1 e2
  rw [e2, hz1.2]
  exact ⟨e1.trans hz1.1, rfl⟩
theorem fk_do_fs {D : fk_D} {f i o : Nat} {a : Int32} {k k' : fk_K} (h : fk_do D f i o a k = .inr k') : fk_fx k.2.1 k'.2.1 := by
  unfold fk_do at h
  dsimp only at h
  split at h
  · exact Or.inl (by rw [(fk_put_i h).1, (fk_row_fs _ _ _ _).2])
  · obtain ⟨b, h1, h2⟩ := fk_bi h; cases h2
    exact Or.inl (by rw [(fk_row_fs _ _ _ _).2, fk_tk_fs h1])
  · obtain ⟨b, h1, h2⟩ := fk_bi h
    exact Or.inl (by rw [(fk_put_i h2).1, (fk_row_fs _ _ _ _).2, fk_tk_fs h1])
  · exact Or.inl (by rw [(fk_put_i h).1, (fk_row_fs _ _ _ _).2])
  · obtain ⟨b, h1, h2⟩ := fk_bi h; cases h2
    exact Or.inl (by rw [(fk_row_fs _ _ _ _).2, fk_tk_fs h1])
  · obtain ⟨b, h1, h2⟩ := fk_bi h; cases h2
    exact Or.inl (by rw [(fk_row_fs _ _ _ _).2, fk_tk_fs h1])
  · obtain ⟨b, h1, h2⟩ := fk_bi h
    obtain ⟨c, h3, h4⟩ := fk_bi h2
    obtain ⟨d, h5, h6⟩ := fk_bi h4
    obtain ⟨b1, b2, b3⟩ := b
    obtain ⟨t1, c1, c2, c3⟩ := c
    obtain ⟨t2, d1, d2, d3⟩ := d
    obtain ⟨i1, -⟩ := fk_take_i h3
    obtain ⟨j1, -⟩ := fk_take_i h5
    have e := fk_tk_fs h1
    refine Or.inl ?_
    rw [(fk_put_i h6).1, (fk_row_fs _ _ _ _).2]
    dsimp only at j1 i1 e ⊢
    rw [j1, i1]
    exact congrArg Prod.fst e
  · obtain ⟨b, h1, h2⟩ := fk_bi h
    obtain ⟨c, h3, h4⟩ := fk_bi h2
    exact Or.inl (by rw [(fk_put_i h4).1, (fk_row_fs _ _ _ _).2, fk_tk_fs h3, fk_tk_fs h1])
  · obtain ⟨b, h1, h2⟩ := fk_bi h
    obtain ⟨c, h3, h4⟩ := fk_bi h2
    exact Or.inl (by rw [(fk_put_i h4).1, (fk_row_fs _ _ _ _).2, fk_tk_fs h3, fk_tk_fs h1])
  · obtain ⟨b, h1, h2⟩ := fk_bi h
    obtain ⟨c, h3, h4⟩ := fk_bi h2
    exact Or.inl (by rw [(fk_put_i h4).1, (fk_row_fs _ _ _ _).2, fk_tk_fs h3, fk_tk_fs h1])
  · obtain ⟨b, h1, h2⟩ := fk_bi h
    obtain ⟨c, h3, h4⟩ := fk_bi h2
    exact Or.inl (by rw [(fk_put_i h4).1, (fk_row_fs _ _ _ _).2, fk_tk_fs h3, fk_tk_fs h1])
  · obtain ⟨b, h1, h2⟩ := fk_bi h
    obtain ⟨c, h3, h4⟩ := fk_bi h2
    exact Or.inl (by rw [(fk_put_i h4).1, (fk_row_fs _ _ _ _).2, fk_tk_fs h3, fk_tk_fs h1])
  · obtain ⟨b, h1, h2⟩ := fk_bi h
    obtain ⟨c, h3, h4⟩ := fk_bi h2
    exact Or.inl (by rw [(fk_put_i h4).1, (fk_row_fs _ _ _ _).2, fk_tk_fs h3, fk_tk_fs h1])
  · obtain ⟨b, h1, h2⟩ := fk_bi h
    obtain ⟨c, h3, h4⟩ := fk_bi h2
    exact Or.inl (by rw [(fk_put_i h4).1, (fk_row_fs _ _ _ _).2, fk_tk_fs h3, fk_tk_fs h1])
  · obtain ⟨b, h1, h2⟩ := fk_bi h
    obtain ⟨c, h3, h4⟩ := fk_bi h2
    exact Or.inl (by rw [(fk_put_i h4).1, (fk_row_fs _ _ _ _).2, fk_tk_fs h3, fk_tk_fs h1])
  · obtain ⟨b, h1, h2⟩ := fk_bi h
    obtain ⟨c, h3, h4⟩ := fk_bi h2
    exact Or.inl (by rw [(fk_put_i h4).1, (fk_row_fs _ _ _ _).2, fk_tk_fs h3, fk_tk_fs h1])
  · obtain ⟨b, h1, h2⟩ := fk_bi h
    exact Or.inl (by rw [(fk_put_i h2).1, (fk_row_fs _ _ _ _).2, fk_tk_fs h1])
  · obtain ⟨ts, fs, L, R⟩ := k
    simp only [fk_open] at h
    split at h
    · cases h
    · cases h; exact Or.inr (Or.inl ⟨_, rfl⟩)
  · obtain ⟨ts, fs, L, R⟩ := k
    simp only [fk_open] at h
    split at h
    · cases h
    · cases h; exact Or.inr (Or.inl ⟨_, rfl⟩)
  · obtain ⟨b, h1, h2⟩ := fk_bi h
    have e := (fk_row_fs (D.2.2.1 f) (Int32.ofNat 23) a b).2
    have e1 := fk_tk_fs h1
    generalize fk_row (D.2.2.1 f) (Int32.ofNat 23) a b = w at h2 e
    obtain ⟨ts, fs, L, R⟩ := w
    simp only [fk_open] at h2
    split at h2
    · cases h2
    · cases h2
      dsimp only at e
      exact Or.inr (Or.inl ⟨_, by rw [← congrArg Prod.fst e1, ← e]⟩)
  · obtain ⟨ts, fs, q⟩ := k
    cases fs with
    | nil => cases h
    | cons fr fs =>
      simp only [fk_else] at h
      split at h
      · rename_i h23
        obtain ⟨b, h1, h2⟩ := fk_bi h
        obtain ⟨b1, b2, b3⟩ := b
        obtain ⟨z1, z2, -⟩ := fk_just_i h1
        subst z1
        cases h2
        exact Or.inr (Or.inr (Or.inr (Or.inl ⟨fr, fs, rfl, h23, (fk_elz_fs _ _ _ _ _ _ _).2⟩)))
      · cases h
  · obtain ⟨ts, fs, q⟩ := k
    cases fs with
    | nil => cases h
    | cons fr fs =>
      cases fs with
      | nil => cases h
      | cons g gs =>
        simp only [fk_end] at h
        obtain ⟨b, h1, h2⟩ := fk_bi h
        obtain ⟨b1, b2, b3⟩ := b
        obtain ⟨z1, z2, -⟩ := fk_just_i h1
        subst z1
        split at h2
        · cases h2
        · refine Or.inr (Or.inr (Or.inr (Or.inr ⟨fr, g, gs, rfl, ?_⟩)))
          rw [(fk_put_i h2).1]
          obtain ⟨L, r1, r2, r3, r4, r5, r6⟩ := b3
          split
          · unfold fk_here
            dsimp only
            split <;> rfl
          · rfl
  · obtain ⟨b, h1, h2⟩ := fk_bi h
    cases h2
    rcases fk_die_fs b with q | ⟨x, r, q1, q2⟩
    · exact Or.inl (q.trans (fk_jump_fs h1))
    · exact Or.inr (Or.inr (Or.inl ⟨x, r, (fk_jump_fs h1).symm.trans q1, q2⟩))
  · obtain ⟨b, h1, h2⟩ := fk_bi h
    obtain ⟨c, h3, h4⟩ := fk_bi h2
    split at h4
    · cases h4
    · exact Or.inl (by rw [(fk_put_i h4).1, fk_jump_fs h3, fk_tk_fs h1])
  · obtain ⟨b, h1, h2⟩ := fk_bi h
    cases h2
    rcases fk_die_fs b with q | ⟨x, r, q1, q2⟩
    · exact Or.inl (q.trans (fk_jump_fs h1))
    · exact Or.inr (Or.inr (Or.inl ⟨x, r, (fk_jump_fs h1).symm.trans q1, q2⟩))
  · obtain ⟨b, h1, h2⟩ := fk_bi h
    exact Or.inl (by rw [(fk_put_i h2).1, (fk_row_fs _ _ _ _).2, fk_pars_fs h1])
  · cases h
    have e := (fk_row_fs (D.2.2.1 f) (Int32.ofNat 30) a k).2
    rcases fk_die_fs (fk_row (D.2.2.1 f) (Int32.ofNat 30) a k) with q | ⟨x, r, q1, q2⟩
    · exact Or.inl (q.trans e)
    · exact Or.inr (Or.inr (Or.inl ⟨x, r, e.symm.trans q1, q2⟩))
  · exact Or.inl (by rw [(fk_put_i h).1, (fk_row_fs _ _ _ _).2])
def fk_Q (rs : Int32) (l : List fk_F) : Prop := ∃ pre fr, l = pre ++ [fr] ∧ fr.1 = 0 ∧ fr.2.1 = rs
theorem fk_Q_fx {rs : Int32} {l m : List fk_F} (hq : fk_Q rs l) (h : fk_fx l m) : fk_Q rs m := by
  obtain ⟨pre, fr, rfl, h0, hr⟩ := hq
  rcases h with rfl | ⟨x, rfl⟩ | ⟨x, r, h1, rfl⟩ | ⟨x, r, h1, h23, rfl⟩ | ⟨x, y, r, h1, rfl⟩
  · exact ⟨pre, fr, rfl, h0, hr⟩
  · exact ⟨x :: pre, fr, rfl, h0, hr⟩
  · cases pre with
    | nil => cases h1; exact ⟨[], fk_dd fr, rfl, h0, hr⟩
    | cons p pre => cases h1; exact ⟨fk_dd x :: pre, fr, rfl, h0, hr⟩
  · cases pre with
    | nil => cases h1; rw [h0] at h23; exact absurd h23 (by decide)
    | cons p pre => cases h1; exact ⟨fk_ee x :: pre, fr, rfl, h0, hr⟩
  · cases pre with
    | nil => cases h1
    | cons p pre =>
      simp only [List.cons_append, List.cons.injEq] at h1
      exact ⟨pre, fr, h1.2.symm, h0, hr⟩
theorem fk_stp_i {D : fk_D} {f i o : Nat} {a : Int32} {k k' : fk_K} (h : fk_stp D f i o a k = .inr k') : fk_okn D f o a k.2.1.length = true ∧ fk_do D f i o a k = .inr k' := by
  unfold fk_stp at h
  cases hb : fk_okn D f o a k.2.1.length with
  | false => rw [hb] at h; cases h
  | true => rw [hb] at h; exact ⟨rfl, h⟩
theorem fk_Q24 {rs : Int32} {l : List fk_F} (h : fk_Q rs l) : ∀ fr, l = [fr] → fr.1 ≠ 23 := by
  obtain ⟨pre, fr, rfl, h0, hr⟩ := h
  intro x hx
  cases pre with
  | nil => cases hx; rw [h0]; decide
  | cons p pre => simp at hx
theorem fk_Q28 {rs : Int32} {l : List fk_F} (h : fk_Q rs l) : ∃ fr, l.drop (l.length - 1) = [fr] ∧ fr.1 ≠ 22 ∧ fr.2.1 = rs := by
  obtain ⟨pre, fr, rfl, h0, hr⟩ := h
  refine ⟨fr, ?_, by rw [h0]; decide, hr⟩
  have : (pre ++ [fr]).length - 1 = pre.length := by simp
  rw [this]
  simp
theorem fk_one_T {I0 I : fm_MI} {D : fk_D} {f o : Nat} {k : fk_K} (i : Nat) (a : Int32) (hD : fk_mD I0 D) (hdk : fk_dk D) (hf : f < 4) (ht : D.1 f = true) (J : fm_MJ) (G : fm_MG) (pa pb : Nat × Nat) (ho : o ≤ 30) (hq : fk_Q (D.2.2.2.1 f) k.2.1) (hx : fk_T I0 I (.inr k)) : fmD_checkOne_p I J G pa pb (Int32.ofNat f) (Int32.ofNat o) a ∧ fk_T I0 (fmD_checkOne_f I J G pa pb (Int32.ofNat f) (Int32.ofNat o) a) (fk_stp D f i o a k) := by
  have hcase : o = 0 ∨ o = 1 ∨ o = 2 ∨ o = 3 ∨ o = 4 ∨ o = 5 ∨ o = 6 ∨ o = 7 ∨ o = 8 ∨ o = 9 ∨ o = 10 ∨ o = 11 ∨ o = 12 ∨ o = 13 ∨ o = 14 ∨ o = 15 ∨ o = 16 ∨ o = 17 ∨ o = 18 ∨ o = 19 ∨ o = 20 ∨ o = 21 ∨ o = 22 ∨ o = 23 ∨ o = 24 ∨ o = 25 ∨ o = 26 ∨ o = 27 ∨ o = 28 ∨ o = 29 ∨ o = 30 := by omega
  rcases hcase with rfl | rfl | rfl | rfl | rfl | rfl | rfl | rfl | rfl | rfl | rfl | rfl | rfl | rfl | rfl | rfl | rfl | rfl | rfl | rfl | rfl | rfl | rfl | rfl | rfl | rfl | rfl | rfl | rfl | rfl | rfl
  · exact fk_c0 i a hD hdk hf ht J G pa pb hx
  · exact fk_c1 i a hD hdk hf ht J G pa pb hx
  · exact fk_c2 i a hD hdk hf ht J G pa pb hx
  · exact fk_c3 i a hD hdk hf ht J G pa pb hx
  · exact fk_c4 i a hD hdk hf ht J G pa pb hx
  · exact fk_c5 i a hD hdk hf ht J G pa pb hx
  · exact fk_c6 i a hD hdk hf ht J G pa pb hx
  · exact fk_c7 i a hD hdk hf ht J G pa pb hx
  · exact fk_c8 i a hD hdk hf ht J G pa pb hx
  · exact fk_c9 i a hD hdk hf ht J G pa pb hx
  · exact fk_c10 i a hD hdk hf ht J G pa pb hx
  · exact fk_c11 i a hD hdk hf ht J G pa pb hx
  · exact fk_c12 i a hD hdk hf ht J G pa pb hx
  · exact fk_c13 i a hD hdk hf ht J G pa pb hx
  · exact fk_c14 i a hD hdk hf ht J G pa pb hx
  · exact fk_c15 i a hD hdk hf ht J G pa pb hx
  · exact fk_c16 i a hD hdk hf ht J G pa pb hx
  · exact fk_c17 i a hD hdk hf ht J G pa pb hx
  · exact fk_c18 i a hD hdk hf ht J G pa pb hx
  · exact fk_c19 i a hD hdk hf ht J G pa pb hx
  · exact fk_c20 i a hD hdk hf ht J G pa pb hx
  · exact fk_c21 i a hD hdk hf ht J G pa pb hx
  · exact fk_c22 i a hD hdk hf ht J G pa pb hx
  · exact fk_c23 i a hD hdk hf ht J G pa pb hx
  · exact fk_c24 i a hD hdk hf ht J G pa pb hx (fk_Q24 hq)
  · exact fk_c25 i a hD hdk hf ht J G pa pb hx
  · exact fk_c26 i a hD hdk hf ht J G pa pb hx
  · exact fk_c27 i a hD hdk hf ht J G pa pb hx
  · exact fk_c28 i a hD hdk hf ht J G pa pb hx (fk_Q28 hq)
  · exact fk_c29 i a hD hdk hf ht J G pa pb hx
  · exact fk_c30 i a hD hdk hf ht J G pa pb hx
theorem fk_cfL (J : fm_MJ) (G : fm_MG) (pa pb : Nat × Nat) {I0 : fm_MI} {D : fk_D} {f : Nat} (hD : fk_mD I0 D) (hdk : fk_dk D) (hf : f < 4) (ht : D.1 f = true) : ∀ (m q i : Nat) (I : fm_MI) (k : fk_K), i + m = D.2.2.2.2.2.1 f → m < q → fk_Q (D.2.2.2.1 f) k.2.1 → fk_T I0 I (.inr k) →
    fmD_checkFunction_L28_p q I J G pa pb (Int32.ofNat f) (Int32.ofNat i) ∧ ∃ at' I', fmD_checkFunction_L28_f q I J G pa pb (Int32.ofNat f) (Int32.ofNat i) = (at', I') ∧ fk_T I0 I' (fk_x (fk_chk D f m i k)) ∧ ∀ j c, fk_chk D f m i k = .inl (j, c) → at' = Int32.ofNat j
  | _, 0, _, _, _, _, h, _, _ => by omega
  | m, q + 1, i, I, k, hm, hq, hQ, hx => by
    obtain ⟨-, hg⟩ := hD f hf
    obtain ⟨g1, g2, g3, g4, g5, g6⟩ := hg ht
    obtain ⟨d1, d2, d3, d4, d5, d6, d7⟩ := hdk f hf ht
    have hcf : (Int32.ofNat f).toNatClampNeg = f := fk_cl (by omega)
    have hvf : vp_in (Int32.ofNat f) 4 := (fk_in (by omega)).mpr hf
    have h27 : ∀ I', fk_frD I0 I' → I' 27 0 f = Int32.ofNat (D.2.2.2.2.2.1 f) := fun I' h => (h 27 0 _ (Or.inl (by decide)) (fun q => absurd q (by decide))).trans g4
    unfold fmD_checkFunction_L28_p fmD_checkFunction_L28_f
    rw [hcf, h27 I hx.1]
    have e := fk_le (a := D.2.2.2.2.2.1 f) (b := i) (by omega) (by omega)
    have ho : I 24 0 16 = Int32.ofNat k.2.1.length ∧ 1 ≤ k.2.1.length ∧ k.2.1.length ≤ 9 := by
      obtain ⟨-, ⟨o, h1, h2, h5, h6⟩, -⟩ := hx
      rw [h6 _ rfl]; exact ⟨h5, h1, h2⟩
    cases m with
    | zero =>
      have hle := e.mpr (by omega)
      rw [if_pos hle]
      refine fk_pq (fun hp => ⟨hvf, fun _ => hp, fun q => absurd hle q⟩) ?_
      have hi : D.2.2.2.2.2.1 f = i := by omega
      have e1 := fk_le (a := k.2.1.length) (b := 1) (by omega) (by omega)
      rw [ho.1]
      unfold fk_chk fk_fin
      by_cases hl : k.2.1.length = 1
      · have hl' : Int32.ofNat k.2.1.length ≤ 1 := e1.mpr (by omega)
        rw [if_pos hl']
        obtain ⟨f1, f2⟩ := fk_fin_T hx
        refine ⟨⟨fun _ => ⟨f1, fk_letI hvf⟩, fun q => absurd hl' q⟩, ?_⟩
        rw [fm_letE, h27 _ f2.1]
        refine ⟨_, _, rfl, ?_, ?_⟩
        · rw [if_pos hl]
          cases hj : fk_just k with
          | inl c => rw [hj] at f2; exact f2
          | inr k' =>
            rw [hj] at f2
            obtain ⟨ts, fs, L, r1, r2, r3, r4, r5, r6⟩ := k'
            exact fk_T_q f2 rfl rfl
        · intro j c h
          rw [hi]
          split at h
          · cases h; rfl
          · cases h
      · have hl' : ¬ Int32.ofNat k.2.1.length ≤ 1 := fun q => hl (by have := e1.mp q; omega)
        rw [if_neg hl', if_neg hl]
        refine ⟨⟨fun q => absurd q hl', fun _ => hvf⟩, _, _, rfl, fk_T17 hx 5 (by decide), fun j c h => ?_⟩
        cases h
        rw [hi]
    | succ m =>
      have hle : ¬ _ := fun q => absurd (e.mp q) (by omega)
      rw [if_neg hle]
      have hidx : Int32.ofNat f * 40 + Int32.ofNat i = Int32.ofNat (f * 40 + i) := by rw [Int32.ofNat_add, Int32.ofNat_mul]; rfl
      have hv : vp_in (Int32.ofNat f * 40 + Int32.ofNat i) 160 := by rw [hidx]; exact (fk_in (by omega)).mpr (by omega)
      obtain ⟨c1, c2⟩ := g6 i (by omega)
      have h25 : I 25 0 (Int32.ofNat f * 40 + Int32.ofNat i).toNatClampNeg = Int32.ofNat (D.2.2.2.2.2.2.1 f i) := by
        rw [hidx, fk_cl (by omega)]
        exact (hx.1 25 0 _ (Or.inl (by decide)) (fun q => absurd q (by decide))).trans c1
      have h26 : I 26 0 (Int32.ofNat f * 40 + Int32.ofNat i).toNatClampNeg = D.2.2.2.2.2.2.2 f i := by
        rw [hidx, fk_cl (by omega)]
        exact (hx.1 26 0 _ (Or.inl (by decide)) (fun q => absurd q (by decide))).trans c2
      rw [h25, h26, fk_s]
      obtain ⟨a1, a2⟩ := fk_one_T i (D.2.2.2.2.2.2.2 f i) hD hdk hf ht J G pa pb (d7 i (by omega)) hQ hx
      refine fk_pq (fun hp => ⟨hvf, fun q => absurd q hle, fun _ => ⟨hv, hv, a1, hp⟩⟩) ?_
      rw [fm_letE]
      generalize fmD_checkOne_f I J G pa pb (Int32.ofNat f) (Int32.ofNat (D.2.2.2.2.2.2.1 f i)) (D.2.2.2.2.2.2.2 f i) = r at a2 ⊢
      have hft := (fk_ft a2).1
      unfold fk_chk
      cases hk : fk_stp D f i (D.2.2.2.2.2.2.1 f i) (D.2.2.2.2.2.2.2 f i) k with
      | inl c =>
        rw [hk] at a2 hft
        have hn : ¬ r 24 0 17 ≤ 0 := fun q => by obtain ⟨k, q⟩ := hft.mp q; cases q
        refine ⟨⟨fun q => absurd q hn, fun _ => trivial⟩, ?_⟩
        rw [fm_letE, if_neg hn]
        exact ⟨_, _, rfl, a2, fun j c' h => by cases h; rfl⟩
      | inr k' =>
        rw [hk] at a2 hft
        have hp : r 24 0 17 ≤ 0 := hft.mpr ⟨_, rfl⟩
        obtain ⟨p1, p2⟩ := fk_cfL J G pa pb hD hdk hf ht m q (i + 1) r k' (by omega) (by omega) (fk_Q_fx hQ (fk_do_fs (fk_stp_i hk).2)) a2
        refine ⟨⟨fun _ => p1, fun q => absurd hp q⟩, ?_⟩
        rw [fm_letE, if_pos hp]
        exact p2
theorem fk_cf_T (J : fm_MJ) (G : fm_MG) (pa pb : Nat × Nat) {I : fm_MI} {D : fk_D} {f : Nat} (hD : fk_mD I D) (hdk : fk_dk D) (hf : f < 4) (ht : D.1 f = true) :
    fmD_checkFunction_p I J G pa pb (Int32.ofNat f) ∧ ∃ at' I', fmD_checkFunction_f I J G pa pb (Int32.ofNat f) = (at', I') ∧ fk_T I I' (fk_x (fk_chk D f (D.2.2.2.2.2.1 f) 0 (fk_k0 D f))) ∧ ∀ j c, fk_chk D f (D.2.2.2.2.2.1 f) 0 (fk_k0 D f) = .inl (j, c) → at' = Int32.ofNat j := by
  obtain ⟨-, hg⟩ := hD f hf
  obtain ⟨g1, g2, g3, g4, g5, g6⟩ := hg ht
  obtain ⟨d1, d2, d3, d4, d5, d6, d7⟩ := hdk f hf ht
  have hcf : (Int32.ofNat f).toNatClampNeg = f := fk_cl (by omega)
  have hvf : vp_in (Int32.ofNat f) 4 := (fk_in (by omega)).mpr hf
  unfold fmD_checkFunction_p fmD_checkFunction_f
  rw [hcf, g3]
  have hb : fmD_begin_p (fm_u (fm_u (fm_u I 24 0 15 0) 24 0 16 0) 24 0 17 0) ∧ fk_T I (fmD_begin_f (fm_u (fm_u (fm_u I 24 0 15 0) 24 0 16 0) 24 0 17 0) 0 (D.2.2.2.1 f)) (.inr (fk_k0 D f)) := by
    have e16 : (fm_u (fm_u (fm_u I 24 0 15 0) 24 0 16 0) 24 0 17 0) 24 0 16 = 0 := by simp only [fm_u_if]; simp
    have e17 : (fm_u (fm_u (fm_u I 24 0 15 0) 24 0 16 0) 24 0 17 0) 24 0 17 = 0 := by simp only [fm_u_if]; simp
    have e15 : (fm_u (fm_u (fm_u I 24 0 15 0) 24 0 16 0) 24 0 17 0) 24 0 15 = 0 := by simp only [fm_u_if]; simp
    unfold fmD_begin_p fmD_begin_f
    rw [e16, e17, e15, if_pos (by decide), if_neg (by decide)]
    have hv : vp_in 0 12 := (fk_in (n := 0) (by omega)).mpr (by omega)
    refine ⟨⟨fun _ => ⟨fun _ => trivial, fun _ => ⟨hv, hv, hv, hv⟩⟩, fun q => absurd (by decide) q⟩, ?_⟩
    refine ⟨?_, ⟨1, by omega, by omega, fk_u_eq _, fun k q => by cases q; rfl⟩, ?_⟩
    · intro k i s h1 h2
      simp only [fm_u_if]
      have n1 : ¬ (k = 36) := by omega
      have n2 : ¬ (k = 37) := by omega
      have n3 : ¬ (k = 38) := by omega
      have n4 : ¬ (k = 39) := by omega
      simp only [n1, n2, n3, n4, false_and, if_false]
      by_cases hk : k = 24
      · by_cases hi : i = 0
        · obtain ⟨s1, s2, s3⟩ := h2 hk hi
          simp [hk, hi, s1, s2, s3]
        · simp [hi]
      · simp [hk]
    · refine ⟨?_, ?_, by simp [fk_k0], trivial, by simp [fk_k0], by simp [fk_k0], ⟨?_, trivial⟩, ⟨Nat.le_refl _, trivial⟩, fun t ht => by simp [fk_k0] at ht⟩
      · simp only [fm_u_if]; simp
      · simp only [fm_u_if]; simp [fk_k0]
      · simp only [fm_u_if]; simp [fk_b, show (0 : Int32).toNatClampNeg = 0 from rfl]
  obtain ⟨b1, b2⟩ := hb
  obtain ⟨p1, p2⟩ := fk_cfL J G pa pb hD hdk hf ht (D.2.2.2.2.2.1 f) 41 0 _ _ (by omega) (by omega) ⟨[], (0, D.2.2.2.1 f, 0, true, false, 0, 0, -1), rfl, rfl, rfl⟩ b2
  exact ⟨⟨hvf, b1, fk_letI p1⟩, p2⟩
def fk_cs : List Int32 := [1, 2, 3, 4, 5, 6, 7, 99]
def fk_cd {α : Type} (x : Int32 ⊕ α) : Prop := ∀ c, x = .inl c → c ∈ fk_cs
theorem fk_cd_b {α β : Type} {x : Int32 ⊕ α} {f : α → Int32 ⊕ β} (h : fk_cd x) (hf : ∀ k, fk_cd (f k)) : fk_cd (fk_bind x f) := by
  cases x with
  | inl c => intro d hd; cases hd; exact h c rfl
  | inr k => exact hf k
theorem fk_cd_r {α : Type} (k : α) : fk_cd (.inr k : Int32 ⊕ α) := fun c h => by cases h
theorem fk_cd_l {α : Type} {c : Int32} (h : c ∈ fk_cs) : fk_cd (.inl c : Int32 ⊕ α) := fun d hd => by cases hd; exact h
theorem fk_cd_take (w : Int32) (k : fk_K) : fk_cd (fk_take w k) := by
  unfold fk_take
  repeat' split
  all_goals first | exact fk_cd_r _ | exact fk_cd_l (by decide)
theorem fk_cd_tk (w : Int32) (k : fk_K) : fk_cd (fk_tk w k) := fk_cd_b (fk_cd_take w k) (fun _ => fk_cd_r _)
theorem fk_cd_put (t : Int32) (k : fk_K) : fk_cd (fk_put t k) := by
  unfold fk_put
  repeat' split
  all_goals first | exact fk_cd_r _ | exact fk_cd_l (by decide)
theorem fk_cd_open (i : Nat) (op t br : Int32) (k : fk_K) : fk_cd (fk_open i op t br k) := by
  unfold fk_open
  dsimp only
  split
  all_goals first | exact fk_cd_r _ | exact fk_cd_l (by decide)
theorem fk_cd_just (k : fk_K) : fk_cd (fk_just k) := by
  unfold fk_just
  split
  · exact fk_cd_l (by decide)
  · refine fk_cd_b (fk_cd_tk _ _) (fun k => ?_)
    split
    all_goals first | exact fk_cd_r _ | exact fk_cd_l (by decide)
theorem fk_cd_else (nl : Nat) (k : fk_K) : fk_cd (fk_else nl k) := by
  unfold fk_else
  split
  · exact fk_cd_l (by decide)
  · split
    · exact fk_cd_b (fk_cd_just _) (fun _ => fk_cd_r _)
    · exact fk_cd_l (by decide)
theorem fk_cd_end (k : fk_K) : fk_cd (fk_end k) := by
  unfold fk_end
  split
  · exact fk_cd_l (by decide)
  · exact fk_cd_l (by decide)
  · refine fk_cd_b (fk_cd_just _) (fun k => ?_)
    split
    · exact fk_cd_l (by decide)
    · exact fk_cd_put _ _
theorem fk_cd_jump (nl a : Nat) (op : Int32) (k : fk_K) : fk_cd (fk_jump nl op a k) := by
  unfold fk_jump
  split
  · exact fk_cd_l (by decide)
  · exact fk_cd_b (fk_cd_tk _ _) (fun _ => fk_cd_r _)
theorem fk_cd_pars (ty : Nat → Int32) : ∀ (n : Nat) (k : fk_K), fk_cd (fk_pars ty n k)
  | 0, k => fk_cd_r _
  | n + 1, k => fk_cd_b (fk_cd_tk _ _) (fk_cd_pars ty n)
theorem fk_cd_do (D : fk_D) (f i o : Nat) (a : Int32) (k : fk_K) : fk_cd (fk_do D f i o a k) := by
  unfold fk_do
  dsimp only
  split
  · exact fk_cd_put _ _
  · exact fk_cd_b (fk_cd_tk _ _) (fun _ => fk_cd_r _)
  · exact fk_cd_b (fk_cd_tk _ _) (fun _ => fk_cd_put _ _)
  · exact fk_cd_put _ _
  · exact fk_cd_b (fk_cd_tk _ _) (fun _ => fk_cd_r _)
  · exact fk_cd_b (fk_cd_tk _ _) (fun _ => fk_cd_r _)
  · exact fk_cd_b (fk_cd_tk _ _) (fun _ => fk_cd_b (fk_cd_take _ _) (fun _ => fk_cd_b (fk_cd_take _ _) (fun _ => fk_cd_put _ _)))
  · exact fk_cd_b (fk_cd_tk _ _) (fun _ => fk_cd_b (fk_cd_tk _ _) (fun _ => fk_cd_put _ _))
  · exact fk_cd_b (fk_cd_tk _ _) (fun _ => fk_cd_b (fk_cd_tk _ _) (fun _ => fk_cd_put _ _))
  · exact fk_cd_b (fk_cd_tk _ _) (fun _ => fk_cd_b (fk_cd_tk _ _) (fun _ => fk_cd_put _ _))
  · exact fk_cd_b (fk_cd_tk _ _) (fun _ => fk_cd_b (fk_cd_tk _ _) (fun _ => fk_cd_put _ _))
  · exact fk_cd_b (fk_cd_tk _ _) (fun _ => fk_cd_b (fk_cd_tk _ _) (fun _ => fk_cd_put _ _))
  · exact fk_cd_b (fk_cd_tk _ _) (fun _ => fk_cd_b (fk_cd_tk _ _) (fun _ => fk_cd_put _ _))
  · exact fk_cd_b (fk_cd_tk _ _) (fun _ => fk_cd_b (fk_cd_tk _ _) (fun _ => fk_cd_put _ _))
  · exact fk_cd_b (fk_cd_tk _ _) (fun _ => fk_cd_b (fk_cd_tk _ _) (fun _ => fk_cd_put _ _))
  · exact fk_cd_b (fk_cd_tk _ _) (fun _ => fk_cd_b (fk_cd_tk _ _) (fun _ => fk_cd_put _ _))
  · exact fk_cd_b (fk_cd_tk _ _) (fun _ => fk_cd_put _ _)
  · exact fk_cd_open _ _ _ _ _
  · exact fk_cd_open _ _ _ _ _
  · exact fk_cd_b (fk_cd_tk _ _) (fun _ => fk_cd_open _ _ _ _ _)
  · exact fk_cd_else _ _
  · exact fk_cd_end _
  · exact fk_cd_b (fk_cd_jump _ _ _ _) (fun _ => fk_cd_r _)
  · refine fk_cd_b (fk_cd_tk _ _) (fun k => fk_cd_b (fk_cd_jump _ _ _ _) (fun k' => ?_))
    split
    · exact fk_cd_l (by decide)
    · exact fk_cd_put _ _
  · exact fk_cd_b (fk_cd_jump _ _ _ _) (fun _ => fk_cd_r _)
  · exact fk_cd_b (fk_cd_pars _ _ _) (fun _ => fk_cd_put _ _)
  · exact fk_cd_r _
  · exact fk_cd_put _ _
theorem fk_cd_stp (D : fk_D) (f i o : Nat) (a : Int32) (k : fk_K) : fk_cd (fk_stp D f i o a k) := by
  unfold fk_stp
  cases fk_okn D f o a k.2.1.length with
  | false => exact fk_cd_l (by decide)
  | true => exact fk_cd_do D f i o a k
theorem fk_cd_fin (k : fk_K) : fk_cd (fk_fin k) := by
  unfold fk_fin
  split
  · exact fk_cd_b (fk_cd_just _) (fun _ => fk_cd_r _)
  · exact fk_cd_l (by decide)
theorem fk_cd_chk (D : fk_D) (f : Nat) : ∀ (m i : Nat) (k : fk_K) (j : Nat) (c : Int32), fk_chk D f m i k = .inl (j, c) → c ∈ fk_cs ∧ j ≤ i + m
  | 0, i, k, j, c, h => by
    unfold fk_chk at h
    split at h
    · rename_i c' h'
      cases h
      exact ⟨fk_cd_fin k _ h', by omega⟩
    · cases h
  | m + 1, i, k, j, c, h => by
    unfold fk_chk at h
    split at h
    · rename_i c' h'
      cases h
      exact ⟨fk_cd_stp _ _ _ _ _ _ _ h', by omega⟩
    · obtain ⟨h1, h2⟩ := fk_cd_chk D f m (i + 1) _ j c h
      exact ⟨h1, by omega⟩
theorem fk_code_nz {j : Nat} {c : Int32} (hc : c ∈ fk_cs) (hj : j ≤ 40) : 100 * Int32.ofNat j + c ≠ 0 := by
  have : ∀ n, n ≤ 40 → ∀ c ∈ fk_cs, 100 * Int32.ofNat n + c ≠ 0 := by decide +kernel
  exact this j hj c hc
theorem fk_dk_of {I : fm_MI} {D : fk_D} (h : fk_mC I D) : fk_dk D := by
  intro g hg ht
  obtain ⟨-, -, h1⟩ := h g hg
  obtain ⟨a1, a2, a3, a4, a5, a6, a7, a8, a9, a10, a11⟩ := h1 ht
  exact ⟨a2, a4, a5, a7, a9, fun j hj => (a10 j hj).2, fun i hi => (a11 i hi).2.1⟩
def fk_fl (I : fm_MI) (D : fk_D) (g : Nat) : Prop := D.1 g = true → ∃ K, fk_chk D g (D.2.2.2.2.2.1 g) 0 (fk_k0 D g) = .inr K ∧ I 6 g 0 = Int32.ofNat K.2.2.1 ∧ K.2.2.1 ≤ 40 ∧ fk_rws I g K.2.2.1 K.2.2.2
def fk_frC (I0 I : fm_MI) : Prop := ∀ k i s, k ≠ 13 → k ≠ 15 → k ≠ 17 → (k < 6 ∨ 12 < k) → (k = 0 → i = 0 → s ≠ 3) → I k i s = I0 k i s
theorem fk_mC_fr {I0 I : fm_MI} {D : fk_D} (h : fk_mC I0 D) (hf : ∀ k i s, 2 ≤ k → k ≤ 5 → I k i s = I0 k i s) : fk_mC I D := by
  intro g hg
  obtain ⟨h1, h2, h3⟩ := h g hg
  refine ⟨(hf _ _ _ (by omega) (by omega)).trans h1, fun q => (hf _ _ _ (by omega) (by omega)).trans (h2 q), fun q => ?_⟩
  obtain ⟨a1, a2, a3, a4, a5, a6, a7, a8, a9, a10, a11⟩ := h3 q
  exact ⟨(hf _ _ _ (by omega) (by omega)).trans a1, a2, (hf _ _ _ (by omega) (by omega)).trans a3, a4, a5, (hf _ _ _ (by omega) (by omega)).trans a6, a7, (hf _ _ _ (by omega) (by omega)).trans a8, a9, fun j hj => ⟨(hf _ _ _ (by omega) (by omega)).trans (a10 j hj).1, (a10 j hj).2⟩, fun i hi => ⟨(hf _ _ _ (by omega) (by omega)).trans (a11 i hi).1, (a11 i hi).2.1, (hf _ _ _ (by omega) (by omega)).trans (a11 i hi).2.2⟩⟩
def fk_ans (D : fk_D) : Nat → Nat → Int32
  | 0, _ => 0
  | n + 1, g => if D.1 g = true then (if fk_code (fk_chk D g (D.2.2.2.2.2.1 g) 0 (fk_k0 D g)) = 0 then fk_ans D n (g + 1) else 10000 * Int32.ofNat g + fk_code (fk_chk D g (D.2.2.2.2.2.1 g) 0 (fk_k0 D g))) else fk_ans D n (g + 1)
theorem fk_chkL (J : fm_MJ) (G : fm_MG) (pb : Nat × Nat) {D : fk_D} : ∀ (n q g : Nat) (I : fm_MI) (pa : Nat × Nat), g + n = 4 → n < q → fk_mC I D → fk_w6 I → (∀ h, h < g → fk_fl I D h) → I 0 0 3 = 0 → (pa = (1, 0) ∨ pa = (14, 0)) →
    fmF_check_L7_p q I J G pa pb (Int32.ofNat g) ∧ ∃ I' pa', fmF_check_L7_f q I J G pa pb (Int32.ofNat g) = (fk_ans D n g, I', pa') ∧ (pa' = (1, 0) ∨ pa' = (14, 0)) ∧ fk_frC I I' ∧ fk_w6 I' ∧ ((fk_ans D n g = 0 ∧ I' 0 0 3 = 1 ∧ ∀ h, h < 4 → fk_fl I' D h) ∨ (fk_ans D n g ≠ 0 ∧ I' 0 0 3 = 0))
  | _, 0, _, _, _, _, h, _, _, _, _, _ => by omega
  | 0, q + 1, g, I, pa, hg, hq, hD, h6, hfl, h03, hpa => by
    unfold fmF_check_L7_p fmF_check_L7_f
    have h4 : (4 : Int32) ≤ Int32.ofNat g := (fk_le (a := 4) (by omega) (by omega)).mpr (by omega)
    rw [if_pos h4]
    refine ⟨⟨fun _ => trivial, fun q => absurd h4 q⟩, _, _, rfl, hpa, ?_, ?_, Or.inl ⟨rfl, fk_u_eq I, ?_⟩⟩
    · intro k i s _ _ _ _ h
      rw [fm_u_if, if_neg]
      rintro ⟨rfl, rfl, rfl⟩
      exact h rfl rfl rfl
    · intro j hj
      rw [fk_u_ne I _ _ (by decide)]
      exact h6 j hj
    · intro h hh ht
      obtain ⟨K, k1, k2, k3, k4⟩ := hfl h (by omega) ht
      refine ⟨K, k1, (fk_u_ne I _ _ (by decide)).trans k2, k3, fun r hr => ?_⟩
      obtain ⟨b1, b2, b3, b4, b5, b6⟩ := k4 r hr
      exact ⟨(fk_u_ne I _ _ (by decide)).trans b1, (fk_u_ne I _ _ (by decide)).trans b2, (fk_u_ne I _ _ (by decide)).trans b3, (fk_u_ne I _ _ (by decide)).trans b4, (fk_u_ne I _ _ (by decide)).trans b5, (fk_u_ne I _ _ (by decide)).trans b6⟩
  | n + 1, q + 1, g, I, pa, hg, hq, hD, h6, hfl, h03, hpa => by
    unfold fmF_check_L7_p fmF_check_L7_f
    have h4 : ¬ (4 : Int32) ≤ Int32.ofNat g := fun q => absurd ((fk_le (a := 4) (by omega) (by omega)).mp q) (by omega)
    have hv : vp_in (Int32.ofNat g) 4 := (fk_in (by omega)).mpr (by omega)
    obtain ⟨hth, hnt, -⟩ := hD g (by omega)
    rw [if_neg h4, fk_cl (show g < 2147483648 by omega), hth, fk_s]
    unfold fk_ans
    cases ht : D.1 g with
    | false =>
      rw [show fk_b false = 0 from rfl, if_pos rfl, if_neg (by decide)]
      obtain ⟨p1, p2⟩ := fk_chkL J G pb n q (g + 1) I pa (by omega) (by omega) hD h6 (fun h hh => by
        rcases Nat.lt_succ_iff_lt_or_eq.mp hh with hh | rfl
        · exact hfl h hh
        · intro q; rw [ht] at q; cases q) h03 hpa
      exact ⟨⟨fun q => absurd q h4, fun _ => ⟨hv, fun _ => p1, fun q => absurd rfl q⟩⟩, p2⟩
    | true =>
      rw [show fk_b true = 1 from rfl, if_neg (by decide), if_pos rfl]
      obtain ⟨f1, I1, f2, f3⟩ := fk_ff_S J G pb hD (by omega) ht h6
      rw [f2, fm_letE, fm_letE]
      dsimp only
      have hfr : fk_frC I I1 := fun k i s q1 q2 q3 q4 _ => f3.1.1 k i s q1 q2 q3 (fun a b => by omega)
      have h03' : I1 0 0 3 = 0 := (f3.1.1 0 0 3 (by decide) (by decide) (by decide) (fun q => absurd q (by decide))).trans h03
      have h6' : fk_w6 I1 := f3.1.2.2.2.2
      by_cases hc : fk_code (fk_chk D g (D.2.2.2.2.2.1 g) 0 (fk_k0 D g)) = 0
      · rw [if_pos hc, if_pos hc]
        have hD1 : fk_mC I1 D := fk_mC_fr hD (fun k i s a b => f3.1.1 k i s (by omega) (by omega) (by omega) (fun q => absurd q (by omega)))
        obtain ⟨K, hK⟩ : ∃ K, fk_chk D g (D.2.2.2.2.2.1 g) 0 (fk_k0 D g) = .inr K := by
          cases hk : fk_chk D g (D.2.2.2.2.2.1 g) 0 (fk_k0 D g) with
          | inr K => exact ⟨K, rfl⟩
          | inl jc =>
            obtain ⟨j, c⟩ := jc
            rw [hk] at hc
            obtain ⟨c1, c2⟩ := fk_cd_chk D g _ _ _ _ _ hk
            have := (fk_dk_of hD g (by omega) ht).2.2.2.2.1
            exact absurd hc (fk_code_nz c1 (by omega))
        have f4 := f3.2
        rw [hK] at f4
        have hfl' : ∀ h, h < g + 1 → fk_fl I1 D h := by
          intro h hh
          rcases Nat.lt_succ_iff_lt_or_eq.mp hh with hh | rfl
          · intro q
            obtain ⟨K', k1, k2, k3, k4⟩ := hfl h hh q
            have e : ∀ k s, 6 ≤ k → k ≤ 12 → I1 k h s = I k h s := fun k s a b => f3.1.1 k h s (by omega) (by omega) (by omega) (fun _ _ => by omega)
            refine ⟨K', k1, (e _ _ (by omega) (by omega)).trans k2, k3, fun r hr => ?_⟩
            obtain ⟨b1, b2, b3, b4, b5, b6⟩ := k4 r hr
            exact ⟨(e _ _ (by omega) (by omega)).trans b1, (e _ _ (by omega) (by omega)).trans b2, (e _ _ (by omega) (by omega)).trans b3, (e _ _ (by omega) (by omega)).trans b4, (e _ _ (by omega) (by omega)).trans b5, (e _ _ (by omega) (by omega)).trans b6⟩
          · intro _
            exact ⟨K, hK, f4.2.2.2.2.2.2.2.2.1, f4.2.2.2.2.2.2.2.2.2.2.1, f4.2.2.2.2.2.2.2.2.2.2.2⟩
        obtain ⟨p1, I2, pa2, p2, p3, p4, p5, p6⟩ := fk_chkL J G pb n q (g + 1) I1 (1, 0) (by omega) (by omega) hD1 h6' hfl' h03' (Or.inl rfl)
        refine ⟨⟨fun q => absurd q h4, fun _ => ⟨hv, fun q => absurd q (by decide), fun _ => ⟨f1, fun _ => p1, fun q => absurd hc q⟩⟩⟩, I2, pa2, p2, p3, ?_, p5, p6⟩
        intro k i s q1 q2 q3 q4 q5
        rw [p4 k i s q1 q2 q3 q4 q5]
        exact hfr k i s q1 q2 q3 q4 q5
      · rw [if_neg hc, if_neg hc]
        refine ⟨⟨fun q => absurd q h4, fun _ => ⟨hv, fun q => absurd q (by decide), fun _ => ⟨f1, fun q => absurd q hc, fun _ => trivial⟩⟩⟩, I1, (1, 0), rfl, Or.inl rfl, hfr, h6', Or.inr ⟨?_, h03'⟩⟩
        cases hk : fk_chk D g (D.2.2.2.2.2.1 g) 0 (fk_k0 D g) with
        | inr K => rw [hk] at hc; exact absurd rfl hc
        | inl jc =>
          obtain ⟨j, c⟩ := jc
          obtain ⟨c1, c2⟩ := fk_cd_chk D g _ _ _ _ _ hk
          have := (fk_dk_of hD g (by omega) ht).2.2.2.2.1
          have hall : ∀ n, n < 4 → ∀ m, m ≤ 40 → ∀ c ∈ fk_cs, 10000 * Int32.ofNat n + (100 * Int32.ofNat m + c) ≠ 0 := by decide +kernel
          exact hall g (by omega) j (by omega) c c1
def fk_frE (I0 I : fm_MI) : Prop := ∀ k i s, (k < 35 ∨ 39 < k) → (k = 24 → i = 0 → s ≠ 15 ∧ s ≠ 16 ∧ s ≠ 17 ∧ s ≠ 18 ∧ s ≠ 19) → I k i s = I0 k i s
theorem fk_mD_fr {I0 I : fm_MI} {D : fk_D} (h : fk_mD I0 D) (hf : ∀ k i s, 25 ≤ k → k ≤ 32 → I k i s = I0 k i s) : fk_mD I D := by
  intro g hg
  obtain ⟨h1, h3⟩ := h g hg
  refine ⟨(hf _ _ _ (by omega) (by omega)).trans h1, fun q => ?_⟩
  obtain ⟨a1, a2, a3, a4, a5, a6⟩ := h3 q
  exact ⟨(hf _ _ _ (by omega) (by omega)).trans a1, (hf _ _ _ (by omega) (by omega)).trans a2, (hf _ _ _ (by omega) (by omega)).trans a3, (hf _ _ _ (by omega) (by omega)).trans a4, fun j hj => (hf _ _ _ (by omega) (by omega)).trans (a5 j hj), fun i hi => ⟨(hf _ _ _ (by omega) (by omega)).trans (a6 i hi).1, (hf _ _ _ (by omega) (by omega)).trans (a6 i hi).2⟩⟩
theorem fk_chkDL (J : fm_MJ) (G : fm_MG) (pa pb : Nat × Nat) {D : fk_D} (hdk : fk_dk D) : ∀ (n q g : Nat) (I : fm_MI), g + n = 4 → n < q → fk_mD I D →
    fmD_check_L7_p q I J G pa pb (Int32.ofNat g) ∧ ∃ I', fmD_check_L7_f q I J G pa pb (Int32.ofNat g) = (fk_ans D n g, I') ∧ fk_frE I I' ∧ I' 24 0 18 = I 24 0 18 ∧ I' 24 0 19 = if fk_ans D n g = 0 then 1 else 0
  | _, 0, _, _, _, h, _ => by omega
  | 0, q + 1, g, I, hg, hq, hD => by
    unfold fmD_check_L7_p fmD_check_L7_f
    have h4 : (4 : Int32) ≤ Int32.ofNat g := (fk_le (a := 4) (by omega) (by omega)).mpr (by omega)
    rw [if_pos h4]
    refine ⟨⟨fun _ => trivial, fun q => absurd h4 q⟩, _, rfl, ?_, fk_u_ns I _ _ (by decide), ?_⟩
    · intro k i s _ h
      rw [fm_u_if, if_neg]
      rintro ⟨rfl, rfl, rfl⟩
      exact absurd rfl (h rfl rfl).2.2.2.2
    · rw [fk_u_eq, if_pos (show fk_ans D 0 g = 0 from rfl)]
  | n + 1, q + 1, g, I, hg, hq, hD => by
    unfold fmD_check_L7_p fmD_check_L7_f
    have h4 : ¬ (4 : Int32) ≤ Int32.ofNat g := fun q => absurd ((fk_le (a := 4) (by omega) (by omega)).mp q) (by omega)
    have hv : vp_in (Int32.ofNat g) 4 := (fk_in (by omega)).mpr (by omega)
    obtain ⟨hth, -⟩ := hD g (by omega)
    rw [if_neg h4, fk_cl (show g < 2147483648 by omega), hth, fk_s]
    unfold fk_ans
    cases ht : D.1 g with
    | false =>
      rw [show fk_b false = 0 from rfl, if_pos rfl, if_neg (by decide)]
      obtain ⟨p1, p2⟩ := fk_chkDL J G pa pb hdk n q (g + 1) I (by omega) (by omega) hD
      exact ⟨⟨fun q => absurd q h4, fun _ => ⟨hv, fun _ => p1, fun q => absurd rfl q⟩⟩, p2⟩
    | true =>
      rw [show fk_b true = 1 from rfl, if_neg (by decide), if_pos rfl]
      obtain ⟨f1, at', I1, f2, f3, f4⟩ := fk_cf_T J G pa pb hD hdk (by omega) ht
      rw [f2, fm_letE, fm_letE]
      dsimp only
      have h40 := (hdk g (by omega) ht).2.2.2.2.1
      have hft := (fk_ft f3).2
      have hfr : fk_frE I I1 := fun k i s q1 q2 => f3.1 k i s q1 (fun a b => ⟨(q2 a b).1, (q2 a b).2.1, (q2 a b).2.2.1⟩)
      have h18 : I1 24 0 18 = I 24 0 18 := f3.1 24 0 18 (Or.inl (by decide)) (fun _ _ => ⟨by decide, by decide, by decide⟩)
      cases hk : fk_chk D g (D.2.2.2.2.2.1 g) 0 (fk_k0 D g) with
      | inr K =>
        rw [hk] at f3 hft
        have h0 : I1 24 0 17 = 0 := hft.mpr ⟨K, rfl⟩
        rw [if_pos h0, show fk_code (Sum.inr K) = 0 from rfl, if_pos rfl]
        have hD1 : fk_mD I1 D := fk_mD_fr hD (fun k i s a b => f3.1 k i s (by omega) (fun q => by omega))
        obtain ⟨p1, I2, p2, p3, p4, p5⟩ := fk_chkDL J G pa pb hdk n q (g + 1) I1 (by omega) (by omega) hD1
        refine ⟨⟨fun q => absurd q h4, fun _ => ⟨hv, fun q => absurd q (by decide), fun _ => ⟨f1, fun _ => p1, fun q => absurd h0 q⟩⟩⟩, I2, p2, ?_, p4.trans h18, p5⟩
        intro k i s q1 q2
        rw [p3 k i s q1 q2]
        exact hfr k i s q1 q2
      | inl jc =>
        obtain ⟨j, c⟩ := jc
        rw [hk] at f3 hft
        obtain ⟨c1, c2⟩ := fk_cd_chk D g _ _ _ _ _ hk
        have hn : ¬ I1 24 0 17 = 0 := fun q => by obtain ⟨k, q⟩ := hft.mp q; cases q
        have hnz : ¬ fk_code (Sum.inl (j, c)) = 0 := fk_code_nz c1 (by omega)
        have hcn : ¬ c = 0 := fun q => hn (f3.2.2.1.trans q)
        rw [if_neg hn, if_neg hnz, f4 j c hk, f3.2.2.1]
        have hall : ∀ n, n < 4 → ∀ m, m ≤ 40 → ∀ c ∈ fk_cs, 10000 * Int32.ofNat n + (100 * Int32.ofNat m + c) ≠ 0 := by decide +kernel
        have hz := hall g (by omega) j (by omega) c c1
        have e : Int32.ofNat g * 10000 + Int32.ofNat j * 100 + c = 10000 * Int32.ofNat g + fk_code (Sum.inl (j, c)) := by
          rw [Int32.mul_comm (Int32.ofNat g), Int32.mul_comm (Int32.ofNat j), Int32.add_assoc]
          rfl
        rw [e]
        refine ⟨⟨fun q => absurd q h4, fun _ => ⟨hv, fun q => absurd q (by decide), fun _ => ⟨f1, fun q => absurd q hcn, fun _ => trivial⟩⟩⟩, _, rfl, ?_, (fk_u_ns _ _ _ (by decide)).trans h18, ?_⟩
        · intro k i s q1 q2
          rw [fm_u_if, if_neg]
          · exact hfr k i s q1 q2
          · rintro ⟨rfl, rfl, rfl⟩
            exact absurd rfl (q2 rfl rfl).2.2.2.2
        · rw [fk_u_eq]
          rw [if_neg (show ¬ 10000 * Int32.ofNat g + fk_code (Sum.inl (j, c)) = 0 from hz)]
theorem fk_checkD (J : fm_MJ) (G : fm_MG) (pa pb : Nat × Nat) {I : fm_MI} {D : fk_D} (hdk : fk_dk D) (hD : fk_mD I D) :
    fmD_check_p I J G pa pb ∧ ∃ I', fmD_check_f I J G pa pb = (fk_ans D 4 0, I') ∧ fk_frE I I' ∧ I' 24 0 18 = 0 ∧ I' 24 0 19 = if fk_ans D 4 0 = 0 then 1 else 0 := by
  obtain ⟨p1, I', p2, p3, p4, p5⟩ := fk_chkDL J G pa pb hdk 4 5 0 (fm_u I 24 0 18 0) (by omega) (by omega) (fk_mD_fr hD (fun k i s a b => fk_u_ne I _ _ (by omega)))
  refine ⟨p1, I', p2, ?_, p4.trans (fk_u_eq I), p5⟩
  intro k i s q1 q2
  rw [p3 k i s q1 q2, fm_u_if, if_neg]
  rintro ⟨rfl, rfl, rfl⟩
  exact absurd rfl (q2 rfl rfl).2.2.2.1
theorem fk_checkC (J : fm_MJ) (G : fm_MG) (pb : Nat × Nat) {I : fm_MI} {D : fk_D} {pa : Nat × Nat} (hD : fk_mC I D) (h6 : fk_w6 I) (hpa : pa = (1, 0) ∨ pa = (14, 0)) :
    fmF_check_p I J G pa pb ∧ ∃ I' pa', fmF_check_f I J G pa pb = (fk_ans D 4 0, I', pa') ∧ (pa' = (1, 0) ∨ pa' = (14, 0)) ∧ fk_frC I I' ∧ fk_w6 I' ∧ ((fk_ans D 4 0 = 0 ∧ I' 0 0 3 = 1 ∧ ∀ h, h < 4 → fk_fl I' D h) ∨ (fk_ans D 4 0 ≠ 0 ∧ I' 0 0 3 = 0)) := by
  obtain ⟨p1, I', pa', p2, p3, p4, p5, p6⟩ := fk_chkL J G pb (D := D) 4 5 0 (fm_u I 0 0 3 0) pa (by omega) (by omega) (fk_mC_fr hD (fun k i s a b => fk_u_ne I _ _ (by omega))) (fun j hj => by rw [fk_u_ne I _ _ (by decide)]; exact h6 j hj) (fun h hh => by omega) (fk_u_eq I) hpa
  refine ⟨p1, I', pa', p2, p3, ?_, p5, p6⟩
  intro k i s q1 q2 q3 q4 q5
  rw [p4 k i s q1 q2 q3 q4 q5, fm_u_if, if_neg]
  rintro ⟨rfl, rfl, rfl⟩
  exact q5 rfl rfl rfl
