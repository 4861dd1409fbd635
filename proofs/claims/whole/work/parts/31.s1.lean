def fk_fo (o : Nat) (l m : List fk_F) : Prop :=
  (o = 21 ∨ o = 22 ∨ o = 23) ∧ (∃ x, m = x :: l) ∨ o = 24 ∧ (∃ x r, l = x :: r ∧ x.1 = 23 ∧ m = fk_ee x :: r) ∨ o = 25 ∧ (∃ x y r, l = x :: y :: r ∧ m = y :: r) ∨ (o = 26 ∨ o = 28 ∨ o = 30) ∧ (∃ x r, l = x :: r ∧ m = fk_dd x :: r) ∨ (o ≤ 20 ∨ o = 27 ∨ o = 29) ∧ m = l
def fk_bt (b : Nat) (ts : List Int32) : List Int32 := ts.drop (ts.length - b)
def fk_ab (b : Nat) (ts ts' : List Int32) : Prop := b ≤ ts'.length ∧ fk_bt b ts' = fk_bt b ts
theorem fk_bt_cons {b : Nat} {t : Int32} {ts : List Int32} (h : b ≤ ts.length) : fk_bt b (t :: ts) = fk_bt b ts := by
  unfold fk_bt
  have : (t :: ts).length - b = (ts.length - b) + 1 := by simp; omega
  rw [this]
  rfl
theorem fk_ab_r {b : Nat} {ts : List Int32} (h : b ≤ ts.length) : fk_ab b ts ts := ⟨h, rfl⟩
theorem fk_ab_t {b : Nat} {x y z : List Int32} (h : fk_ab b x y) (g : fk_ab b y z) : fk_ab b x z := ⟨g.1, g.2.trans h.2⟩
theorem fk_ab_push {b : Nat} {t : Int32} {ts : List Int32} (h : b ≤ ts.length) : fk_ab b ts (t :: ts) := ⟨by simp; omega, fk_bt_cons h⟩
theorem fk_ab_pop {b : Nat} {t : Int32} {ts : List Int32} (h : b ≤ ts.length) : fk_ab b (t :: ts) ts := ⟨h, (fk_bt_cons h).symm⟩
theorem fk_take_b {w t : Int32} {ts ts' : List Int32} {fr : fk_F} {fs fs' : List fk_F} {q q' : Nat × fk_R} (h : fk_take w (ts, fr :: fs, q) = .inr (t, ts', fs', q')) (hb : fr.2.2.1 ≤ ts.length) : ∀ b, b ≤ fr.2.2.1 → fk_ab b ts ts' := by
  intro b hle
  unfold fk_take at h
  split at h
  · cases h; exact fk_ab_r (by omega)
  · dsimp only at h
    split at h
    · split at h
      · cases h; exact fk_ab_r (by omega)
      · cases h
    · rename_i hne
      split at h
      · cases h
      · rename_i u r
        have hr : b ≤ r.length := by simp at hb hne; omega
        split at h
        · cases h; exact fk_ab_pop hr
        · split at h
          · cases h; exact fk_ab_pop hr
          · split at h
            · cases h; exact fk_ab_pop hr
            · cases h
theorem fk_tk_b {w : Int32} {ts ts' : List Int32} {fr : fk_F} {fs fs' : List fk_F} {q q' : Nat × fk_R} (h : fk_tk w (ts, fr :: fs, q) = .inr (ts', fs', q')) (hb : fr.2.2.1 ≤ ts.length) : ∀ b, b ≤ fr.2.2.1 → fk_ab b ts ts' := by
  obtain ⟨⟨t, x⟩, h1, h2⟩ := fk_bi h
  cases h2
  exact fk_take_b h1 hb
def fk_A (k k' : fk_K) : Prop := k'.2.1 = k.2.1 ∧ ∀ fr fs, k.2.1 = fr :: fs → fr.2.2.1 ≤ k.1.length → fr.2.2.1 ≤ k'.1.length ∧ ∀ b, b ≤ fr.2.2.1 → fk_ab b k.1 k'.1
theorem fk_A_r (k : fk_K) : fk_A k k := ⟨rfl, fun fr fs h hb => ⟨hb, fun b hle => fk_ab_r (by omega)⟩⟩
theorem fk_A_t {k l m : fk_K} (h : fk_A k l) (g : fk_A l m) : fk_A k m := by
  refine ⟨g.1.trans h.1, fun fr fs hf hb => ?_⟩
  obtain ⟨a1, a2⟩ := h.2 fr fs hf hb
  obtain ⟨b1, b2⟩ := g.2 fr fs (h.1.trans hf) a1
  exact ⟨b1, fun b hle => fk_ab_t (a2 b hle) (b2 b hle)⟩
theorem fk_A_take {w t : Int32} {k k' : fk_K} (h : fk_take w k = .inr (t, k')) : fk_A k k' := by
  obtain ⟨ts, fs, q⟩ := k
  obtain ⟨ts', fs', q'⟩ := k'
  obtain ⟨h1, h2, -⟩ := fk_take_i h
  refine ⟨h1, fun fr gs hf hb => ?_⟩
  dsimp only at hf hb
  subst hf
  have := fk_take_b h hb
  exact ⟨(this _ (Nat.le_refl _)).1, this⟩
theorem fk_A_tk {w : Int32} {k k' : fk_K} (h : fk_tk w k = .inr k') : fk_A k k' := by
  obtain ⟨⟨t, x⟩, h1, h2⟩ := fk_bi h
  cases h2
  exact fk_A_take h1
theorem fk_A_put {t : Int32} {k k' : fk_K} (h : fk_put t k = .inr k') : fk_A k k' := by
  obtain ⟨h1, h2⟩ := fk_put_i h
  refine ⟨by rw [h1], fun fr fs hf hb => ?_⟩
  rcases h2 with ⟨-, h2⟩ | ⟨-, -, h2⟩
  · rw [h2]; exact ⟨hb, fun b hle => fk_ab_r (by omega)⟩
  · rw [h2]; exact ⟨by simp; omega, fun b hle => fk_ab_push (by omega)⟩
theorem fk_A_q {k l : fk_K} (h1 : l.1 = k.1) (h2 : l.2.1 = k.2.1) : fk_A k l := ⟨h2, fun fr fs h hb => by rw [h1]; exact ⟨hb, fun b hle => fk_ab_r (by omega)⟩⟩
theorem fk_A_row (nl : Nat) (op a : Int32) (k : fk_K) : fk_A k (fk_row nl op a k) := fk_A_q (fk_row_fs nl op a k).1 (fk_row_fs nl op a k).2
theorem fk_A_pars {ty : Nat → Int32} : ∀ {n : Nat} {k k' : fk_K}, fk_pars ty n k = .inr k' → fk_A k k'
  | 0, k, k', h => by cases h; exact fk_A_r k
  | n + 1, k, k', h => by
    obtain ⟨a, h1, h2⟩ := fk_bi h
    exact fk_A_t (fk_A_tk h1) (fk_A_pars h2)
theorem fk_A_jump {nl a : Nat} {op : Int32} {k k' : fk_K} (h : fk_jump nl op a k = .inr k') : fk_A k k' := by
  unfold fk_jump at h
  split at h
  · cases h
  · obtain ⟨b, h1, h2⟩ := fk_bi h
    cases h2
    exact fk_A_t (fk_A_tk h1) (fk_A_q (fk_jmz_fs _ _ _ _ _).1 (fk_jmz_fs _ _ _ _ _).2)
theorem fk_die_b (k : fk_K) : ∀ fr fs, k.2.1 = fr :: fs → fr.2.2.1 ≤ k.1.length → (fk_die k).2.1 = fk_dd fr :: fs ∧ (fk_die k).1.length = fr.2.2.1 ∧ ∀ b, b ≤ fr.2.2.1 → fk_ab b k.1 (fk_die k).1 := by
  intro fr fs hf hb
  obtain ⟨ts, l, q⟩ := k
  dsimp only at hf hb
  subst hf
  obtain ⟨kd, gv, b0, lv, de, ia, st, br⟩ := fr
  dsimp only at hb
  refine ⟨rfl, by simp [fk_die]; omega, fun b hle => ⟨by simp [fk_die]; dsimp only at hle; omega, ?_⟩⟩
  dsimp only at hle
  simp only [fk_die, fk_bt, List.drop_drop]
  congr 1
  simp
  omega
theorem fk_do_b {D : fk_D} {f i o : Nat} {a : Int32} {k k' : fk_K} {fr : fk_F} {fs : List fk_F} (h : fk_do D f i o a k = .inr k') (hf : k.2.1 = fr :: fs) (hb : fr.2.2.1 ≤ k.1.length) (ho : o ≤ 30) : fk_fo o k.2.1 k'.2.1 ∧ ∀ b, b ≤ fr.2.2.1 → fk_ab b k.1 k'.1 := by
  have plain : ∀ {o : Nat}, (o ≤ 20 ∨ o = 27 ∨ o = 29) → fk_A k k' → fk_fo o k.2.1 k'.2.1 ∧ ∀ b, b ≤ fr.2.2.1 → fk_ab b k.1 k'.1 := fun ho hA => ⟨Or.inr (Or.inr (Or.inr (Or.inr ⟨ho, hA.1⟩))), (hA.2 fr fs hf hb).2⟩
  have die : ∀ {o : Nat} {l : fk_K}, (o = 26 ∨ o = 28 ∨ o = 30) → fk_A k l → k' = fk_die l → fk_fo o k.2.1 k'.2.1 ∧ ∀ b, b ≤ fr.2.2.1 → fk_ab b k.1 k'.1 := by
    intro o l ho hA he
    obtain ⟨a1, a2⟩ := hA.2 fr fs hf hb
    obtain ⟨d1, d2, d3⟩ := fk_die_b l fr fs (hA.1.trans hf) a1
    subst he
    exact ⟨Or.inr (Or.inr (Or.inr (Or.inl ⟨ho, fr, fs, hf, d1⟩))), fun b hle => fk_ab_t (a2 b hle) (d3 b hle)⟩
  unfold fk_do at h
  dsimp only at h
  split at h
  · exact plain (by omega) (fk_A_t (fk_A_row _ _ _ _) (fk_A_put h))
  · obtain ⟨b, h1, h2⟩ := fk_bi h; cases h2
    exact plain (by omega) (fk_A_t (fk_A_tk h1) (fk_A_row _ _ _ _))
  · obtain ⟨b, h1, h2⟩ := fk_bi h
    exact plain (by omega) (fk_A_t (fk_A_t (fk_A_tk h1) (fk_A_row _ _ _ _)) (fk_A_put h2))
  · exact plain (by omega) (fk_A_t (fk_A_row _ _ _ _) (fk_A_put h))
  · obtain ⟨b, h1, h2⟩ := fk_bi h; cases h2
    exact plain (by omega) (fk_A_t (fk_A_tk h1) (fk_A_row _ _ _ _))
  · obtain ⟨b, h1, h2⟩ := fk_bi h; cases h2
    exact plain (by omega) (fk_A_t (fk_A_tk h1) (fk_A_row _ _ _ _))
  · obtain ⟨b, h1, h2⟩ := fk_bi h
    obtain ⟨c, h3, h4⟩ := fk_bi h2
    obtain ⟨d, h5, h6⟩ := fk_bi h4
    exact plain (by omega) (fk_A_t (fk_A_t (fk_A_t (fk_A_t (fk_A_tk h1) (fk_A_take h3)) (fk_A_take h5)) (fk_A_row _ _ _ _)) (fk_A_put h6))
  · obtain ⟨b, h1, h2⟩ := fk_bi h
    obtain ⟨c, h3, h4⟩ := fk_bi h2
    exact plain (by omega) (fk_A_t (fk_A_t (fk_A_t (fk_A_tk h1) (fk_A_tk h3)) (fk_A_row _ _ _ _)) (fk_A_put h4))
  · obtain ⟨b, h1, h2⟩ := fk_bi h
    obtain ⟨c, h3, h4⟩ := fk_bi h2
    exact plain (by omega) (fk_A_t (fk_A_t (fk_A_t (fk_A_tk h1) (fk_A_tk h3)) (fk_A_row _ _ _ _)) (fk_A_put h4))
  · obtain ⟨b, h1, h2⟩ := fk_bi h
    obtain ⟨c, h3, h4⟩ := fk_bi h2
    exact plain (by omega) (fk_A_t (fk_A_t (fk_A_t (fk_A_tk h1) (fk_A_tk h3)) (fk_A_row _ _ _ _)) (fk_A_put h4))
  · obtain ⟨b, h1, h2⟩ := fk_bi h
    obtain ⟨c, h3, h4⟩ := fk_bi h2
    exact plain (by omega) (fk_A_t (fk_A_t (fk_A_t (fk_A_tk h1) (fk_A_tk h3)) (fk_A_row _ _ _ _)) (fk_A_put h4))
  · obtain ⟨b, h1, h2⟩ := fk_bi h
    obtain ⟨c, h3, h4⟩ := fk_bi h2
    exact plain (by omega) (fk_A_t (fk_A_t (fk_A_t (fk_A_tk h1) (fk_A_tk h3)) (fk_A_row _ _ _ _)) (fk_A_put h4))
  · obtain ⟨b, h1, h2⟩ := fk_bi h
    obtain ⟨c, h3, h4⟩ := fk_bi h2
    exact plain (by omega) (fk_A_t (fk_A_t (fk_A_t (fk_A_tk h1) (fk_A_tk h3)) (fk_A_row _ _ _ _)) (fk_A_put h4))
  · obtain ⟨b, h1, h2⟩ := fk_bi h
    obtain ⟨c, h3, h4⟩ := fk_bi h2
    exact plain (by omega) (fk_A_t (fk_A_t (fk_A_t (fk_A_tk h1) (fk_A_tk h3)) (fk_A_row _ _ _ _)) (fk_A_put h4))
  · obtain ⟨b, h1, h2⟩ := fk_bi h
    obtain ⟨c, h3, h4⟩ := fk_bi h2
    exact plain (by omega) (fk_A_t (fk_A_t (fk_A_t (fk_A_tk h1) (fk_A_tk h3)) (fk_A_row _ _ _ _)) (fk_A_put h4))
  · obtain ⟨b, h1, h2⟩ := fk_bi h
    obtain ⟨c, h3, h4⟩ := fk_bi h2
    exact plain (by omega) (fk_A_t (fk_A_t (fk_A_t (fk_A_tk h1) (fk_A_tk h3)) (fk_A_row _ _ _ _)) (fk_A_put h4))
  · obtain ⟨b, h1, h2⟩ := fk_bi h
    exact plain (by omega) (fk_A_t (fk_A_t (fk_A_tk h1) (fk_A_row _ _ _ _)) (fk_A_put h2))
  · obtain ⟨ts, l, L, R⟩ := k
    simp only [fk_open] at h
    split at h
    · cases h
    · cases h; exact ⟨Or.inl ⟨by omega, _, rfl⟩, fun b hle => fk_ab_r (Nat.le_trans hle hb)⟩
  · obtain ⟨ts, l, L, R⟩ := k
    simp only [fk_open] at h
    split at h
    · cases h
    · cases h; exact ⟨Or.inl ⟨by omega, _, rfl⟩, fun b hle => fk_ab_r (Nat.le_trans hle hb)⟩
  · obtain ⟨b, h1, h2⟩ := fk_bi h
    have hA := fk_A_t (fk_A_tk h1) (fk_A_row (D.2.2.1 f) (Int32.ofNat 23) a b)
    generalize fk_row (D.2.2.1 f) (Int32.ofNat 23) a b = w at h2 hA
    obtain ⟨ts, l, L, R⟩ := w
    simp only [fk_open] at h2
    split at h2
    · cases h2
    · cases h2
      exact ⟨Or.inl ⟨by omega, _, by rw [← hA.1]⟩, (hA.2 fr fs hf hb).2⟩
  · obtain ⟨ts, l, q⟩ := k
    dsimp only at hf hb
    subst hf
    simp only [fk_else] at h
    split at h
    · rename_i h23
      obtain ⟨b, h1, h2⟩ := fk_bi h
      obtain ⟨b1, b2, b3⟩ := b
      obtain ⟨z1, z2, z3, -⟩ := fk_just_i h1
      subst z1
      cases h2
      obtain ⟨e1, e2⟩ := fk_elz_fs (D.2.2.1 f) fs.length fr.2.2.2.2.2.2.2 b1 fr fs b3
      refine ⟨Or.inr (Or.inl ⟨rfl, fr, fs, rfl, h23, e2⟩), ?_⟩
      rw [e1]
      exact fk_tk_b z3 hb
    · cases h
  · obtain ⟨ts, l, q⟩ := k
    dsimp only at hf hb
    subst hf
    cases fs with
    | nil => cases h
    | cons g gs =>
      simp only [fk_end] at h
      obtain ⟨b, h1, h2⟩ := fk_bi h
      obtain ⟨b1, b2, b3⟩ := b
      obtain ⟨z1, z2, z3, -⟩ := fk_just_i h1
      subst z1
      have h4 := fk_tk_b z3 hb
      split at h2
      · cases h2
      · obtain ⟨p1, p2⟩ := fk_put_i h2
        have hw : (fk_pop (fk_all (gs.length + 1) (if fr.1 = 23 then fk_here fr.2.2.2.2.2.2.2 (b1, fr :: g :: gs, b3) else (b1, fr :: g :: gs, b3)))).1 = b1 ∧ (fk_pop (fk_all (gs.length + 1) (if fr.1 = 23 then fk_here fr.2.2.2.2.2.2.2 (b1, fr :: g :: gs, b3) else (b1, fr :: g :: gs, b3)))).2.1 = g :: gs := by
          obtain ⟨L, r1, r2, r3, r4, r5, r6⟩ := b3
          split
          · unfold fk_here
            dsimp only
            split <;> exact ⟨rfl, rfl⟩
          · exact ⟨rfl, rfl⟩
        refine ⟨Or.inr (Or.inr (Or.inl ⟨rfl, fr, g, gs, rfl, by rw [p1]; exact hw.2⟩)), fun b hle => ?_⟩
        have h5 := h4 b hle
        rcases p2 with ⟨-, p2⟩ | ⟨-, -, p2⟩
        · rw [p2, hw.1]; exact h5
        · rw [p2, hw.1]; exact fk_ab_t h5 (fk_ab_push h5.1)
  · obtain ⟨b, h1, h2⟩ := fk_bi h
    cases h2
    exact die (by omega) (fk_A_jump h1) rfl
  · obtain ⟨b, h1, h2⟩ := fk_bi h
    obtain ⟨c, h3, h4⟩ := fk_bi h2
    split at h4
    · cases h4
    · exact plain (by omega) (fk_A_t (fk_A_t (fk_A_tk h1) (fk_A_jump h3)) (fk_A_put h4))
  · obtain ⟨b, h1, h2⟩ := fk_bi h
    cases h2
    exact die (by omega) (fk_A_jump h1) rfl
  · obtain ⟨b, h1, h2⟩ := fk_bi h
    exact plain (by omega) (fk_A_t (fk_A_t (fk_A_pars h1) (fk_A_row _ _ _ _)) (fk_A_put h2))
  · cases h
    exact die (by omega) (fk_A_row _ _ _ _) rfl
  · rename_i n
    refine plain ?_ (fk_A_t (fk_A_row _ _ _ _) (fk_A_put h))
    have hcase : o ≤ 3 ∨ o = 4 ∨ o = 5 ∨ o = 6 ∨ o = 7 ∨ o = 8 ∨ o = 9 ∨ o = 10 ∨ o = 11 ∨ o = 12 ∨ o = 13 ∨ o = 14 ∨ o = 15 ∨ o = 16 ∨ o = 17 ∨ o = 18 ∨ o = 19 ∨ o = 20 ∨ o = 21 ∨ o = 22 ∨ o = 23 ∨ o = 24 ∨ o = 25 ∨ o = 26 ∨ o = 27 ∨ o = 28 ∨ o = 29 ∨ o = 30 := by omega
    rcases hcase with h3 | rfl | rfl | rfl | rfl | rfl | rfl | rfl | rfl | rfl | rfl | rfl | rfl | rfl | rfl | rfl | rfl | rfl | rfl | rfl | rfl | rfl | rfl | rfl | rfl | rfl | rfl | rfl
    · omega
    all_goals first | omega | (exfalso; simp_all; done)
def fk_tr (D : fk_D) (f : Nat) : Nat → fk_K
  | 0 => fk_k0 D f
  | i + 1 => match fk_stp D f i (D.2.2.2.2.2.2.1 f i) (D.2.2.2.2.2.2.2 f i) (fk_tr D f i) with | .inr k => k | .inl _ => fk_tr D f i
def fk_gd (D : fk_D) (f : Nat) (K : fk_K) : Prop := (∀ i, i < D.2.2.2.2.2.1 f → fk_stp D f i (D.2.2.2.2.2.2.1 f i) (D.2.2.2.2.2.2.2 f i) (fk_tr D f i) = .inr (fk_tr D f (i + 1))) ∧ fk_fin (fk_tr D f (D.2.2.2.2.2.1 f)) = .inr K
theorem fk_gd_L {D : fk_D} {f : Nat} {K : fk_K} : ∀ (m i : Nat), fk_chk D f m i (fk_tr D f i) = .inr K → (∀ j, i ≤ j → j < i + m → fk_stp D f j (D.2.2.2.2.2.2.1 f j) (D.2.2.2.2.2.2.2 f j) (fk_tr D f j) = .inr (fk_tr D f (j + 1))) ∧ fk_fin (fk_tr D f (i + m)) = .inr K
  | 0, i, h => by
    unfold fk_chk at h
    split at h
    · cases h
    · rename_i k hk
      cases h
      exact ⟨fun j h1 h2 => by omega, hk⟩
  | m + 1, i, h => by
    unfold fk_chk at h
    split at h
    · cases h
    · rename_i k hk
      have e : fk_tr D f (i + 1) = k := by
        rw [fk_tr, hk]
      rw [← e] at h hk
      obtain ⟨h1, h2⟩ := fk_gd_L m (i + 1) h
      refine ⟨fun j hj1 hj2 => ?_, ?_⟩
      · by_cases hj : j = i
        · subst hj; exact hk
        · exact h1 j (by omega) (by omega)
      · have : i + (m + 1) = i + 1 + m := by omega
        rw [this]; exact h2
theorem fk_gd_of {D : fk_D} {f : Nat} {K : fk_K} (h : fk_chk D f (D.2.2.2.2.2.1 f) 0 (fk_k0 D f) = .inr K) : fk_gd D f K := by
  obtain ⟨h1, h2⟩ := fk_gd_L (D.2.2.2.2.2.1 f) 0 h
  refine ⟨fun i hi => h1 i (by omega) (by omega), ?_⟩
  rw [Nat.zero_add] at h2
  exact h2
theorem fk_do_o {D : fk_D} {f i o : Nat} {a : Int32} {k k' : fk_K} (h : fk_do D f i o a k = .inr k') (ho : o = 21 ∨ o = 22 ∨ o = 23) : k'.2.1 = (Int32.ofNat o, a, k'.1.length, fk_lv k.2.1, false, i, k'.2.2.1, if o = 23 ∧ fk_lv k.2.1 = true then Int32.ofNat k.2.2.1 else -1) :: k.2.1 ∧ k.2.1.length ≠ 9 ∧ (o ≠ 23 → k'.1 = k.1 ∧ k'.2.2 = k.2.2) ∧ (o = 23 → ∃ k1, fk_tk 0 k = .inr k1 ∧ k'.1 = k1.1 ∧ k'.2.2 = (fk_row (D.2.2.1 f) 23 a k1).2.2) := by
  obtain ⟨ts, fs, L, R⟩ := k
  rcases ho with rfl | rfl | rfl
  · have h' : fk_open i 21 a (-1) (ts, fs, L, R) = .inr k' := h
    simp only [fk_open] at h'
    split at h'
    · cases h'
    · rename_i h9
      cases h'
      exact ⟨rfl, h9, fun _ => ⟨rfl, rfl⟩, fun q => by omega⟩
  · have h' : fk_open i 22 a (-1) (ts, fs, L, R) = .inr k' := h
    simp only [fk_open] at h'
    split at h'
    · cases h'
    · rename_i h9
      cases h'
      exact ⟨rfl, h9, fun _ => ⟨rfl, rfl⟩, fun q => by omega⟩
  · obtain ⟨b, h1, h2⟩ := fk_bi (show fk_bind (fk_tk 0 (ts, fs, L, R)) (fun k => fk_open i (Int32.ofNat 23) a (if fk_lv k.2.1 = true then Int32.ofNat k.2.2.1 else -1) (fk_row (D.2.2.1 f) (Int32.ofNat 23) a k)) = .inr k' from h)
    have e := fk_row_fs (D.2.2.1 f) (Int32.ofNat 23) a b
    have e1 := fk_tk_fs h1
    have hrow : fk_row (D.2.2.1 f) (Int32.ofNat 23) a b = fk_row (D.2.2.1 f) 23 a b := rfl
    rw [hrow] at e h2
    generalize hw : fk_row (D.2.2.1 f) 23 a b = w at h2 e
    obtain ⟨ts', l, L', R'⟩ := w
    dsimp only at e
    have hb : b.2.1 = fs ∧ b.2.2.1 = L := by rw [e1]; exact ⟨rfl, rfl⟩
    simp only [fk_open] at h2
    split at h2
    · cases h2
    · rename_i h9
      cases h2
      dsimp only
      rw [e.2, hb.1] at h9
      refine ⟨?_, h9, fun q => absurd rfl q, fun _ => ⟨b, h1, e.1, by rw [hw]⟩⟩
      rw [e.2, hb.1, hb.2]
      cases hl : fk_lv fs <;> simp
theorem fk_A20_put {t : Int32} {k k' : fk_K} (h : fk_put t k = .inr k') (h20 : k.1.length ≤ 20) : k'.1.length ≤ 20 := by
  obtain ⟨-, h2⟩ := fk_put_i h
  rcases h2 with ⟨-, h2⟩ | ⟨-, hn, h2⟩
  · rw [h2]; exact h20
  · rw [h2]; simp; omega
theorem fk_A20_take {w t : Int32} {k k' : fk_K} (h : fk_take w k = .inr (t, k')) (h20 : k.1.length ≤ 20) : k'.1.length ≤ 20 := by
  obtain ⟨ts, fs, q⟩ := k
  obtain ⟨ts', fs', q'⟩ := k'
  obtain ⟨-, -, h3⟩ := fk_take_i h
  dsimp only at h20 ⊢
  rcases h3 with ⟨h3, -⟩ | ⟨u, h3, -⟩
  · rw [h3]; exact h20
  · rw [h3] at h20; simp at h20; omega
theorem fk_A20_tk {w : Int32} {k k' : fk_K} (h : fk_tk w k = .inr k') (h20 : k.1.length ≤ 20) : k'.1.length ≤ 20 := by
  obtain ⟨⟨t, x⟩, h1, h2⟩ := fk_bi h
  cases h2
  exact fk_A20_take h1 h20
theorem fk_A20_pars {ty : Nat → Int32} : ∀ {n : Nat} {k k' : fk_K}, fk_pars ty n k = .inr k' → k.1.length ≤ 20 → k'.1.length ≤ 20
  | 0, k, k', h, h20 => by cases h; exact h20
  | n + 1, k, k', h, h20 => by
    obtain ⟨a, h1, h2⟩ := fk_bi h
    exact fk_A20_pars h2 (fk_A20_tk h1 h20)
theorem fk_A20_jump {nl a : Nat} {op : Int32} {k k' : fk_K} (h : fk_jump nl op a k = .inr k') (h20 : k.1.length ≤ 20) : k'.1.length ≤ 20 := by
  unfold fk_jump at h
  split at h
  · cases h
  · obtain ⟨b, h1, h2⟩ := fk_bi h
    cases h2
    rw [(fk_jmz_fs _ _ _ _ _).1]
    exact fk_A20_tk h1 h20
theorem fk_A20_die (k : fk_K) (h20 : k.1.length ≤ 20) : (fk_die k).1.length ≤ 20 := by
  obtain ⟨ts, fs, q⟩ := k
  cases fs with
  | nil => exact h20
  | cons x r => simp [fk_die]; dsimp only at h20; omega
theorem fk_A20_row {nl : Nat} {op a : Int32} {k : fk_K} (h20 : k.1.length ≤ 20) : (fk_row nl op a k).1.length ≤ 20 := by rw [(fk_row_fs nl op a k).1]; exact h20
theorem fk_do_20 {D : fk_D} {f i o : Nat} {a : Int32} {k k' : fk_K} (h : fk_do D f i o a k = .inr k') (h20 : k.1.length ≤ 20) : k'.1.length ≤ 20 := by
  unfold fk_do at h
  dsimp only at h
  split at h
  · exact fk_A20_put h (fk_A20_row h20)
  · obtain ⟨b, h1, h2⟩ := fk_bi h; cases h2
    exact fk_A20_row (fk_A20_tk h1 h20)
  · obtain ⟨b, h1, h2⟩ := fk_bi h
    exact fk_A20_put h2 (fk_A20_row (fk_A20_tk h1 h20))
  · exact fk_A20_put h (fk_A20_row h20)
  · obtain ⟨b, h1, h2⟩ := fk_bi h; cases h2
    exact fk_A20_row (fk_A20_tk h1 h20)
  · obtain ⟨b, h1, h2⟩ := fk_bi h; cases h2
    exact fk_A20_row (fk_A20_tk h1 h20)
  · obtain ⟨b, h1, h2⟩ := fk_bi h
    obtain ⟨c, h3, h4⟩ := fk_bi h2
    obtain ⟨d, h5, h6⟩ := fk_bi h4
    exact fk_A20_put h6 (fk_A20_row (fk_A20_take h5 (fk_A20_take h3 (fk_A20_tk h1 h20))))
  · obtain ⟨b, h1, h2⟩ := fk_bi h
    obtain ⟨c, h3, h4⟩ := fk_bi h2
    exact fk_A20_put h4 (fk_A20_row (fk_A20_tk h3 (fk_A20_tk h1 h20)))
  · obtain ⟨b, h1, h2⟩ := fk_bi h
    obtain ⟨c, h3, h4⟩ := fk_bi h2
    exact fk_A20_put h4 (fk_A20_row (fk_A20_tk h3 (fk_A20_tk h1 h20)))
  · obtain ⟨b, h1, h2⟩ := fk_bi h
    obtain ⟨c, h3, h4⟩ := fk_bi h2
    exact fk_A20_put h4 (fk_A20_row (fk_A20_tk h3 (fk_A20_tk h1 h20)))
  · obtain ⟨b, h1, h2⟩ := fk_bi h
    obtain ⟨c, h3, h4⟩ := fk_bi h2
    exact fk_A20_put h4 (fk_A20_row (fk_A20_tk h3 (fk_A20_tk h1 h20)))
  · obtain ⟨b, h1, h2⟩ := fk_bi h
    obtain ⟨c, h3, h4⟩ := fk_bi h2
    exact fk_A20_put h4 (fk_A20_row (fk_A20_tk h3 (fk_A20_tk h1 h20)))
  · obtain ⟨b, h1, h2⟩ := fk_bi h
    obtain ⟨c, h3, h4⟩ := fk_bi h2
    exact fk_A20_put h4 (fk_A20_row (fk_A20_tk h3 (fk_A20_tk h1 h20)))
  · obtain ⟨b, h1, h2⟩ := fk_bi h
    obtain ⟨c, h3, h4⟩ := fk_bi h2
    exact fk_A20_put h4 (fk_A20_row (fk_A20_tk h3 (fk_A20_tk h1 h20)))
  · obtain ⟨b, h1, h2⟩ := fk_bi h
    obtain ⟨c, h3, h4⟩ := fk_bi h2
    exact fk_A20_put h4 (fk_A20_row (fk_A20_tk h3 (fk_A20_tk h1 h20)))
  · obtain ⟨b, h1, h2⟩ := fk_bi h
    obtain ⟨c, h3, h4⟩ := fk_bi h2
    exact fk_A20_put h4 (fk_A20_row (fk_A20_tk h3 (fk_A20_tk h1 h20)))
  · obtain ⟨b, h1, h2⟩ := fk_bi h
    exact fk_A20_put h2 (fk_A20_row (fk_A20_tk h1 h20))
  · obtain ⟨ts, l, L, R⟩ := k
    simp only [fk_open] at h
    split at h
    · cases h
    · cases h; exact h20
  · obtain ⟨ts, l, L, R⟩ := k
    simp only [fk_open] at h
    split at h
    · cases h
    · cases h; exact h20
  · obtain ⟨b, h1, h2⟩ := fk_bi h
    have h3 := fk_A20_row (nl := D.2.2.1 f) (op := Int32.ofNat 23) (a := a) (fk_A20_tk h1 h20)
    generalize fk_row (D.2.2.1 f) (Int32.ofNat 23) a b = w at h2 h3
    obtain ⟨ts, l, L, R⟩ := w
    simp only [fk_open] at h2
    split at h2
    · cases h2
    · cases h2; exact h3
  · obtain ⟨ts, l, q⟩ := k
    cases l with
    | nil => cases h
    | cons fr fs =>
      simp only [fk_else] at h
      split at h
      · obtain ⟨b, h1, h2⟩ := fk_bi h
        obtain ⟨b1, b2, b3⟩ := b
        obtain ⟨z1, z2, z3, -⟩ := fk_just_i h1
        subst z1
        cases h2
        rw [(fk_elz_fs (D.2.2.1 f) fs.length fr.2.2.2.2.2.2.2 b1 fr fs b3).1]
        exact fk_A20_tk z3 h20
      · cases h
  · obtain ⟨ts, l, q⟩ := k
    cases l with
    | nil => cases h
    | cons fr fs =>
      cases fs with
      | nil => cases h
      | cons g gs =>
        simp only [fk_end] at h
        obtain ⟨b, h1, h2⟩ := fk_bi h
        obtain ⟨b1, b2, b3⟩ := b
        obtain ⟨z1, z2, z3, -⟩ := fk_just_i h1
        subst z1
        have h4 := fk_A20_tk z3 h20
        split at h2
        · cases h2
        · refine fk_A20_put h2 ?_
          obtain ⟨L, r1, r2, r3, r4, r5, r6⟩ := b3
          split
          · unfold fk_here
            dsimp only
            split <;> exact h4
          · exact h4
  · obtain ⟨b, h1, h2⟩ := fk_bi h
    cases h2
    exact fk_A20_die _ (fk_A20_jump h1 h20)
  · obtain ⟨b, h1, h2⟩ := fk_bi h
    obtain ⟨c, h3, h4⟩ := fk_bi h2
    split at h4
    · cases h4
    · exact fk_A20_put h4 (fk_A20_jump h3 (fk_A20_tk h1 h20))
  · obtain ⟨b, h1, h2⟩ := fk_bi h
    cases h2
    exact fk_A20_die _ (fk_A20_jump h1 h20)
  · obtain ⟨b, h1, h2⟩ := fk_bi h
    exact fk_A20_put h2 (fk_A20_row (fk_A20_pars h1 h20))
  · cases h
    exact fk_A20_die _ (fk_A20_row h20)
  · exact fk_A20_put h (fk_A20_row h20)
def fk_J (rs : Int32) (k : fk_K) : Prop := fk_bs k.1.length k.2.1 ∧ k.1.length ≤ 20 ∧ 1 ≤ k.2.1.length ∧ k.2.1.length ≤ 9 ∧ fk_Q rs k.2.1
theorem fk_bs_m : ∀ {l : List fk_F} {n m : Nat}, n ≤ m → fk_bs n l → fk_bs m l
  | [], _, _, _, _ => trivial
  | f :: r, n, m, h, hb => ⟨Nat.le_trans hb.1 h, hb.2⟩
theorem fk_fo_fx {o : Nat} {l m : List fk_F} (h : fk_fo o l m) : fk_fx l m := by
  rcases h with ⟨-, x, h⟩ | ⟨-, x, r, h1, h2, h3⟩ | ⟨-, x, y, r, h1, h2⟩ | ⟨-, x, r, h1, h2⟩ | ⟨-, h⟩
  · exact Or.inr (Or.inl ⟨x, h⟩)
  · exact Or.inr (Or.inr (Or.inr (Or.inl ⟨x, r, h1, h2, h3⟩)))
  · exact Or.inr (Or.inr (Or.inr (Or.inr ⟨x, y, r, h1, h2⟩)))
  · exact Or.inr (Or.inr (Or.inl ⟨x, r, h1, h2⟩))
  · exact Or.inl h
theorem fk_J_s {D : fk_D} {f i o : Nat} {a : Int32} {k k' : fk_K} {rs : Int32} (h : fk_do D f i o a k = .inr k') (ho : o ≤ 30) (hJ : fk_J rs k) : fk_J rs k' := by
  obtain ⟨hb, h20, h1, h9, hQ⟩ := hJ
  obtain ⟨ts, l, q⟩ := k
  cases l with
  | nil => simp at h1
  | cons fr fs =>
    obtain ⟨hfo, hab⟩ := fk_do_b h rfl hb.1 ho
    have h20' := fk_do_20 h h20
    have hQ' := fk_Q_fx hQ (fk_fo_fx hfo)
    have hl := (hab _ (Nat.le_refl _)).1
    dsimp only at hb h1 h9 hfo
    rcases hfo with ⟨ho', x, hx⟩ | ⟨-, x, r, q1, q2, q3⟩ | ⟨-, x, y, r, q1, q2⟩ | ⟨-, x, r, q1, q2⟩ | ⟨-, q1⟩
    · obtain ⟨e1, e2, -⟩ := fk_do_o h ho'
      dsimp only at e1 e2
      refine ⟨?_, h20', by rw [e1]; simp, by rw [e1]; simp at h9 e2 ⊢; omega, hQ'⟩
      rw [e1]
      exact ⟨Nat.le_refl _, hl, hb.2⟩
    · cases q1
      refine ⟨?_, h20', by rw [q3]; simp, by rw [q3]; simpa using h9, hQ'⟩
      rw [q3]
      exact ⟨hl, hb.2⟩
    · cases q1
      refine ⟨?_, h20', by rw [q2]; simp, by rw [q2]; simp at h9 ⊢; omega, hQ'⟩
      rw [q2]
      exact ⟨(hab _ hb.2.1).1, hb.2.2⟩
    · cases q1
      refine ⟨?_, h20', by rw [q2]; simp, by rw [q2]; simpa using h9, hQ'⟩
      rw [q2]
      exact ⟨hl, hb.2⟩
    · refine ⟨?_, h20', by rw [q1]; simp, by rw [q1]; exact h9, hQ'⟩
      rw [q1]
      exact ⟨hl, hb.2⟩
theorem fk_J_tr {D : fk_D} {f : Nat} {K : fk_K} (hg : fk_gd D f K) (hop : ∀ i, i < D.2.2.2.2.2.1 f → D.2.2.2.2.2.2.1 f i ≤ 30) : ∀ i, i ≤ D.2.2.2.2.2.1 f → fk_J (D.2.2.2.1 f) (fk_tr D f i)
  | 0, _ => ⟨⟨Nat.le_refl _, trivial⟩, by simp [fk_tr, fk_k0], by simp [fk_tr, fk_k0], by simp [fk_tr, fk_k0], [], _, rfl, rfl, rfl⟩
  | i + 1, h => fk_J_s (fk_stp_i (hg.1 i (by omega))).2 (hop i (by omega)) (fk_J_tr hg hop i (by omega))
def fk_sm (x y : fk_F) : Prop := y.2.1 = x.2.1 ∧ y.2.2.1 = x.2.2.1 ∧ y.2.2.2.1 = x.2.2.2.1 ∧ y.2.2.2.2.2 = x.2.2.2.2.2 ∧ (y.1 = x.1 ∨ (x.1 = 23 ∧ y.1 = 24))
theorem fk_sm_r (x : fk_F) : fk_sm x x := ⟨rfl, rfl, rfl, rfl, Or.inl rfl⟩
theorem fk_sm_t {x y z : fk_F} (h : fk_sm x y) (g : fk_sm y z) : fk_sm x z := by
  obtain ⟨a1, a2, a3, a4, a5⟩ := h
  obtain ⟨b1, b2, b3, b4, b5⟩ := g
  refine ⟨b1.trans a1, b2.trans a2, b3.trans a3, b4.trans a4, ?_⟩
  rcases b5 with b5 | ⟨b5, b6⟩
  · rcases a5 with a5 | ⟨a5, a6⟩
    · exact Or.inl (b5.trans a5)
    · exact Or.inr ⟨a5, b5.trans a6⟩
  · rcases a5 with a5 | ⟨a5, a6⟩
    · exact Or.inr ⟨a5.symm.trans b5, b6⟩
    · rw [a6] at b5; exact absurd b5 (by decide)
def fk_dp (o d : Nat) : Nat := if o = 21 ∨ o = 22 ∨ o = 23 then d + 1 else if o = 25 then d - 1 else d
theorem fk_sp {o : Nat} {pre r m : List fk_F} {x : fk_F} (h : fk_fo o (pre ++ x :: r) m) : (o = 25 ∧ pre = [] ∧ m = r) ∨ (¬ (o = 25 ∧ pre = []) ∧ ∃ pre' x', m = pre' ++ x' :: r ∧ fk_sm x x' ∧ pre'.length = fk_dp o pre.length ∧ (pre ≠ [] → x' = x) ∧ (pre = [] → o = 24 → x.1 = 23 ∧ x' = fk_ee x) ∧ (pre = [] → (o ≤ 20 ∨ o = 27 ∨ o = 29) → x' = x) ∧ (pre = [] → (o = 21 ∨ o = 22 ∨ o = 23) → x' = x)) := by
  rcases h with ⟨ho, y, rfl⟩ | ⟨rfl, y, r', h1, h2, rfl⟩ | ⟨rfl, y, z, r', h1, rfl⟩ | ⟨ho, y, r', h1, rfl⟩ | ⟨ho, rfl⟩
  · refine Or.inr ⟨by omega, y :: pre, x, rfl, fk_sm_r x, ?_, fun _ => rfl, fun _ q => by omega, fun _ _ => rfl, fun _ _ => rfl⟩
    unfold fk_dp
    rw [if_pos ho]
    rfl
  · cases pre with
    | nil =>
      cases h1
      exact Or.inr ⟨by omega, [], fk_ee x, rfl, ⟨rfl, rfl, rfl, rfl, Or.inr ⟨h2, rfl⟩⟩, rfl, fun q => absurd rfl q, fun _ _ => ⟨h2, rfl⟩, fun _ q => by omega, fun _ q => by omega⟩
    | cons p pre =>
      cases h1
      exact Or.inr ⟨by omega, fk_ee y :: pre, x, rfl, fk_sm_r x, rfl, fun _ => rfl, fun q => by simp at q, fun q => by simp at q, fun q => by simp at q⟩
  · cases pre with
    | nil => cases h1; exact Or.inl ⟨rfl, rfl, rfl⟩
    | cons p pre =>
      simp only [List.cons_append, List.cons.injEq] at h1
      obtain ⟨rfl, h1⟩ := h1
      rw [← h1]
      exact Or.inr ⟨by simp, pre, x, rfl, fk_sm_r x, rfl, fun _ => rfl, fun q => by simp at q, fun q => by simp at q, fun q => by simp at q⟩
  · cases pre with
    | nil =>
      cases h1
      refine Or.inr ⟨by omega, [], fk_dd x, rfl, ⟨rfl, rfl, rfl, rfl, Or.inl rfl⟩, ?_, fun q => absurd rfl q, fun _ q => by omega, fun _ q => by omega, fun _ q => by omega⟩
      unfold fk_dp
      rw [if_neg (by omega), if_neg (by omega)]
    | cons p pre =>
      cases h1
      refine Or.inr ⟨by omega, fk_dd y :: pre, x, rfl, fk_sm_r x, ?_, fun _ => rfl, fun q => by simp at q, fun q => by simp at q, fun q => by simp at q⟩
      unfold fk_dp
      rw [if_neg (by omega), if_neg (by omega)]
      rfl
  · refine Or.inr ⟨by omega, pre, x, rfl, fk_sm_r x, ?_, fun _ => rfl, fun _ q => by omega, fun _ _ => rfl, fun _ _ => rfl⟩
    unfold fk_dp
    rw [if_neg (by omega), if_neg (by omega)]
theorem fk_tr_fo {D : fk_D} {f : Nat} {K : fk_K} (hg : fk_gd D f K) (hop : ∀ i, i < D.2.2.2.2.2.1 f → D.2.2.2.2.2.2.1 f i ≤ 30) {i : Nat} (hi : i < D.2.2.2.2.2.1 f) : fk_fo (D.2.2.2.2.2.2.1 f i) (fk_tr D f i).2.1 (fk_tr D f (i + 1)).2.1 ∧ ∀ fr fs, (fk_tr D f i).2.1 = fr :: fs → ∀ b, b ≤ fr.2.2.1 → fk_ab b (fk_tr D f i).1 (fk_tr D f (i + 1)).1 := by
  have hJ := fk_J_tr hg hop i (by omega)
  have hd := (fk_stp_i (hg.1 i hi)).2
  cases hl : (fk_tr D f i).2.1 with
  | nil => have := hJ.2.2.1; rw [hl] at this; simp at this
  | cons fr fs =>
    have hb := hJ.1
    rw [hl] at hb
    obtain ⟨h1, h2⟩ := fk_do_b hd hl hb.1 (hop i hi)
    rw [hl] at h1
    exact ⟨h1, fun fr' fs' h => by cases h; exact h2⟩
theorem fk_bs_in : ∀ {pre : List fk_F} {x : fk_F} {r : List fk_F} {n : Nat}, fk_bs n (pre ++ x :: r) → x.2.2.1 ≤ n ∧ ∀ y l, pre ++ x :: r = y :: l → x.2.2.1 ≤ y.2.2.1
  | [], x, r, n, h => ⟨h.1, fun y l q => by cases q; exact Nat.le_refl _⟩
  | p :: pre, x, r, n, h => by
    obtain ⟨h1, h2⟩ := fk_bs_in h.2
    exact ⟨Nat.le_trans h1 h.1, fun y l q => by cases q; exact h1⟩
theorem fk_clo {D : fk_D} {f : Nat} {K : fk_K} (hg : fk_gd D f K) (hop : ∀ i, i < D.2.2.2.2.2.1 f → D.2.2.2.2.2.2.1 f i ≤ 30) : ∀ (n i : Nat) (pre : List fk_F) (x : fk_F) (r : List fk_F), i + n = D.2.2.2.2.2.1 f → (fk_tr D f i).2.1 = pre ++ x :: r → r ≠ [] →
    ∃ e y, i ≤ e ∧ e < D.2.2.2.2.2.1 f ∧ D.2.2.2.2.2.2.1 f e = 25 ∧ (fk_tr D f e).2.1 = y :: r ∧ fk_sm x y ∧ (fk_tr D f (e + 1)).2.1 = r ∧ ∀ j, i ≤ j → j ≤ e → (∃ pre' x', (fk_tr D f j).2.1 = pre' ++ x' :: r ∧ fk_sm x x' ∧ (j < e → ¬ (D.2.2.2.2.2.2.1 f j = 25 ∧ pre' = []))) ∧ fk_ab x.2.2.1 (fk_tr D f i).1 (fk_tr D f j).1
  | 0, i, pre, x, r, hi, hx, hr => by
    have hl : (fk_tr D f (D.2.2.2.2.2.1 f)).2.1.length = 1 := by
      have := hg.2
      unfold fk_fin at this
      split at this
      · assumption
      · cases this
    have : i = D.2.2.2.2.2.1 f := by omega
    rw [← this, hx] at hl
    cases r with
    | nil => exact absurd rfl hr
    | cons y r => simp at hl; omega
  | n + 1, i, pre, x, r, hi, hx, hr => by
    obtain ⟨h1, h2⟩ := fk_tr_fo hg hop (i := i) (by omega)
    have hJ := (fk_J_tr hg hop i (by omega)).1
    rw [hx] at h1 hJ
    obtain ⟨j1, j2⟩ := fk_bs_in hJ
    rcases fk_sp h1 with ⟨q1, q2, q3⟩ | ⟨q0, pre', x', q1, q2, q3, q4, q5, q6⟩
    · subst q2
      exact ⟨i, x, Nat.le_refl _, by omega, q1, hx, fk_sm_r x, q3, fun j h3 h4 => by
        have : j = i := by omega
        subst this
        exact ⟨⟨[], x, hx, fk_sm_r x, fun q => by omega⟩, fk_ab_r j1⟩⟩
    · obtain ⟨e, y, c1, c2, c3, c4, c5, c6, c7⟩ := fk_clo hg hop n (i + 1) pre' x' r (by omega) q1 hr
      refine ⟨e, y, by omega, c2, c3, c4, fk_sm_t q2 c5, c6, fun j h3 h4 => ?_⟩
      by_cases hj : j = i
      · subst hj
        exact ⟨⟨pre, x, hx, fk_sm_r x, fun _ => q0⟩, fk_ab_r j1⟩
      · obtain ⟨⟨p1, y1, d1, d2, d3⟩, d4⟩ := c7 j (by omega) h4
        refine ⟨⟨p1, y1, d1, fk_sm_t q2 d2, d3⟩, ?_⟩
        rw [q2.2.1] at d4
        cases hl : (fk_tr D f i).2.1 with
        | nil => rw [hx] at hl; simp at hl
        | cons fr fs => exact fk_ab_t (h2 fr fs hl _ (j2 fr fs (hx.symm.trans hl))) d4
def fk_ops (D : fk_D) (f i : Nat) (pre : List fk_F) (x : fk_F) (r : List fk_F) : Prop := x.2.2.2.2.2.1 < i ∧ (D.2.2.2.2.2.2.1 f x.2.2.2.2.2.1 = 21 ∨ D.2.2.2.2.2.2.1 f x.2.2.2.2.2.1 = 22 ∨ D.2.2.2.2.2.2.1 f x.2.2.2.2.2.1 = 23) ∧ (fk_tr D f x.2.2.2.2.2.1).2.1 = r ∧ x.2.1 = D.2.2.2.2.2.2.2 f x.2.2.2.2.2.1 ∧ x.2.2.2.1 = fk_lv r ∧ x.2.2.1 = (fk_tr D f (x.2.2.2.2.2.1 + 1)).1.length ∧ (x.1 = Int32.ofNat (D.2.2.2.2.2.2.1 f x.2.2.2.2.2.1) ∨ (D.2.2.2.2.2.2.1 f x.2.2.2.2.2.1 = 23 ∧ x.1 = 24)) ∧ x.2.2.2.2.2.2.1 = (fk_tr D f (x.2.2.2.2.2.1 + 1)).2.2.1 ∧ x.2.2.2.2.2.2.2 = (if D.2.2.2.2.2.2.1 f x.2.2.2.2.2.1 = 23 ∧ fk_lv r = true then Int32.ofNat (fk_tr D f x.2.2.2.2.2.1).2.2.1 else -1) ∧ ∀ j, x.2.2.2.2.2.1 < j → j ≤ i → ∃ pre' x', (fk_tr D f j).2.1 = pre' ++ x' :: r ∧ fk_sm x' x ∧ (j = x.2.2.2.2.2.1 + 1 → pre' = []) ∧ (j = i → pre' = pre) ∧ (j < i → ¬ (D.2.2.2.2.2.2.1 f j = 25 ∧ pre' = []))
theorem fk_his {D : fk_D} {f : Nat} {K : fk_K} (hg : fk_gd D f K) (hop : ∀ i, i < D.2.2.2.2.2.1 f → D.2.2.2.2.2.2.1 f i ≤ 30) : ∀ (i : Nat) (pre : List fk_F) (x : fk_F) (r : List fk_F), i ≤ D.2.2.2.2.2.1 f → (fk_tr D f i).2.1 = pre ++ x :: r → r ≠ [] → fk_ops D f i pre x r
  | 0, pre, x, r, hi, hx, hr => by
    have hx' : [((0 : Int32), D.2.2.2.1 f, 0, true, false, 0, 0, (-1 : Int32))] = pre ++ x :: r := hx
    have := congrArg List.length hx'
    cases r with
    | nil => exact absurd rfl hr
    | cons y r => simp at this; omega
  | i + 1, pre, x, r, hi, hx, hr => by
    obtain ⟨h1, -⟩ := fk_tr_fo hg hop (i := i) (by omega)
    rw [hx] at h1
    have ext : ∀ pre0 x0, (fk_tr D f i).2.1 = pre0 ++ x0 :: r → fk_sm x0 x → ¬ (D.2.2.2.2.2.2.1 f i = 25 ∧ pre0 = []) → fk_ops D f (i + 1) pre x r := by
      intro pre0 x0 h0 hs hn
      obtain ⟨a1, a2, a3, a4, a4', a5, a6, a7, a7', a8⟩ := fk_his hg hop i pre0 x0 r (by omega) h0 hr
      obtain ⟨s1, s2, s3, s4, s5⟩ := hs
      unfold fk_ops
      rw [s1, s2, s3, s4]
      refine ⟨by omega, a2, a3, a4, a4', a5, ?_, a7, a7', fun j hj1 hj2 => ?_⟩
      · rcases s5 with s5 | ⟨s5, s6⟩
        · rw [s5]; exact a6
        · rcases a6 with a6 | ⟨-, a6⟩
          · rw [s5] at a6
            refine Or.inr ⟨?_, s6⟩
            rcases a2 with a2 | a2 | a2
            · rw [a2] at a6; exact absurd a6 (by decide)
            · rw [a2] at a6; exact absurd a6 (by decide)
            · exact a2
          · rw [s5] at a6; exact absurd a6 (by decide)
      · by_cases hj : j = i + 1
        · subst hj
          exact ⟨pre, x, hx, fk_sm_r x, fun q => by omega, fun _ => rfl, fun q => by omega⟩
        · obtain ⟨p, y, b1, b2, b3, b4, b5⟩ := a8 j hj1 (by omega)
          refine ⟨p, y, b1, fk_sm_t b2 ⟨s1, s2, s3, s4, s5⟩, b3, fun q => absurd q hj, fun _ => ?_⟩
          by_cases hji : j = i
          · subst hji
            rw [b4 rfl]
            exact hn
          · exact b5 (by omega)
    rcases h1 with ⟨ho, y, h1⟩ | ⟨ho, y, r', h1, h2, h3⟩ | ⟨ho, y, z, r', h1, h2⟩ | ⟨ho, y, r', h1, h2⟩ | ⟨ho, h1⟩
    · cases pre with
      | nil =>
        simp only [List.nil_append, List.cons.injEq] at h1
        obtain ⟨rfl, h1⟩ := h1
        obtain ⟨e1, -, -, -⟩ := fk_do_o (fk_stp_i (hg.1 i (by omega))).2 ho
        rw [hx] at e1
        simp only [List.nil_append, List.cons.injEq] at e1
        obtain ⟨e1, -⟩ := e1
        subst e1
        subst h1
        refine ⟨by dsimp only; omega, ho, rfl, rfl, rfl, rfl, Or.inl rfl, rfl, rfl, fun j hj1 hj2 => ?_⟩
        dsimp only at hj1
        have : j = i + 1 := by omega
        subst this
        exact ⟨[], _, hx, fk_sm_r _, fun _ => rfl, fun _ => rfl, fun q => by omega⟩
      | cons p pre' =>
        simp only [List.cons_append, List.cons.injEq] at h1
        exact ext pre' x h1.2.symm (fk_sm_r x) (by omega)
    · cases pre with
      | nil =>
        simp only [List.nil_append, List.cons.injEq] at h3
        obtain ⟨rfl, rfl⟩ := h3
        exact ext [] y h1 ⟨rfl, rfl, rfl, rfl, Or.inr ⟨h2, rfl⟩⟩ (by omega)
      | cons p pre' =>
        simp only [List.cons_append, List.cons.injEq] at h3
        obtain ⟨-, rfl⟩ := h3
        exact ext (y :: pre') x h1 (fk_sm_r x) (by omega)
    · have h4 : (fk_tr D f i).2.1 = (y :: pre) ++ x :: r := by rw [h1, ← h2]; rfl
      exact ext (y :: pre) x h4 (fk_sm_r x) (by simp)
    · cases pre with
      | nil =>
        simp only [List.nil_append, List.cons.injEq] at h2
        obtain ⟨rfl, rfl⟩ := h2
        exact ext [] y h1 ⟨rfl, rfl, rfl, rfl, Or.inl rfl⟩ (by omega)
      | cons p pre' =>
        simp only [List.cons_append, List.cons.injEq] at h2
        obtain ⟨-, rfl⟩ := h2
        exact ext (y :: pre') x h1 (fk_sm_r x) (by omega)
    · exact ext pre x h1.symm (fk_sm_r x) (by omega)
def fk_E (nl o : Nat) (a : Int32) (tsx : List Int32) (fs : List fk_F) (q : Nat × fk_R) : Nat × fk_R :=
  match o with
  | 21 | 22 => q
  | 24 => match fs with | x :: r => (fk_elz nl r.length x.2.2.2.2.2.2.2 (tsx, fs, q)).2.2 | [] => q
  | 25 => match fs with | x :: r => (fk_all r.length (if x.1 = 23 then fk_here x.2.2.2.2.2.2.2 (tsx, fs, q) else (tsx, fs, q))).2.2 | [] => q
  | 26 => match fs.drop a.toNatClampNeg with | x :: r => (fk_jmz nl r.length 26 x (tsx, fs, q)).2.2 | [] => q
  | 27 => match fs.drop a.toNatClampNeg with | x :: r => (fk_jmz nl r.length 27 x (tsx, fs, q)).2.2 | [] => q
  | 28 => match fs.drop (fs.length - 1) with | x :: r => (fk_jmz nl r.length 26 x (tsx, fs, q)).2.2 | [] => q
  | o => (fk_row nl (Int32.ofNat o) a (tsx, fs, q)).2.2
theorem fk_jump_r {nl a : Nat} {op : Int32} {k k' : fk_K} (h : fk_jump nl op a k = .inr k') : ∃ tsx, k'.2.2 = match k.2.1.drop a with | x :: r => (fk_jmz nl r.length op x (tsx, k.2.1, k.2.2)).2.2 | [] => k.2.2 := by
  unfold fk_jump at h
  split at h
  · cases h
  · rename_i x r hd
    obtain ⟨b, h1, h2⟩ := fk_bi h
    cases h2
    have e := fk_tk_fs h1
    obtain ⟨b1, b2⟩ := b
    dsimp only at e
    subst e
    refine ⟨b1, ?_⟩
    rw [hd]
theorem fk_die_r (k : fk_K) : (fk_die k).2.2 = k.2.2 := by
  obtain ⟨ts, fs, q⟩ := k
  cases fs <;> rfl
theorem fk_do_r {D : fk_D} {f i o : Nat} {a : Int32} {k k' : fk_K} (h : fk_do D f i o a k = .inr k') (ho : o ≤ 30) : ∃ tsx, k'.2.2 = fk_E (D.2.2.1 f) o a tsx k.2.1 k.2.2 := by
  have plain : ∀ {o : Nat} (op : Int32) (l : fk_K), l.2 = k.2 → k'.2.2 = (fk_row (D.2.2.1 f) op a l).2.2 → (∀ tsx, fk_E (D.2.2.1 f) o a tsx k.2.1 k.2.2 = (fk_row (D.2.2.1 f) op a (tsx, k.2.1, k.2.2)).2.2) → ∃ tsx, k'.2.2 = fk_E (D.2.2.1 f) o a tsx k.2.1 k.2.2 := by
    intro o op l h1 h2 h3
    obtain ⟨l1, l2⟩ := l
    dsimp only at h1
    subst h1
    exact ⟨l1, by rw [h3]; exact h2⟩
  unfold fk_do at h
  dsimp only at h
  split at h
  · exact plain _ k rfl (by rw [(fk_put_i h).1]) (fun _ => rfl)
  · obtain ⟨b, h1, h2⟩ := fk_bi h; cases h2
    exact plain _ b (fk_tk_fs h1) rfl (fun _ => rfl)
  · obtain ⟨b, h1, h2⟩ := fk_bi h
    exact plain _ b (fk_tk_fs h1) (by rw [(fk_put_i h2).1]) (fun _ => rfl)
  · exact plain _ k rfl (by rw [(fk_put_i h).1]) (fun _ => rfl)
  · obtain ⟨b, h1, h2⟩ := fk_bi h; cases h2
    exact plain _ b (fk_tk_fs h1) rfl (fun _ => rfl)
  · obtain ⟨b, h1, h2⟩ := fk_bi h; cases h2
    exact plain _ b (fk_tk_fs h1) rfl (fun _ => rfl)
  · obtain ⟨b, h1, h2⟩ := fk_bi h
    obtain ⟨⟨t1, c⟩, h3, h4⟩ := fk_bi h2
    obtain ⟨⟨t2, d⟩, h5, h6⟩ := fk_bi h4
    have e1 := fk_tk_fs h1
    obtain ⟨b1, b2, b3⟩ := b
    obtain ⟨c1, c2, c3⟩ := c
    obtain ⟨d1, d2, d3⟩ := d
    obtain ⟨i1, i2, -⟩ := fk_take_i h3
    obtain ⟨j1, j2, -⟩ := fk_take_i h5
    exact plain _ (d1, d2, d3) (by dsimp only; rw [j1, j2, i1, i2]; exact e1) (by rw [(fk_put_i h6).1]) (fun _ => rfl)
  · obtain ⟨b, h1, h2⟩ := fk_bi h
    obtain ⟨c, h3, h4⟩ := fk_bi h2
    exact plain _ c ((fk_tk_fs h3).trans (fk_tk_fs h1)) (by rw [(fk_put_i h4).1]) (fun _ => rfl)
  · obtain ⟨b, h1, h2⟩ := fk_bi h
    obtain ⟨c, h3, h4⟩ := fk_bi h2
    exact plain _ c ((fk_tk_fs h3).trans (fk_tk_fs h1)) (by rw [(fk_put_i h4).1]) (fun _ => rfl)
  · obtain ⟨b, h1, h2⟩ := fk_bi h
    obtain ⟨c, h3, h4⟩ := fk_bi h2
    exact plain _ c ((fk_tk_fs h3).trans (fk_tk_fs h1)) (by rw [(fk_put_i h4).1]) (fun _ => rfl)
  · obtain ⟨b, h1, h2⟩ := fk_bi h
    obtain ⟨c, h3, h4⟩ := fk_bi h2
    exact plain _ c ((fk_tk_fs h3).trans (fk_tk_fs h1)) (by rw [(fk_put_i h4).1]) (fun _ => rfl)
  · obtain ⟨b, h1, h2⟩ := fk_bi h
    obtain ⟨c, h3, h4⟩ := fk_bi h2
    exact plain _ c ((fk_tk_fs h3).trans (fk_tk_fs h1)) (by rw [(fk_put_i h4).1]) (fun _ => rfl)
  · obtain ⟨b, h1, h2⟩ := fk_bi h
    obtain ⟨c, h3, h4⟩ := fk_bi h2
    exact plain _ c ((fk_tk_fs h3).trans (fk_tk_fs h1)) (by rw [(fk_put_i h4).1]) (fun _ => rfl)
  · obtain ⟨b, h1, h2⟩ := fk_bi h
    obtain ⟨c, h3, h4⟩ := fk_bi h2
    exact plain _ c ((fk_tk_fs h3).trans (fk_tk_fs h1)) (by rw [(fk_put_i h4).1]) (fun _ => rfl)
  · obtain ⟨b, h1, h2⟩ := fk_bi h
    obtain ⟨c, h3, h4⟩ := fk_bi h2
    exact plain _ c ((fk_tk_fs h3).trans (fk_tk_fs h1)) (by rw [(fk_put_i h4).1]) (fun _ => rfl)
  · obtain ⟨b, h1, h2⟩ := fk_bi h
    obtain ⟨c, h3, h4⟩ := fk_bi h2
    exact plain _ c ((fk_tk_fs h3).trans (fk_tk_fs h1)) (by rw [(fk_put_i h4).1]) (fun _ => rfl)
  · obtain ⟨b, h1, h2⟩ := fk_bi h
    exact plain _ b (fk_tk_fs h1) (by rw [(fk_put_i h2).1]) (fun _ => rfl)
  · obtain ⟨ts, l, L, R⟩ := k
    simp only [fk_open] at h
    split at h
    · cases h
    · cases h; exact ⟨ts, rfl⟩
  · obtain ⟨ts, l, L, R⟩ := k
    simp only [fk_open] at h
    split at h
    · cases h
    · cases h; exact ⟨ts, rfl⟩
  · obtain ⟨-, -, -, e⟩ := fk_do_o (D := D) (f := f) (i := i) (o := 23) (a := a) (k := k) (k' := k') h (by omega)
    obtain ⟨k1, e1, e2, e3⟩ := e rfl
    exact plain 23 k1 (fk_tk_fs e1) e3 (fun _ => rfl)
  · obtain ⟨ts, l, q⟩ := k
    cases l with
    | nil => cases h
    | cons fr fs =>
      simp only [fk_else] at h
      split at h
      · obtain ⟨b, h1, h2⟩ := fk_bi h
        obtain ⟨b1, b2, b3⟩ := b
        obtain ⟨z1, z2, z3, -⟩ := fk_just_i h1
        subst z1; subst z2
        cases h2
        exact ⟨b1, rfl⟩
      · cases h
  · obtain ⟨ts, l, q⟩ := k
    cases l with
    | nil => cases h
    | cons fr fs =>
      cases fs with
      | nil => cases h
      | cons g gs =>
        simp only [fk_end] at h
        obtain ⟨b, h1, h2⟩ := fk_bi h
        obtain ⟨b1, b2, b3⟩ := b
        obtain ⟨z1, z2, z3, -⟩ := fk_just_i h1
        subst z1; subst z2
        split at h2
        · cases h2
        · refine ⟨b1, ?_⟩
          rw [(fk_put_i h2).1]
          rfl
  · obtain ⟨b, h1, h2⟩ := fk_bi h
    cases h2
    rw [fk_die_r]
    exact fk_jump_r h1
  · obtain ⟨b, h1, h2⟩ := fk_bi h
    obtain ⟨c, h3, h4⟩ := fk_bi h2
    split at h4
    · cases h4
    · rw [(fk_put_i h4).1]
      obtain ⟨tsx, e⟩ := fk_jump_r h3
      rw [fk_tk_fs h1] at e
      exact ⟨tsx, e⟩
  · obtain ⟨b, h1, h2⟩ := fk_bi h
    cases h2
    rw [fk_die_r]
    exact fk_jump_r h1
  · obtain ⟨b, h1, h2⟩ := fk_bi h
    exact plain _ b (fk_pars_fs h1) (by rw [(fk_put_i h2).1]) (fun _ => rfl)
  · cases h
    exact plain (o := 30) (Int32.ofNat 30) k rfl (fk_die_r _) (fun _ => rfl)
  · refine plain (Int32.ofNat o) k rfl (by rw [(fk_put_i h).1]) (fun tsx => ?_)
    have hcase : o ≤ 3 ∨ o = 4 ∨ o = 5 ∨ o = 6 ∨ o = 7 ∨ o = 8 ∨ o = 9 ∨ o = 10 ∨ o = 11 ∨ o = 12 ∨ o = 13 ∨ o = 14 ∨ o = 15 ∨ o = 16 ∨ o = 17 ∨ o = 18 ∨ o = 19 ∨ o = 20 ∨ o = 21 ∨ o = 22 ∨ o = 23 ∨ o = 24 ∨ o = 25 ∨ o = 26 ∨ o = 27 ∨ o = 28 ∨ o = 29 ∨ o = 30 := by omega
    rcases hcase with h3 | rfl | rfl | rfl | rfl | rfl | rfl | rfl | rfl | rfl | rfl | rfl | rfl | rfl | rfl | rfl | rfl | rfl | rfl | rfl | rfl | rfl | rfl | rfl | rfl | rfl | rfl | rfl
    · have h4 : o = 0 ∨ o = 1 ∨ o = 2 ∨ o = 3 := by omega
      rcases h4 with rfl | rfl | rfl | rfl <;> rfl
    all_goals first | rfl | (exfalso; simp_all; done)
