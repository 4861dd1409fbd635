def fk_o4 (L : Nat) (R R' : fk_R) : Prop := ∀ r, r < L → R'.1 r = R.1 r ∧ R'.2.1 r = R.2.1 r ∧ R'.2.2.1 r = R.2.2.1 r ∧ R'.2.2.2.1 r = R.2.2.2.1 r
def fk_o2 (L : Nat) (R R' : fk_R) : Prop := ∀ r, r < L → R'.2.2.2.2.1 r = R.2.2.2.2.1 r ∧ R'.2.2.2.2.2 r = R.2.2.2.2.2 r
theorem fk_up_ne {α : Type} {f : Nat → α} {n m : Nat} {x : α} (h : m ≠ n) : fk_up f n x m = f m := if_neg h
theorem fk_up_eq {α : Type} {f : Nat → α} {n : Nat} {x : α} : fk_up f n x n = x := if_pos rfl
theorem fk_row_old (nl : Nat) (op a : Int32) (ts : List Int32) (fs : List fk_F) (L : Nat) (R : fk_R) : (fk_row nl op a (ts, fs, L, R)).2.2.1 = L + (if fk_lv fs = true then 1 else 0) ∧ fk_o4 L R (fk_row nl op a (ts, fs, L, R)).2.2.2 ∧ fk_o2 L R (fk_row nl op a (ts, fs, L, R)).2.2.2 := by
  obtain ⟨r1, r2, r3, r4, r5, r6⟩ := R
  unfold fk_row
  dsimp only
  split
  · refine ⟨rfl, fun r hr => ?_, fun r hr => ?_⟩
    · exact ⟨fk_up_ne (by omega), fk_up_ne (by omega), fk_up_ne (by omega), fk_up_ne (by omega)⟩
    · exact ⟨fk_up_ne (by omega), fk_up_ne (by omega)⟩
  · exact ⟨rfl, fun r hr => ⟨rfl, rfl, rfl, rfl⟩, fun r hr => ⟨rfl, rfl⟩⟩
theorem fk_w_old (s : Nat) (y : Int32) (ts : List Int32) (fs : List fk_F) (L0 L : Nat) (R : fk_R) (hs : L0 ≤ s) : (fk_o4 L0 R (fk_w10 s y (ts, fs, L, R)).2.2.2 ∧ fk_o2 L0 R (fk_w10 s y (ts, fs, L, R)).2.2.2) ∧ (fk_o4 L0 R (fk_w11 s y (ts, fs, L, R)).2.2.2 ∧ fk_o2 L0 R (fk_w11 s y (ts, fs, L, R)).2.2.2) ∧ (fk_o4 L0 R (fk_w12 s y (ts, fs, L, R)).2.2.2 ∧ fk_o2 L0 R (fk_w12 s y (ts, fs, L, R)).2.2.2) := by
  obtain ⟨r1, r2, r3, r4, r5, r6⟩ := R
  refine ⟨⟨fun r hr => ?_, fun r hr => ?_⟩, ⟨fun r hr => ?_, fun r hr => ?_⟩, ⟨fun r hr => ?_, fun r hr => ?_⟩⟩
  · exact ⟨rfl, rfl, rfl, fk_up_ne (by omega)⟩
  · exact ⟨rfl, rfl⟩
  · exact ⟨rfl, rfl, rfl, rfl⟩
  · exact ⟨fk_up_ne (by omega), rfl⟩
  · exact ⟨rfl, rfl, rfl, rfl⟩
  · exact ⟨rfl, fk_up_ne (by omega)⟩
theorem fk_o4_t {L : Nat} {R S T : fk_R} (h : fk_o4 L R S) (g : fk_o4 L S T) : fk_o4 L R T := fun r hr => ⟨(g r hr).1.trans (h r hr).1, (g r hr).2.1.trans (h r hr).2.1, (g r hr).2.2.1.trans (h r hr).2.2.1, (g r hr).2.2.2.trans (h r hr).2.2.2⟩
theorem fk_o2_t {L : Nat} {R S T : fk_R} (h : fk_o2 L R S) (g : fk_o2 L S T) : fk_o2 L R T := fun r hr => ⟨(g r hr).1.trans (h r hr).1, (g r hr).2.trans (h r hr).2⟩
theorem fk_jmz_old (nl o : Nat) (op : Int32) (x : fk_F) (ts : List Int32) (fs : List fk_F) (L : Nat) (R : fk_R) : (fk_jmz nl o op x (ts, fs, L, R)).2.2.1 = L + (if fk_lv fs = true then 1 else 0) ∧ fk_o4 L R (fk_jmz nl o op x (ts, fs, L, R)).2.2.2 ∧ fk_o2 L R (fk_jmz nl o op x (ts, fs, L, R)).2.2.2 := by
  obtain ⟨a1, a2, a3⟩ := fk_row_old nl op 0 ts fs L R
  unfold fk_jmz
  by_cases hl : fk_lv fs = true
  · rw [if_pos hl] at a1 ⊢
    rw [if_pos hl]
    generalize fk_row nl op 0 (ts, fs, L, R) = w at a1 a2 a3 ⊢
    obtain ⟨w1, w2, w3, w4⟩ := w
    obtain ⟨b1, b2, b3⟩ := fk_w_old L (Int32.ofNat (nl + x.2.2.1)) w1 w2 L w3 w4 (Nat.le_refl _)
    split
    · split
      · obtain ⟨-, c, -⟩ := fk_w_old L (Int32.ofNat x.2.2.2.2.2.2.1) w1 w2 L w3 w4 (Nat.le_refl _)
        exact ⟨a1, fk_o4_t a2 c.1, fk_o2_t a3 c.2⟩
      · obtain ⟨-, -, c⟩ := fk_w_old L (Int32.ofNat o) w1 w2 L w3 w4 (Nat.le_refl _)
        exact ⟨a1, fk_o4_t a2 c.1, fk_o2_t a3 c.2⟩
    · have e : fk_w10 L (Int32.ofNat (nl + x.2.2.1)) (w1, w2, w3, w4) = (w1, w2, w3, (fk_w10 L (Int32.ofNat (nl + x.2.2.1)) (w1, w2, w3, w4)).2.2.2) := rfl
      rw [e]
      split
      · obtain ⟨-, c, -⟩ := fk_w_old L (Int32.ofNat x.2.2.2.2.2.2.1) w1 w2 L w3 (fk_w10 L (Int32.ofNat (nl + x.2.2.1)) (w1, w2, w3, w4)).2.2.2 (Nat.le_refl _)
        exact ⟨a1, fk_o4_t (fk_o4_t a2 b1.1) c.1, fk_o2_t (fk_o2_t a3 b1.2) c.2⟩
      · obtain ⟨-, -, c⟩ := fk_w_old L (Int32.ofNat o) w1 w2 L w3 (fk_w10 L (Int32.ofNat (nl + x.2.2.1)) (w1, w2, w3, w4)).2.2.2 (Nat.le_refl _)
        exact ⟨a1, fk_o4_t (fk_o4_t a2 b1.1) c.1, fk_o2_t (fk_o2_t a3 b1.2) c.2⟩
  · rw [if_neg hl, if_neg hl]
    exact ⟨rfl, fun r hr => ⟨rfl, rfl, rfl, rfl⟩, fun r hr => ⟨rfl, rfl⟩⟩
def fk_bv (w : Int32) : Prop := w = -1 ∨ ∃ b, b < 2147483648 ∧ w = Int32.ofNat b
theorem fk_here_old (w : Int32) (hw : fk_bv w) (ts : List Int32) (fs : List fk_F) (L : Nat) (R : fk_R) : (fk_here w (ts, fs, L, R)).2.2.1 = L ∧ fk_o4 1000000 R (fk_here w (ts, fs, L, R)).2.2.2 ∧ ∀ r, r < 1000000 → (fk_here w (ts, fs, L, R)).2.2.2.2.2.2.2.2 r = R.2.2.2.2.2 r ∧ (fk_here w (ts, fs, L, R)).2.2.2.2.2.2.2.1 r = if w = Int32.ofNat r then Int32.ofNat L else R.2.2.2.2.1 r := by
  obtain ⟨r1, r2, r3, r4, r5, r6⟩ := R
  unfold fk_here
  dsimp only
  rcases hw with rfl | ⟨b, hb, rfl⟩
  · rw [if_pos rfl]
    refine ⟨rfl, fun r hr => ⟨rfl, rfl, rfl, rfl⟩, fun r hr => ⟨rfl, ?_⟩⟩
    rw [if_neg (fun q => fk_m1 (by omega) q.symm)]
  · rw [if_neg (fk_m1 hb)]
    refine ⟨rfl, fun r hr => ⟨rfl, rfl, rfl, rfl⟩, fun r hr => ⟨rfl, ?_⟩⟩
    dsimp only
    rw [fk_cl hb]
    unfold fk_up
    have := fk_ie hb (show r < 2147483648 by omega)
    by_cases h : r = b
    · rw [if_pos h, if_pos (this.mpr h.symm)]
    · rw [if_neg h, if_neg (fun q => h (this.mp q).symm)]
def fk_en (o : Nat) (x : fk_F) (l : List fk_F) (L : Nat) (R : fk_R) (q : Nat × fk_R) : Prop :=
  q.1 = L + (if fk_lv (x :: l) = true ∧ o ≠ 21 ∧ o ≠ 22 ∧ o ≠ 25 then 1 else 0) ∧ fk_o4 L R q.2 ∧ ∀ r, r < L → q.2.2.2.2.2.2 r = (if o = 25 ∧ R.2.2.2.2.2 r = Int32.ofNat l.length then -1 else R.2.2.2.2.2 r) ∧ q.2.2.2.2.2.1 r = (if o = 25 ∧ R.2.2.2.2.2 r = Int32.ofNat l.length then Int32.ofNat q.1 else if (o = 24 ∨ o = 25) ∧ x.1 = 23 ∧ x.2.2.2.2.2.2.2 = Int32.ofNat r then Int32.ofNat q.1 else R.2.2.2.2.1 r)
theorem fk_en2 {o : Nat} {x : fk_F} {l : List fk_F} {L : Nat} {R : fk_R} {q : Nat × fk_R} (h1 : o ≠ 24 ∧ o ≠ 25) (h2 : q.1 = L + (if fk_lv (x :: l) = true ∧ o ≠ 21 ∧ o ≠ 22 ∧ o ≠ 25 then 1 else 0)) (h3 : fk_o4 L R q.2) (h4 : fk_o2 L R q.2) : fk_en o x l L R q := by
  refine ⟨h2, h3, fun r hr => ⟨?_, ?_⟩⟩
  · rw [if_neg (fun z => h1.2 z.1)]; exact (h4 r hr).2
  · rw [if_neg (fun z => h1.2 z.1), if_neg (fun z => z.1.elim h1.1 h1.2)]; exact (h4 r hr).1
theorem fk_en3 {o : Nat} {x : fk_F} {l : List fk_F} {L : Nat} {R : fk_R} {q : Nat × fk_R} (h1 : o ≠ 24 ∧ o ≠ 25 ∧ o ≠ 21 ∧ o ≠ 22) (h2 : q.1 = L + (if fk_lv (x :: l) = true then 1 else 0)) (h3 : fk_o4 L R q.2) (h4 : fk_o2 L R q.2) : fk_en o x l L R q := by
  refine fk_en2 ⟨h1.1, h1.2.1⟩ ?_ h3 h4
  rw [h2]
  congr 1
  by_cases hl : fk_lv (x :: l) = true
  · rw [if_pos hl, if_pos ⟨hl, by omega, by omega, by omega⟩]
  · rw [if_neg hl, if_neg (fun z => hl z.1)]
theorem fk_E_old {nl o : Nat} {a : Int32} {tsx : List Int32} {x : fk_F} {l : List fk_F} {L : Nat} {R : fk_R} (ho : o ≤ 30) (ha : (o = 26 ∨ o = 27) → a.toNatClampNeg < l.length + 1) (hb : fk_bv x.2.2.2.2.2.2.2) (h24 : o = 24 → x.1 = 23) (hL : L ≤ 1000) : fk_en o x l L R (fk_E nl o a tsx (x :: l) (L, R)) := by
  unfold fk_E
  split
  · exact fk_en2 (by omega) (by rw [if_neg (by omega)]; rfl) (fun r hr => ⟨rfl, rfl, rfl, rfl⟩) (fun r hr => ⟨rfl, rfl⟩)
  · exact fk_en2 (by omega) (by rw [if_neg (by omega)]; rfl) (fun r hr => ⟨rfl, rfl, rfl, rfl⟩) (fun r hr => ⟨rfl, rfl⟩)
  ·
    have hx := h24 rfl
    dsimp only
    simp only [fk_elz]
    have key : ∃ w1 w3 w4, (if fk_lv (x :: l) = true then fk_w12 L (Int32.ofNat l.length) (fk_row nl 26 0 (tsx, x :: l, L, R)) else (tsx, x :: l, L, R)) = (w1, x :: l, w3, w4) ∧ w3 = L + (if fk_lv (x :: l) = true then 1 else 0) ∧ fk_o4 L R w4 ∧ fk_o2 L R w4 := by
      obtain ⟨a1, a2, a3⟩ := fk_row_old nl 26 0 tsx (x :: l) L R
      have e2 := (fk_row_fs nl 26 0 (tsx, x :: l, L, R)).2
      by_cases hl : fk_lv (x :: l) = true
      · rw [if_pos hl] at a1 ⊢
        rw [if_pos hl]
        generalize fk_row nl 26 0 (tsx, x :: l, L, R) = w at a1 a2 a3 e2 ⊢
        obtain ⟨w1, w2, w3, w4⟩ := w
        dsimp only at e2
        subst e2
        obtain ⟨-, -, b3⟩ := fk_w_old L (Int32.ofNat l.length) w1 (x :: l) L w3 w4 (Nat.le_refl _)
        exact ⟨w1, w3, _, rfl, a1, fk_o4_t a2 b3.1, fk_o2_t a3 b3.2⟩
      · rw [if_neg hl, if_neg hl]
        exact ⟨tsx, L, R, rfl, rfl, fun r hr => ⟨rfl, rfl, rfl, rfl⟩, fun r hr => ⟨rfl, rfl⟩⟩
    obtain ⟨w1, w3, w4, k1, k2, k3, k4⟩ := key
    rw [k1]
    obtain ⟨c1, c2, c3⟩ := fk_here_old x.2.2.2.2.2.2.2 hb w1 (x :: l) w3 w4
    have ekd : ∀ y : fk_K, (fk_kdx 24 false y).2.2 = y.2.2 := by
      intro y
      obtain ⟨y1, y2, y3⟩ := y
      cases y2 <;> rfl
    rw [ekd]
    refine ⟨?_, fk_o4_t k3 (fun r hr => c2 r (by omega)), fun r hr => ?_⟩
    · rw [c1, k2]
      congr 1
      by_cases hl : fk_lv (x :: l) = true
      · rw [if_pos hl, if_pos ⟨hl, by omega, by omega, by omega⟩]
      · rw [if_neg hl, if_neg (fun z => hl z.1)]
    · obtain ⟨d1, d2⟩ := c3 r (by omega)
      obtain ⟨g1, g2⟩ := k4 r hr
      rw [if_neg (by omega), if_neg (by omega), d1, d2, g1, g2, c1]
      refine ⟨rfl, ?_⟩
      by_cases hr' : x.2.2.2.2.2.2.2 = Int32.ofNat r
      · rw [if_pos hr', if_pos ⟨Or.inl rfl, hx, hr'⟩]
      · rw [if_neg hr', if_neg (fun z => hr' z.2.2)]
  ·
    dsimp only
    by_cases h23 : x.1 = 23
    · rw [if_pos h23]
      obtain ⟨c1, c2, c3⟩ := fk_here_old x.2.2.2.2.2.2.2 hb tsx (x :: l) L R
      generalize fk_here x.2.2.2.2.2.2.2 (tsx, x :: l, L, R) = w at c1 c2 c3 ⊢
      obtain ⟨w1, w2, w3, v1, v2, v3, v4, v5, v6⟩ := w
      dsimp only at c1 c2 c3
      subst c1
      simp only [fk_all]
      refine ⟨by rw [if_neg (by omega)]; rfl, fun r hr => c2 r (by omega), fun r hr => ?_⟩
      obtain ⟨d1, d2⟩ := c3 r (by omega)
      dsimp only
      rw [d1, d2]
      by_cases hr' : R.2.2.2.2.2 r = Int32.ofNat l.length
      · simp [hr, hr']
      · by_cases hb' : x.2.2.2.2.2.2.2 = Int32.ofNat r
        · simp [hr, hr', hb', h23]
        · simp [hr, hr', hb', h23]
    · rw [if_neg h23]
      obtain ⟨v1, v2, v3, v4, v5, v6⟩ := R
      simp only [fk_all]
      refine ⟨by rw [if_neg (by omega)]; rfl, fun r hr => ⟨rfl, rfl, rfl, rfl⟩, fun r hr => ?_⟩
      dsimp only
      by_cases hr' : v6 r = Int32.ofNat l.length
      · simp [hr, hr']
      · simp [hr, hr', h23]
  · have hal := ha (by omega)
    split
    · rename_i y m hd
      obtain ⟨a1, a2, a3⟩ := fk_jmz_old nl m.length 26 y tsx (x :: l) L R
      exact fk_en3 (by omega) a1 a2 a3
    · rename_i hd
      have := congrArg List.length hd
      simp at this; omega
  · have hal := ha (by omega)
    split
    · rename_i y m hd
      obtain ⟨a1, a2, a3⟩ := fk_jmz_old nl m.length 27 y tsx (x :: l) L R
      exact fk_en3 (by omega) a1 a2 a3
    · rename_i hd
      have := congrArg List.length hd
      simp at this; omega
  · split
    · rename_i y m hd
      obtain ⟨a1, a2, a3⟩ := fk_jmz_old nl m.length 26 y tsx (x :: l) L R
      exact fk_en3 (by omega) a1 a2 a3
    · rename_i hd
      have := congrArg List.length hd
      simp at this
  · obtain ⟨a1, a2, a3⟩ := fk_row_old nl (Int32.ofNat o) a tsx (x :: l) L R
    refine fk_en3 ?_ a1 a2 a3
    have hcase : o ≤ 20 ∨ o = 23 ∨ o = 29 ∨ o = 30 ∨ o = 21 ∨ o = 22 ∨ o = 24 ∨ o = 25 ∨ o = 26 ∨ o = 27 ∨ o = 28 := by omega
    rcases hcase with h3 | h3 | h3 | h3 | rfl | rfl | rfl | rfl | rfl | rfl | rfl
    · omega
    · omega
    · omega
    · omega
    all_goals (exfalso; simp_all; done)
def fk_G (k : fk_K) : Prop := ∀ x ∈ k.2.1, x.2.2.2.2.2.2.2 = -1 ∨ ∃ b, b < k.2.2.1 ∧ x.2.2.2.2.2.2.2 = Int32.ofNat b ∧ k.2.2.2.1 b = 23
theorem fk_G_bv {k : fk_K} (h : fk_G k) (hL : k.2.2.1 ≤ 1000) {x : fk_F} (hx : x ∈ k.2.1) : fk_bv x.2.2.2.2.2.2.2 := by
  rcases h x hx with h | ⟨b, h1, h2, -⟩
  · exact Or.inl h
  · exact Or.inr ⟨b, by omega, h2⟩
theorem fk_st_en {D : fk_D} {f i : Nat} {a : Int32} {o : Nat} {k k' : fk_K} {x : fk_F} {l : List fk_F} (h : fk_stp D f i o a k = .inr k') (ho : o ≤ 30) (hfo : fk_fo o k.2.1 k'.2.1) (hl : k.2.1 = x :: l) (hG : fk_G k) (hL : k.2.2.1 ≤ 1000) : fk_en o x l k.2.2.1 k.2.2.2 k'.2.2 := by
  obtain ⟨hok, hd⟩ := fk_stp_i h
  obtain ⟨tsx, e⟩ := fk_do_r hd ho
  rw [e, hl]
  refine fk_E_old ho ?_ (fk_G_bv hG hL (by rw [hl]; exact List.mem_cons_self)) ?_ hL
  · intro hq
    rw [hl] at hok
    rcases hq with rfl | rfl
    · exact (fk_wbi (show fk_wb a (l.length + 1) = true from hok)).2
    · exact (fk_wbi (show fk_wb a (l.length + 1) = true from hok)).2
  · intro hq
    subst hq
    rcases hfo with ⟨q, -⟩ | ⟨-, y, r, h1, h2, -⟩ | ⟨q, -⟩ | ⟨q, -⟩ | ⟨q, -⟩
    · omega
    · rw [hl] at h1; cases h1; exact h2
    · omega
    · omega
    · omega
theorem fk_G_s {D : fk_D} {f i : Nat} {a : Int32} {o : Nat} {k k' : fk_K} {x : fk_F} {l : List fk_F} (h : fk_stp D f i o a k = .inr k') (ho : o ≤ 30) (hfo : fk_fo o k.2.1 k'.2.1) (hl : k.2.1 = x :: l) (hG : fk_G k) (hL : k.2.2.1 ≤ 1000) : fk_G k' := by
  obtain ⟨e1, e2, -⟩ := fk_st_en h ho hfo hl hG hL
  have hle : k.2.2.1 ≤ k'.2.2.1 := by rw [e1]; omega
  have old : ∀ y : fk_F, y ∈ k.2.1 → y.2.2.2.2.2.2.2 = -1 ∨ ∃ b, b < k'.2.2.1 ∧ y.2.2.2.2.2.2.2 = Int32.ofNat b ∧ k'.2.2.2.1 b = 23 := by
    intro y hy
    rcases hG y hy with h | ⟨b, h1, h2, h3⟩
    · exact Or.inl h
    · exact Or.inr ⟨b, by omega, h2, ((e2 b h1).1).trans h3⟩
  intro y hy
  rcases id hfo with ⟨ho', z, hz⟩ | ⟨-, z, r, h1, h2, h3⟩ | ⟨-, z, w, r, h1, h2⟩ | ⟨-, z, r, h1, h2⟩ | ⟨-, h1⟩
  · obtain ⟨hok, hd⟩ := fk_stp_i h
    obtain ⟨q1, -, -, q4⟩ := fk_do_o hd ho'
    rw [q1] at hy
    rcases List.mem_cons.mp hy with hy | hy
    · subst hy
      dsimp only
      by_cases hc : o = 23 ∧ fk_lv k.2.1 = true
      · rw [if_pos hc]
        obtain ⟨k1, r1, r2, r3⟩ := q4 hc.1
        refine Or.inr ⟨k.2.2.1, ?_, rfl, ?_⟩
        · rw [e1, if_pos ⟨by rw [← hl]; exact hc.2, by omega, by omega, by omega⟩]; omega
        · rw [r3]
          have e := fk_tk_fs r1
          obtain ⟨t1, t2, t3, u1, u2, u3, u4, u5, u6⟩ := k1
          simp only at e
          have e' : k.2 = (t2, t3, u1, u2, u3, u4, u5, u6) := e.symm
          have hlv : fk_lv t2 = true := by rw [e'] at hc; exact hc.2
          rw [e']
          simp only [fk_row, hlv, if_true]
          exact fk_up_eq
      · rw [if_neg hc]; exact Or.inl rfl
    · exact old y hy
  · rw [h3] at hy
    rcases List.mem_cons.mp hy with hy | hy
    · subst hy
      exact old z (by rw [h1]; exact List.mem_cons_self)
    · exact old y (by rw [h1]; exact List.mem_cons_of_mem _ hy)
  · rw [h2] at hy
    exact old y (by rw [h1]; exact List.mem_cons_of_mem _ hy)
  · rw [h2] at hy
    rcases List.mem_cons.mp hy with hy | hy
    · subst hy
      exact old z (by rw [h1]; exact List.mem_cons_self)
    · exact old y (by rw [h1]; exact List.mem_cons_of_mem _ hy)
  · rw [h1] at hy
    exact old y hy
theorem fk_G_tr {D : fk_D} {f : Nat} {K : fk_K} (hg : fk_gd D f K) (hop : ∀ i, i < D.2.2.2.2.2.1 f → D.2.2.2.2.2.2.1 f i ≤ 30) (h40 : D.2.2.2.2.2.1 f ≤ 40) : ∀ i, i ≤ D.2.2.2.2.2.1 f → fk_G (fk_tr D f i) ∧ (fk_tr D f i).2.2.1 ≤ i
  | 0, _ => ⟨fun x hx => by
      have hx' : x ∈ [((0 : Int32), D.2.2.2.1 f, 0, true, false, 0, 0, (-1 : Int32))] := hx
      simp at hx'
      rw [hx']
      exact Or.inl rfl, Nat.le_refl _⟩
  | i + 1, h => by
    obtain ⟨h1, h2⟩ := fk_G_tr hg hop h40 i (by omega)
    have hfo := (fk_tr_fo hg hop (i := i) (by omega)).1
    have hJ := fk_J_tr hg hop i (by omega)
    cases hl : (fk_tr D f i).2.1 with
    | nil => have := hJ.2.2.1; rw [hl] at this; simp at this
    | cons x l =>
      refine ⟨fk_G_s (hg.1 i (by omega)) (hop i (by omega)) hfo hl h1 (by omega), ?_⟩
      rw [(fk_st_en (hg.1 i (by omega)) (hop i (by omega)) hfo hl h1 (by omega)).1]
      split <;> omega
theorem fk_tr_en {D : fk_D} {f : Nat} {K : fk_K} (hg : fk_gd D f K) (hop : ∀ i, i < D.2.2.2.2.2.1 f → D.2.2.2.2.2.2.1 f i ≤ 30) (h40 : D.2.2.2.2.2.1 f ≤ 40) {i : Nat} (hi : i < D.2.2.2.2.2.1 f) {x : fk_F} {l : List fk_F} (hl : (fk_tr D f i).2.1 = x :: l) : fk_en (D.2.2.2.2.2.2.1 f i) x l (fk_tr D f i).2.2.1 (fk_tr D f i).2.2.2 (fk_tr D f (i + 1)).2.2 := by
  obtain ⟨h1, h2⟩ := fk_G_tr hg hop h40 i (by omega)
  exact fk_st_en (hg.1 i hi) (hop i hi) (fk_tr_fo hg hop hi).1 hl h1 (by omega)
def fk_N (p : Nat) (l : List fk_F) : Prop := ∀ y ∈ l, y.1 = 23 → y.2.2.2.2.2.2.2 ≠ Int32.ofNat p
theorem fk_N_s {D : fk_D} {f : Nat} {K : fk_K} (hg : fk_gd D f K) (hop : ∀ i, i < D.2.2.2.2.2.1 f → D.2.2.2.2.2.2.1 f i ≤ 30) (h40 : D.2.2.2.2.2.1 f ≤ 40) {i p : Nat} (hi : i < D.2.2.2.2.2.1 f) (hp : p < (fk_tr D f i).2.2.1) (hN : fk_N p (fk_tr D f i).2.1) : fk_N p (fk_tr D f (i + 1)).2.1 := by
  obtain ⟨hG, hL⟩ := fk_G_tr hg hop h40 i (by omega)
  have hfo := (fk_tr_fo hg hop hi).1
  intro y hy h23
  rcases hfo with ⟨ho', z, hz⟩ | ⟨-, z, r, h1, h2, h3⟩ | ⟨-, z, w, r, h1, h2⟩ | ⟨-, z, r, h1, h2⟩ | ⟨-, h1⟩
  · obtain ⟨q1, -⟩ := fk_do_o (fk_stp_i (hg.1 i hi)).2 ho'
    rw [q1] at hy
    rcases List.mem_cons.mp hy with hy | hy
    · subst hy
      dsimp only
      split
      · exact fun q => absurd ((fk_ie (by omega) (by omega)).mp q) (by omega)
      · exact fun q => fk_m1 (n := p) (by omega) q.symm
    · exact hN y hy h23
  · rw [h3] at hy
    rcases List.mem_cons.mp hy with hy | hy
    · subst hy
      exact absurd h23 (show ¬ (24 : Int32) = 23 by decide)
    · exact hN y (by rw [h1]; exact List.mem_cons_of_mem _ hy) h23
  · rw [h2] at hy
    exact hN y (by rw [h1]; exact List.mem_cons_of_mem _ hy) h23
  · rw [h2] at hy
    rcases List.mem_cons.mp hy with hy | hy
    · subst hy
      exact hN z (by rw [h1]; exact List.mem_cons_self) h23
    · exact hN y (by rw [h1]; exact List.mem_cons_of_mem _ hy) h23
  · rw [h1] at hy
    exact hN y hy h23
theorem fk_stay {D : fk_D} {f : Nat} {K : fk_K} (hg : fk_gd D f K) (hop : ∀ i, i < D.2.2.2.2.2.1 f → D.2.2.2.2.2.2.1 f i ≤ 30) (h40 : D.2.2.2.2.2.1 f ≤ 40) {i p : Nat} (hp : p < (fk_tr D f i).2.2.1) : ∀ n, i + n ≤ D.2.2.2.2.2.1 f →
    (fk_tr D f i).2.2.1 ≤ (fk_tr D f (i + n)).2.2.1 ∧ (fk_tr D f (i + n)).2.2.2.1 p = (fk_tr D f i).2.2.2.1 p ∧ (fk_tr D f (i + n)).2.2.2.2.1 p = (fk_tr D f i).2.2.2.2.1 p ∧ (fk_tr D f (i + n)).2.2.2.2.2.1 p = (fk_tr D f i).2.2.2.2.2.1 p ∧ (fk_tr D f (i + n)).2.2.2.2.2.2.1 p = (fk_tr D f i).2.2.2.2.2.2.1 p ∧ (fk_N p (fk_tr D f i).2.1 → (fk_tr D f i).2.2.2.2.2.2.2.2 p = -1 → fk_N p (fk_tr D f (i + n)).2.1 ∧ (fk_tr D f (i + n)).2.2.2.2.2.2.2.2 p = -1 ∧ (fk_tr D f (i + n)).2.2.2.2.2.2.2.1 p = (fk_tr D f i).2.2.2.2.2.2.2.1 p)
  | 0, _ => ⟨Nat.le_refl _, rfl, rfl, rfl, rfl, fun a b => ⟨a, b, rfl⟩⟩
  | n + 1, h => by
    obtain ⟨h1, h2, h3, h4, h5, h6⟩ := fk_stay hg hop h40 hp n (by omega)
    have hJ := fk_J_tr hg hop (i + n) (by omega)
    have hL := (fk_G_tr hg hop h40 (i + n) (by omega)).2
    cases hl : (fk_tr D f (i + n)).2.1 with
    | nil => have := hJ.2.2.1; rw [hl] at this; simp at this
    | cons x l =>
      have hl9 := hJ.2.2.2.1
      rw [hl] at hl9
      obtain ⟨e1, e2, e3⟩ := fk_tr_en hg hop h40 (i := i + n) (by omega) hl
      have hpn : p < (fk_tr D f (i + n)).2.2.1 := by omega
      obtain ⟨b1, b2, b3, b4⟩ := e2 p hpn
      obtain ⟨c1, c2⟩ := e3 p hpn
      have ea : i + (n + 1) = i + n + 1 := by omega
      rw [ea]
      refine ⟨by rw [e1]; omega, b1.trans h2, b2.trans h3, b3.trans h4, b4.trans h5, fun hN hw => ?_⟩
      obtain ⟨g1, g2, g3⟩ := h6 hN hw
      have hne : ¬ (-1 : Int32) = Int32.ofNat l.length := fun q => fk_m1 (n := l.length) (by simp at hl9; omega) q.symm
      refine ⟨fk_N_s hg hop h40 (by omega) hpn g1, ?_, ?_⟩
      · rw [c1, g2, if_neg (fun z => hne z.2)]
      · rw [c2, g2, if_neg (fun z => hne z.2), if_neg]
        · exact g3
        · rintro ⟨-, q1, q2⟩
          exact g1 x (by rw [hl]; exact List.mem_cons_self) q1 q2
theorem fk_fin_r {D : fk_D} {f : Nat} {K : fk_K} (hg : fk_gd D f K) : K.2.2.1 = (fk_tr D f (D.2.2.2.2.2.1 f)).2.2.1 ∧ ∀ p, K.2.2.2.1 p = (fk_tr D f (D.2.2.2.2.2.1 f)).2.2.2.1 p ∧ K.2.2.2.2.1 p = (fk_tr D f (D.2.2.2.2.2.1 f)).2.2.2.2.1 p ∧ K.2.2.2.2.2.1 p = (fk_tr D f (D.2.2.2.2.2.1 f)).2.2.2.2.2.1 p ∧ K.2.2.2.2.2.2.1 p = (fk_tr D f (D.2.2.2.2.2.1 f)).2.2.2.2.2.2.1 p ∧ K.2.2.2.2.2.2.2.1 p = (if p < (fk_tr D f (D.2.2.2.2.2.1 f)).2.2.1 ∧ (fk_tr D f (D.2.2.2.2.2.1 f)).2.2.2.2.2.2.2.2 p = 0 then Int32.ofNat (fk_tr D f (D.2.2.2.2.2.1 f)).2.2.1 else (fk_tr D f (D.2.2.2.2.2.1 f)).2.2.2.2.2.2.2.1 p) := by
  have h := hg.2
  unfold fk_fin at h
  split at h
  · obtain ⟨b, h1, h2⟩ := fk_bi h
    cases h2
    generalize fk_tr D f (D.2.2.2.2.2.1 f) = k at h1 ⊢
    obtain ⟨ts, fs, L, r1, r2, r3, r4, r5, r6⟩ := k
    cases fs with
    | nil => cases h1
    | cons x l =>
      obtain ⟨b1, b2, b3⟩ := b
      obtain ⟨z1, z2, -⟩ := fk_just_i h1
      subst z1; subst z2
      exact ⟨rfl, fun p => ⟨rfl, rfl, rfl, rfl, rfl⟩⟩
  · cases h
theorem fk_tgJ {D : fk_D} {f : Nat} {K : fk_K} (hg : fk_gd D f K) (hop : ∀ i, i < D.2.2.2.2.2.1 f → D.2.2.2.2.2.2.1 f i ≤ 30) (h40 : D.2.2.2.2.2.1 f ≤ 40) {e p : Nat} {r : List fk_F} (he : e < D.2.2.2.2.2.1 f) (h25 : D.2.2.2.2.2.2.1 f e = 25) (hr : r ≠ []) (hy : ∃ y, (fk_tr D f e).2.1 = y :: r) : ∀ n i, i + n = e → p < (fk_tr D f i).2.2.1 → (fk_tr D f i).2.2.2.2.2.2.2.2 p = Int32.ofNat r.length → (fk_tr D f i).2.2.2.1 p ≠ 23 → (∀ j, i ≤ j → j ≤ e → ∃ pre x, (fk_tr D f j).2.1 = pre ++ x :: r ∧ (j < e → ¬ (D.2.2.2.2.2.2.1 f j = 25 ∧ pre = []))) →
    K.2.2.2.2.2.2.2.1 p = Int32.ofNat (fk_tr D f (e + 1)).2.2.1
  | 0, i, hi, hp, hw, h23, hj => by
    have : i = e := by omega
    subst this
    obtain ⟨y, hy⟩ := hy
    obtain ⟨e1, e2, e3⟩ := fk_tr_en hg hop h40 he hy
    obtain ⟨c1, c2⟩ := e3 p hp
    rw [h25] at c1 c2
    rw [if_pos ⟨rfl, hw⟩] at c1 c2
    have hp' : p < (fk_tr D f (i + 1)).2.2.1 := by rw [e1]; omega
    have h23' : (fk_tr D f (i + 1)).2.2.2.1 p ≠ 23 := by rw [(e2 p hp).1]; exact h23
    have hN : fk_N p (fk_tr D f (i + 1)).2.1 := by
      intro z hz _ hq
      obtain ⟨hG, hL⟩ := fk_G_tr hg hop h40 (i + 1) (by omega)
      rcases hG z hz with h | ⟨b, h1, h2, h3⟩
      · rw [hq] at h; exact fk_m1 (by omega) h
      · have := (fk_ie (by omega) (by omega)).mp (hq.symm.trans h2)
        subst this
        exact h23' h3
    obtain ⟨k, hk⟩ : ∃ k, D.2.2.2.2.2.1 f = i + 1 + k := ⟨D.2.2.2.2.2.1 f - (i + 1), by omega⟩
    obtain ⟨s1, -, -, -, -, s6⟩ := fk_stay hg hop h40 hp' k (by omega)
    obtain ⟨t1, t2, t3⟩ := s6 hN c1
    obtain ⟨-, f2⟩ := fk_fin_r hg
    obtain ⟨-, -, -, -, f3⟩ := f2 p
    rw [f3, hk, t2, if_neg (fun z => absurd z.2 (by decide)), t3, c2]
  | n + 1, i, hi, hp, hw, h23, hj => by
    obtain ⟨pre, x, hx, hn⟩ := hj i (Nat.le_refl _) (by omega)
    have hJ := fk_J_tr hg hop i (by omega)
    cases hl : (fk_tr D f i).2.1 with
    | nil => have := hJ.2.2.1; rw [hl] at this; simp at this
    | cons y l =>
      obtain ⟨e1, e2, e3⟩ := fk_tr_en hg hop h40 (i := i) (by omega) hl
      obtain ⟨c1, -⟩ := e3 p hp
      have hlen : y :: l = pre ++ x :: r := hl.symm.trans hx
      have h9 := hJ.2.2.2.1
      rw [hl] at h9
      have hll : D.2.2.2.2.2.2.1 f i = 25 → l.length ≠ r.length := by
        intro h25'
        have hpre := hn (by omega)
        cases pre with
        | nil => exact absurd ⟨h25', rfl⟩ hpre
        | cons q pre =>
          have := congrArg List.length hlen
          simp at this
          omega
      rw [hw, if_neg (fun z => hll z.1 ((fk_ie (by
        have := congrArg List.length hlen
        simp at this h9; omega) (by simp at h9; omega)).mp z.2).symm)] at c1
      exact fk_tgJ hg hop h40 he h25 hr hy n (i + 1) (by omega) (by rw [e1]; omega) c1 (by rw [(e2 p hp).1]; exact h23) (fun j h1 h2 => hj j (by omega) h2)
theorem fk_tg0 {D : fk_D} {f : Nat} {K : fk_K} (hg : fk_gd D f K) (hop : ∀ i, i < D.2.2.2.2.2.1 f → D.2.2.2.2.2.2.1 f i ≤ 30) (h40 : D.2.2.2.2.2.1 f ≤ 40) {p : Nat} : ∀ n i, i + n = D.2.2.2.2.2.1 f → p < (fk_tr D f i).2.2.1 → (fk_tr D f i).2.2.2.2.2.2.2.2 p = 0 → K.2.2.2.2.2.2.2.1 p = Int32.ofNat (fk_tr D f (D.2.2.2.2.2.1 f)).2.2.1
  | 0, i, hi, hp, hw => by
    have : i = D.2.2.2.2.2.1 f := by omega
    subst this
    obtain ⟨-, f2⟩ := fk_fin_r hg
    obtain ⟨-, -, -, -, f3⟩ := f2 p
    rw [f3, if_pos ⟨hp, hw⟩]
  | n + 1, i, hi, hp, hw => by
    have hJ := fk_J_tr hg hop i (by omega)
    have hfo := (fk_tr_fo hg hop (i := i) (by omega)).1
    cases hl : (fk_tr D f i).2.1 with
    | nil => have := hJ.2.2.1; rw [hl] at this; simp at this
    | cons y l =>
      obtain ⟨e1, e2, e3⟩ := fk_tr_en hg hop h40 (i := i) (by omega) hl
      obtain ⟨c1, -⟩ := e3 p hp
      have h9 := hJ.2.2.2.1
      rw [hl] at h9
      rw [hw, if_neg] at c1
      · exact fk_tg0 hg hop h40 n (i + 1) (by omega) (by rw [e1]; omega) c1
      · rintro ⟨z1, z2⟩
        have : l.length = 0 := ((fk_ie (a := 0) (by omega) (by simp at h9; omega)).mp z2).symm
        rw [hl] at hfo
        rcases hfo with ⟨q, -⟩ | ⟨q, -⟩ | ⟨-, u, v, w, h1, -⟩ | ⟨q, -⟩ | ⟨q, -⟩
        · omega
        · omega
        · cases h1; simp at this
        · omega
        · omega
theorem fk_tgI {D : fk_D} {f : Nat} {K : fk_K} (hg : fk_gd D f K) (hop : ∀ i, i < D.2.2.2.2.2.1 f → D.2.2.2.2.2.2.1 f i ≤ 30) (h40 : D.2.2.2.2.2.1 f ≤ 40) {e p : Nat} {r : List fk_F} (he : e < D.2.2.2.2.2.1 f) (h25 : D.2.2.2.2.2.2.1 f e = 24 ∨ D.2.2.2.2.2.2.1 f e = 25) (hy : ∃ y, (fk_tr D f e).2.1 = y :: r) : ∀ n i, i + n = e → p < (fk_tr D f i).2.2.1 → (fk_tr D f i).2.2.2.2.2.2.2.2 p = -1 → (∃ pre x, (fk_tr D f i).2.1 = pre ++ x :: r ∧ x.1 = 23 ∧ x.2.2.2.2.2.2.2 = Int32.ofNat p ∧ fk_N p pre ∧ fk_N p r) → (∀ j, i ≤ j → j < e → ∀ pre x, (fk_tr D f j).2.1 = pre ++ x :: r → ¬ ((D.2.2.2.2.2.2.1 f j = 24 ∨ D.2.2.2.2.2.2.1 f j = 25) ∧ pre = [])) →
    K.2.2.2.2.2.2.2.1 p = Int32.ofNat (fk_tr D f (e + 1)).2.2.1
  | 0, i, hi, hp, hw, ⟨pre, x, hx, h23, hbr, hN1, hN2⟩, hj => by
    have : i = e := by omega
    subst this
    obtain ⟨y, hy⟩ := hy
    have hpre : pre = [] ∧ x = y := by
      have h1 : y :: r = pre ++ x :: r := hy.symm.trans hx
      have h2 := congrArg List.length h1
      simp at h2
      subst h2
      cases h1
      exact ⟨rfl, rfl⟩
    obtain ⟨rfl, rfl⟩ := hpre
    obtain ⟨e1, e2, e3⟩ := fk_tr_en hg hop h40 he hy
    obtain ⟨c1, c2⟩ := e3 p hp
    have h9 := (fk_J_tr hg hop i (by omega)).2.2.2.1
    rw [hy] at h9
    have hne : ¬ (-1 : Int32) = Int32.ofNat r.length := fun q => fk_m1 (n := r.length) (by simp at h9; omega) q.symm
    rw [hw, if_neg (fun z => hne z.2)] at c1 c2
    rw [if_pos ⟨h25, h23, hbr⟩] at c2
    have hp' : p < (fk_tr D f (i + 1)).2.2.1 := by rw [e1]; omega
    have hfo := (fk_tr_fo hg hop (i := i) he).1
    rw [hy] at hfo
    have hN : fk_N p (fk_tr D f (i + 1)).2.1 := by
      rcases hfo with ⟨q, -⟩ | ⟨-, u, v, h1, -, h2⟩ | ⟨-, u, v, w, h1, h2⟩ | ⟨q, -⟩ | ⟨q, -⟩
      · omega
      · cases h1
        rw [h2]
        intro z hz hz23
        rcases List.mem_cons.mp hz with hz | hz
        · subst hz; exact absurd hz23 (show ¬ (24 : Int32) = 23 by decide)
        · exact hN2 z hz hz23
      · cases h1
        rw [h2]
        exact hN2
      · omega
      · omega
    obtain ⟨k, hk⟩ : ∃ k, D.2.2.2.2.2.1 f = i + 1 + k := ⟨D.2.2.2.2.2.1 f - (i + 1), by omega⟩
    obtain ⟨s1, -, -, -, -, s6⟩ := fk_stay hg hop h40 hp' k (by omega)
    obtain ⟨t1, t2, t3⟩ := s6 hN c1
    obtain ⟨-, f2⟩ := fk_fin_r hg
    obtain ⟨-, -, -, -, f3⟩ := f2 p
    rw [f3, hk, t2, if_neg (fun z => absurd z.2 (by decide)), t3, c2]
  | n + 1, i, hi, hp, hw, ⟨pre, x, hx, h23, hbr, hN1, hN2⟩, hj => by
    have hq := hj i (Nat.le_refl _) (by omega) pre x hx
    have hJ := fk_J_tr hg hop i (by omega)
    obtain ⟨hG, hL⟩ := fk_G_tr hg hop h40 i (by omega)
    cases hl : (fk_tr D f i).2.1 with
    | nil => have := hJ.2.2.1; rw [hl] at this; simp at this
    | cons y l =>
      obtain ⟨e1, e2, e3⟩ := fk_tr_en hg hop h40 (i := i) (by omega) hl
      obtain ⟨c1, -⟩ := e3 p hp
      have h9 := hJ.2.2.2.1
      rw [hl] at h9
      have hne : ¬ (-1 : Int32) = Int32.ofNat l.length := fun q => fk_m1 (n := l.length) (by simp at h9; omega) q.symm
      rw [hw, if_neg (fun z => hne z.2)] at c1
      refine fk_tgI hg hop h40 he h25 hy n (i + 1) (by omega) (by rw [e1]; omega) c1 ?_ (fun j h1 h2 => hj j (by omega) h2)
      have hfo := (fk_tr_fo hg hop (i := i) (by omega)).1
      rw [hx] at hfo
      rcases hfo with ⟨ho, z, h1⟩ | ⟨ho, z, r', h1, h2, h3⟩ | ⟨ho, z, w, r', h1, h2⟩ | ⟨ho, z, r', h1, h2⟩ | ⟨ho, h1⟩
      · refine ⟨z :: pre, x, h1, h23, hbr, ?_, hN2⟩
        intro u hu hu23
        rcases List.mem_cons.mp hu with hu | hu
        · subst hu
          obtain ⟨q1, -⟩ := fk_do_o (fk_stp_i (hg.1 i (by omega))).2 ho
          rw [h1] at q1
          simp only [List.cons.injEq] at q1
          rw [q1.1]
          dsimp only
          split
          · exact fun q => absurd ((fk_ie (by omega) (by omega)).mp q) (by omega)
          · exact fun q => fk_m1 (n := p) (by omega) q.symm
        · exact hN1 u hu hu23
      · cases pre with
        | nil => exact absurd ⟨Or.inl ho, rfl⟩ hq
        | cons q pre =>
          simp only [List.cons_append, List.cons.injEq] at h1
          obtain ⟨rfl, rfl⟩ := h1
          refine ⟨fk_ee q :: pre, x, h3, h23, hbr, ?_, hN2⟩
          intro u hu hu23
          rcases List.mem_cons.mp hu with hu | hu
          · subst hu; exact absurd hu23 (show ¬ (24 : Int32) = 23 by decide)
          · exact hN1 u (List.mem_cons_of_mem _ hu) hu23
      · cases pre with
        | nil => exact absurd ⟨Or.inr ho, rfl⟩ hq
        | cons q pre =>
          simp only [List.cons_append, List.cons.injEq] at h1
          obtain ⟨rfl, h1⟩ := h1
          exact ⟨pre, x, by rw [h2, h1], h23, hbr, fun u hu => hN1 u (List.mem_cons_of_mem _ hu), hN2⟩
      · cases pre with
        | nil =>
          simp only [List.nil_append, List.cons.injEq] at h1
          obtain ⟨rfl, rfl⟩ := h1
          exact ⟨[], fk_dd x, h2, h23, hbr, hN1, hN2⟩
        | cons q pre =>
          simp only [List.cons_append, List.cons.injEq] at h1
          obtain ⟨rfl, rfl⟩ := h1
          refine ⟨fk_dd q :: pre, x, h2, h23, hbr, ?_, hN2⟩
          intro u hu hu23
          rcases List.mem_cons.mp hu with hu | hu
          · subst hu; exact hN1 q List.mem_cons_self hu23
          · exact hN1 u (List.mem_cons_of_mem _ hu) hu23
      · exact ⟨pre, x, h1, h23, hbr, hN1, hN2⟩
def fk_cc (ts : List Int32) : Prop := ∀ t ∈ ts, fk_wb t 4 = true
theorem fk_wb5 {t : Int32} (h : fk_wb t 4 = true) : t ≠ 5 := by
  rintro rfl
  revert h
  decide
theorem fk_takeL {w t : Int32} {ts : List Int32} {x : fk_F} {l : List fk_F} {q : Nat × fk_R} {k' : fk_K} (hl : fk_lv (x :: l) = true) (hc : fk_cc ts) (hw : w ≠ 4) (hb : x.2.2.1 ≤ ts.length) (h : fk_take w (ts, x :: l, q) = .inr (t, k')) : ∃ ts', ts = t :: ts' ∧ k' = (ts', x :: l, q) ∧ x.2.2.1 ≤ ts'.length ∧ (w = 5 ∨ w = t) := by
  unfold fk_take at h
  rw [if_neg hw] at h
  dsimp only at h
  have hd : x.2.2.2.2.1 = false := by
    simp only [fk_lv, Bool.and_eq_true, Bool.not_eq_true'] at hl
    exact hl.2
  split at h
  · rw [hd] at h
    simp at h
  · rename_i hne
    split at h
    · cases h
    · rename_i u r
      have h5 := fk_wb5 (hc u List.mem_cons_self)
      rw [if_neg h5] at h
      have hlen : x.2.2.1 ≤ r.length := by simp at hb hne; omega
      split at h
      · rename_i hw5
        cases h
        exact ⟨r, rfl, rfl, hlen, Or.inl hw5⟩
      · split at h
        · rename_i hwu
          cases h
          exact ⟨r, rfl, rfl, hlen, Or.inr hwu⟩
        · cases h
theorem fk_tkL {w : Int32} {ts : List Int32} {x : fk_F} {l : List fk_F} {q : Nat × fk_R} {k' : fk_K} (hl : fk_lv (x :: l) = true) (hc : fk_cc ts) (hw : w ≠ 4) (hb : x.2.2.1 ≤ ts.length) (h : fk_tk w (ts, x :: l, q) = .inr k') : ∃ t ts', ts = t :: ts' ∧ k' = (ts', x :: l, q) ∧ x.2.2.1 ≤ ts'.length ∧ (w = 5 ∨ w = t) := by
  obtain ⟨⟨t, y⟩, h1, h2⟩ := fk_bi h
  cases h2
  obtain ⟨ts', a, b, c, d⟩ := fk_takeL hl hc hw hb h1
  exact ⟨t, ts', a, b, c, d⟩
theorem fk_cc_t {t : Int32} {ts : List Int32} (h : fk_cc (t :: ts)) : fk_cc ts := fun u hu => h u (List.mem_cons_of_mem _ hu)
theorem fk_cc_c {t : Int32} {ts : List Int32} (ht : fk_wb t 4 = true) (h : fk_cc ts) : fk_cc (t :: ts) := fun u hu => by
  rcases List.mem_cons.mp hu with hu | hu
  · rw [hu]; exact ht
  · exact h u hu
def fk_vi (D : fk_D) (f o : Nat) (a : Int32) (ts tm ts' : List Int32) : Prop :=
  let ty := D.2.2.2.2.1
  match o with
  | 4 => a.toNatClampNeg < D.2.2.1 f ∧ tm = ts ∧ ts' = ty f a.toNatClampNeg :: ts
  | 5 => a.toNatClampNeg < D.2.2.1 f ∧ ts = ty f a.toNatClampNeg :: tm ∧ ts' = tm
  | 6 => a.toNatClampNeg < D.2.2.1 f ∧ ts = ty f a.toNatClampNeg :: tm ∧ ts' = ts
  | 7 => fk_wb a 4 = true ∧ tm = ts ∧ ts' = a :: ts
  | 8 => fk_wb a 4 = true ∧ ts = a :: tm ∧ ts' = tm
  | 9 => ∃ t, ts = t :: tm ∧ ts' = tm
  | 10 => ∃ t, ts = 0 :: t :: t :: tm ∧ ts' = t :: tm
  | 11 | 12 | 13 | 14 => fk_wb a 4 = true ∧ ts = a :: a :: tm ∧ ts' = a :: tm
  | 15 | 16 | 17 => fk_wb a 2 = true ∧ ts = a :: a :: tm ∧ ts' = a :: tm
  | 18 | 19 => fk_wb a 4 = true ∧ ts = a :: a :: tm ∧ ts' = 0 :: tm
  | 20 => fk_wb a 16 = true ∧ ts = (a / 4) :: tm ∧ ts' = (a - a / 4 * 4) :: tm
  | 29 => fk_wb a 4 = true ∧ D.1 a.toNatClampNeg = true ∧ (∃ ps, ps.length = D.2.1 a.toNatClampNeg ∧ ts = ps ++ tm ∧ ∀ j, j < D.2.1 a.toNatClampNeg → ps[j]? = some (ty a.toNatClampNeg (D.2.1 a.toNatClampNeg - 1 - j))) ∧ ((D.2.2.2.1 a.toNatClampNeg = 4 ∧ ts' = tm) ∨ (D.2.2.2.1 a.toNatClampNeg ≠ 4 ∧ ts' = D.2.2.2.1 a.toNatClampNeg :: tm))
  | o => o ≤ 3 ∧ tm = ts ∧ ts' = Int32.ofNat o :: ts
theorem fk_parsL {ty : Nat → Int32} {x : fk_F} {l : List fk_F} {q : Nat × fk_R} (hl : fk_lv (x :: l) = true) : ∀ {n : Nat} {ts : List Int32} {k' : fk_K}, (∀ j, j < n → fk_wb (ty j) 4 = true) → fk_cc ts → x.2.2.1 ≤ ts.length → fk_pars ty n (ts, x :: l, q) = .inr k' → ∃ ps tm, ps.length = n ∧ ts = ps ++ tm ∧ k' = (tm, x :: l, q) ∧ x.2.2.1 ≤ tm.length ∧ ∀ j, j < n → ps[j]? = some (ty (n - 1 - j))
  | 0, ts, k', _, _, hb, h => by
    cases h
    exact ⟨[], ts, rfl, rfl, rfl, hb, fun j hj => by omega⟩
  | n + 1, ts, k', ht, hc, hb, h => by
    obtain ⟨b, h1, h2⟩ := fk_bi h
    obtain ⟨t, ts1, e1, e2, e3, e4⟩ := fk_tkL hl hc (fk_wb4 (ht n (by omega))) hb h1
    subst e2
    subst e1
    obtain ⟨ps, tm, p1, p2, p3, p4, p5⟩ := fk_parsL hl (fun j hj => ht j (by omega)) (fk_cc_t hc) e3 h2
    have het : t = ty n := by
      rcases e4 with e4 | e4
      · exact absurd e4 (fk_wb5 (ht n (by omega)))
      · exact e4.symm
    refine ⟨t :: ps, tm, by simp [p1], by rw [p2]; rfl, p3, p4, fun j hj => ?_⟩
    cases j with
    | zero => simp [het]
    | succ j =>
      rw [List.getElem?_cons_succ, p5 j (by omega)]
      congr 2
      omega
theorem fk_wb_o {o : Nat} (h : o ≤ 3) : fk_wb (Int32.ofNat o) 4 = true := by
  have : o = 0 ∨ o = 1 ∨ o = 2 ∨ o = 3 := by omega
  rcases this with rfl | rfl | rfl | rfl <;> decide
theorem fk_wb24 {a : Int32} (h : fk_wb a 2 = true) : fk_wb a 4 = true := by
  unfold fk_wb at h ⊢
  simp only [Bool.and_eq_true, decide_eq_true_eq] at h ⊢
  exact ⟨h.1, by omega⟩
theorem fk_div_wb {a : Int32} (h : fk_wb a 16 = true) : fk_wb (a / 4) 4 = true ∧ fk_wb (a - a / 4 * 4) 4 = true := by
  obtain ⟨h1, h2⟩ := fk_wbi h
  have e := fk_ofc h1
  have hc : ∀ n, n < 16 → fk_wb ((Int32.ofNat n) / 4) 4 = true ∧ fk_wb (Int32.ofNat n - Int32.ofNat n / 4 * 4) 4 = true := by decide +kernel
  rw [e]
  exact hc _ h2
theorem fk_putL {t : Int32} {ts : List Int32} {fs : List fk_F} {q : Nat × fk_R} {k' : fk_K} (ht : t ≠ 4) (h : fk_put t (ts, fs, q) = .inr k') : k' = (t :: ts, fs, q) ∧ ts.length ≠ 20 := by
  obtain ⟨h1, h2⟩ := fk_put_i h
  rcases h2 with ⟨h2, -⟩ | ⟨-, h3, h2⟩
  · exact absurd h2 ht
  · obtain ⟨a, b⟩ := k'
    dsimp only at h1 h2 h3
    rw [h1, h2]
    exact ⟨rfl, h3⟩
theorem fk_row_eq (nl : Nat) (op a : Int32) (ts : List Int32) (fs : List fk_F) (q : Nat × fk_R) : fk_row nl op a (ts, fs, q) = (ts, fs, (fk_row nl op a (ts, fs, q)).2.2) := by
  obtain ⟨e1, e2⟩ := fk_row_fs nl op a (ts, fs, q)
  generalize fk_row nl op a (ts, fs, q) = z at e1 e2
  obtain ⟨z1, z2, z3⟩ := z
  dsimp only at e1 e2
  rw [e1, e2]
theorem fk_inv {D : fk_D} {f i o : Nat} {a : Int32} {ts : List Int32} {x : fk_F} {l : List fk_F} {q : Nat × fk_R} {k' : fk_K} (hdk : fk_dk D) (hf : f < 4) (ht : D.1 f = true) (h : fk_stp D f i o a (ts, x :: l, q) = .inr k') (ho : o ≤ 20 ∨ o = 29) (hl : fk_lv (x :: l) = true) (hc : fk_cc ts) (hb : x.2.2.1 ≤ ts.length) : ∃ tm, fk_vi D f o a ts tm k'.1 ∧ k' = (k'.1, x :: l, (fk_row (D.2.2.1 f) (Int32.ofNat o) a (tm, x :: l, q)).2.2) ∧ x.2.2.1 ≤ tm.length ∧ fk_cc k'.1 := by
  obtain ⟨hok, hd⟩ := fk_stp_i h
  obtain ⟨d1, d2, d3, d4, d5, d6, d7⟩ := hdk f hf ht
  have hcase : o = 0 ∨ o = 1 ∨ o = 2 ∨ o = 3 ∨ o = 4 ∨ o = 5 ∨ o = 6 ∨ o = 7 ∨ o = 8 ∨ o = 9 ∨ o = 10 ∨ o = 11 ∨ o = 12 ∨ o = 13 ∨ o = 14 ∨ o = 15 ∨ o = 16 ∨ o = 17 ∨ o = 18 ∨ o = 19 ∨ o = 20 ∨ o = 29 := by omega
  rcases hcase with rfl | rfl | rfl | rfl | rfl | rfl | rfl | rfl | rfl | rfl | rfl | rfl | rfl | rfl | rfl | rfl | rfl | rfl | rfl | rfl | rfl | rfl
  · have hd' : fk_put (Int32.ofNat 0) (fk_row (D.2.2.1 f) (Int32.ofNat 0) a (ts, x :: l, q)) = .inr k' := hd
    rw [fk_row_eq] at hd'
    obtain ⟨rfl, -⟩ := fk_putL (by decide) hd'
    exact ⟨ts, ⟨by decide, rfl, rfl⟩, rfl, hb, fk_cc_c (by decide) hc⟩
  · have hd' : fk_put (Int32.ofNat 1) (fk_row (D.2.2.1 f) (Int32.ofNat 1) a (ts, x :: l, q)) = .inr k' := hd
    rw [fk_row_eq] at hd'
    obtain ⟨rfl, -⟩ := fk_putL (by decide) hd'
    exact ⟨ts, ⟨by decide, rfl, rfl⟩, rfl, hb, fk_cc_c (by decide) hc⟩
  · have hd' : fk_put (Int32.ofNat 2) (fk_row (D.2.2.1 f) (Int32.ofNat 2) a (ts, x :: l, q)) = .inr k' := hd
    rw [fk_row_eq] at hd'
    obtain ⟨rfl, -⟩ := fk_putL (by decide) hd'
    exact ⟨ts, ⟨by decide, rfl, rfl⟩, rfl, hb, fk_cc_c (by decide) hc⟩
  · have hd' : fk_put (Int32.ofNat 3) (fk_row (D.2.2.1 f) (Int32.ofNat 3) a (ts, x :: l, q)) = .inr k' := hd
    rw [fk_row_eq] at hd'
    obtain ⟨rfl, -⟩ := fk_putL (by decide) hd'
    exact ⟨ts, ⟨by decide, rfl, rfl⟩, rfl, hb, fk_cc_c (by decide) hc⟩
  · have ha := (fk_wbi (show fk_wb a (D.2.2.1 f) = true from hok)).2
    have hd' : fk_put (D.2.2.2.2.1 f a.toNatClampNeg) (fk_row (D.2.2.1 f) (Int32.ofNat 4) a (ts, x :: l, q)) = .inr k' := hd
    rw [fk_row_eq] at hd'
    obtain ⟨rfl, -⟩ := fk_putL (fk_wb4 (d6 _ ha)) hd'
    exact ⟨ts, ⟨ha, rfl, rfl⟩, rfl, hb, fk_cc_c (d6 _ ha) hc⟩
  · have ha := (fk_wbi (show fk_wb a (D.2.2.1 f) = true from hok)).2
    obtain ⟨b, h1, h2⟩ := fk_bi (show fk_bind (fk_tk (D.2.2.2.2.1 f a.toNatClampNeg) (ts, x :: l, q)) (fun k => .inr (fk_row (D.2.2.1 f) (Int32.ofNat 5) a k)) = .inr k' from hd)
    obtain ⟨t, tm, rfl, rfl, e3, e4⟩ := fk_tkL hl hc (fk_wb4 (d6 _ ha)) hb h1
    have het := e4.resolve_left (fk_wb5 (d6 _ ha))
    subst het
    rw [fk_row_eq] at h2
    cases h2
    exact ⟨tm, ⟨ha, rfl, rfl⟩, rfl, e3, fk_cc_t hc⟩
  · have ha := (fk_wbi (show fk_wb a (D.2.2.1 f) = true from hok)).2
    obtain ⟨b, h1, h2⟩ := fk_bi (show fk_bind (fk_tk (D.2.2.2.2.1 f a.toNatClampNeg) (ts, x :: l, q)) (fun k => fk_put (D.2.2.2.2.1 f a.toNatClampNeg) (fk_row (D.2.2.1 f) (Int32.ofNat 6) a k)) = .inr k' from hd)
    obtain ⟨t, tm, rfl, rfl, e3, e4⟩ := fk_tkL hl hc (fk_wb4 (d6 _ ha)) hb h1
    have het := e4.resolve_left (fk_wb5 (d6 _ ha))
    subst het
    rw [fk_row_eq] at h2
    obtain ⟨rfl, -⟩ := fk_putL (fk_wb4 (d6 _ ha)) h2
    exact ⟨tm, ⟨ha, rfl, rfl⟩, rfl, e3, hc⟩
  · have ha : fk_wb a 4 = true := hok
    have hd' : fk_put a (fk_row (D.2.2.1 f) (Int32.ofNat 7) a (ts, x :: l, q)) = .inr k' := hd
    rw [fk_row_eq] at hd'
    obtain ⟨rfl, -⟩ := fk_putL (fk_wb4 ha) hd'
    exact ⟨ts, ⟨ha, rfl, rfl⟩, rfl, hb, fk_cc_c ha hc⟩
  · have ha : fk_wb a 4 = true := hok
    obtain ⟨b, h1, h2⟩ := fk_bi (show fk_bind (fk_tk a (ts, x :: l, q)) (fun k => .inr (fk_row (D.2.2.1 f) (Int32.ofNat 8) a k)) = .inr k' from hd)
    obtain ⟨t, tm, rfl, rfl, e3, e4⟩ := fk_tkL hl hc (fk_wb4 ha) hb h1
    have het := e4.resolve_left (fk_wb5 ha)
    subst het
    rw [fk_row_eq] at h2
    cases h2
    exact ⟨tm, ⟨ha, rfl, rfl⟩, rfl, e3, fk_cc_t hc⟩
  · obtain ⟨b, h1, h2⟩ := fk_bi (show fk_bind (fk_tk 5 (ts, x :: l, q)) (fun k => .inr (fk_row (D.2.2.1 f) (Int32.ofNat 9) a k)) = .inr k' from hd)
    obtain ⟨t, tm, rfl, rfl, e3, e4⟩ := fk_tkL hl hc (by decide) hb h1
    rw [fk_row_eq] at h2
    cases h2
    exact ⟨tm, ⟨t, rfl, rfl⟩, rfl, e3, fk_cc_t hc⟩
  · obtain ⟨b, h1, h2⟩ := fk_bi (show fk_bind (fk_tk 0 (ts, x :: l, q)) (fun k => fk_bind (fk_take 5 k) (fun q => fk_bind (fk_take q.1 q.2) (fun p => fk_put p.1 (fk_row (D.2.2.1 f) (Int32.ofNat 10) a p.2)))) = .inr k' from hd)
    obtain ⟨t, t1, rfl, rfl, e3, e4⟩ := fk_tkL hl hc (by decide) hb h1
    have het := e4.resolve_left (by decide)
    subst het
    obtain ⟨⟨u, c⟩, h3, h4⟩ := fk_bi h2
    obtain ⟨t2, rfl, rfl, g3, g4⟩ := fk_takeL hl (fk_cc_t hc) (by decide) e3 h3
    have hu := hc u (by simp)
    obtain ⟨⟨v, d⟩, h5, h6⟩ := fk_bi h4
    obtain ⟨tm, rfl, rfl, k3, k4⟩ := fk_takeL hl (fk_cc_t (fk_cc_t hc)) (fk_wb4 hu) g3 h5
    have hv := k4.resolve_left (fk_wb5 hu)
    subst hv
    dsimp only at h6
    rw [fk_row_eq] at h6
    obtain ⟨rfl, -⟩ := fk_putL (fk_wb4 hu) h6
    exact ⟨tm, ⟨u, rfl, rfl⟩, rfl, k3, fk_cc_t (fk_cc_t hc)⟩
  · have ha : fk_wb a 4 = true := hok
    obtain ⟨b, h1, h2⟩ := fk_bi (show fk_bind (fk_tk a (ts, x :: l, q)) (fun k => fk_bind (fk_tk a k) (fun k => fk_put a (fk_row (D.2.2.1 f) (Int32.ofNat 11) a k))) = .inr k' from hd)
    obtain ⟨t, t1, rfl, rfl, e3, e4⟩ := fk_tkL hl hc (fk_wb4 ha) hb h1
    have het := e4.resolve_left (fk_wb5 ha)
    subst het
    obtain ⟨c, h3, h4⟩ := fk_bi h2
    obtain ⟨t2, tm, rfl, rfl, g3, g4⟩ := fk_tkL hl (fk_cc_t hc) (fk_wb4 ha) e3 h3
    have hev := g4.resolve_left (fk_wb5 ha)
    subst hev
    rw [fk_row_eq] at h4
    obtain ⟨rfl, -⟩ := fk_putL (fk_wb4 ha) h4
    exact ⟨tm, ⟨ha, rfl, rfl⟩, rfl, g3, fk_cc_c ha (fk_cc_t (fk_cc_t hc))⟩
  · have ha : fk_wb a 4 = true := hok
    obtain ⟨b, h1, h2⟩ := fk_bi (show fk_bind (fk_tk a (ts, x :: l, q)) (fun k => fk_bind (fk_tk a k) (fun k => fk_put a (fk_row (D.2.2.1 f) (Int32.ofNat 12) a k))) = .inr k' from hd)
    obtain ⟨t, t1, rfl, rfl, e3, e4⟩ := fk_tkL hl hc (fk_wb4 ha) hb h1
    have het := e4.resolve_left (fk_wb5 ha)
    subst het
    obtain ⟨c, h3, h4⟩ := fk_bi h2
    obtain ⟨t2, tm, rfl, rfl, g3, g4⟩ := fk_tkL hl (fk_cc_t hc) (fk_wb4 ha) e3 h3
    have hev := g4.resolve_left (fk_wb5 ha)
    subst hev
    rw [fk_row_eq] at h4
    obtain ⟨rfl, -⟩ := fk_putL (fk_wb4 ha) h4
    exact ⟨tm, ⟨ha, rfl, rfl⟩, rfl, g3, fk_cc_c ha (fk_cc_t (fk_cc_t hc))⟩
  · have ha : fk_wb a 4 = true := hok
    obtain ⟨b, h1, h2⟩ := fk_bi (show fk_bind (fk_tk a (ts, x :: l, q)) (fun k => fk_bind (fk_tk a k) (fun k => fk_put a (fk_row (D.2.2.1 f) (Int32.ofNat 13) a k))) = .inr k' from hd)
    obtain ⟨t, t1, rfl, rfl, e3, e4⟩ := fk_tkL hl hc (fk_wb4 ha) hb h1
    have het := e4.resolve_left (fk_wb5 ha)
    subst het
    obtain ⟨c, h3, h4⟩ := fk_bi h2
    obtain ⟨t2, tm, rfl, rfl, g3, g4⟩ := fk_tkL hl (fk_cc_t hc) (fk_wb4 ha) e3 h3
    have hev := g4.resolve_left (fk_wb5 ha)
    subst hev
    rw [fk_row_eq] at h4
    obtain ⟨rfl, -⟩ := fk_putL (fk_wb4 ha) h4
    exact ⟨tm, ⟨ha, rfl, rfl⟩, rfl, g3, fk_cc_c ha (fk_cc_t (fk_cc_t hc))⟩
  · have ha : fk_wb a 4 = true := hok
    obtain ⟨b, h1, h2⟩ := fk_bi (show fk_bind (fk_tk a (ts, x :: l, q)) (fun k => fk_bind (fk_tk a k) (fun k => fk_put a (fk_row (D.2.2.1 f) (Int32.ofNat 14) a k))) = .inr k' from hd)
    obtain ⟨t, t1, rfl, rfl, e3, e4⟩ := fk_tkL hl hc (fk_wb4 ha) hb h1
    have het := e4.resolve_left (fk_wb5 ha)
    subst het
    obtain ⟨c, h3, h4⟩ := fk_bi h2
    obtain ⟨t2, tm, rfl, rfl, g3, g4⟩ := fk_tkL hl (fk_cc_t hc) (fk_wb4 ha) e3 h3
    have hev := g4.resolve_left (fk_wb5 ha)
    subst hev
    rw [fk_row_eq] at h4
    obtain ⟨rfl, -⟩ := fk_putL (fk_wb4 ha) h4
    exact ⟨tm, ⟨ha, rfl, rfl⟩, rfl, g3, fk_cc_c ha (fk_cc_t (fk_cc_t hc))⟩
  · have ha := fk_wb24 (show fk_wb a 2 = true from hok)
    obtain ⟨b, h1, h2⟩ := fk_bi (show fk_bind (fk_tk a (ts, x :: l, q)) (fun k => fk_bind (fk_tk a k) (fun k => fk_put a (fk_row (D.2.2.1 f) (Int32.ofNat 15) a k))) = .inr k' from hd)
    obtain ⟨t, t1, rfl, rfl, e3, e4⟩ := fk_tkL hl hc (fk_wb4 ha) hb h1
    have het := e4.resolve_left (fk_wb5 ha)
    subst het
    obtain ⟨c, h3, h4⟩ := fk_bi h2
    obtain ⟨t2, tm, rfl, rfl, g3, g4⟩ := fk_tkL hl (fk_cc_t hc) (fk_wb4 ha) e3 h3
    have hev := g4.resolve_left (fk_wb5 ha)
    subst hev
    rw [fk_row_eq] at h4
    obtain ⟨rfl, -⟩ := fk_putL (fk_wb4 ha) h4
    exact ⟨tm, ⟨hok, rfl, rfl⟩, rfl, g3, fk_cc_c ha (fk_cc_t (fk_cc_t hc))⟩
  · have ha := fk_wb24 (show fk_wb a 2 = true from hok)
    obtain ⟨b, h1, h2⟩ := fk_bi (show fk_bind (fk_tk a (ts, x :: l, q)) (fun k => fk_bind (fk_tk a k) (fun k => fk_put a (fk_row (D.2.2.1 f) (Int32.ofNat 16) a k))) = .inr k' from hd)
    obtain ⟨t, t1, rfl, rfl, e3, e4⟩ := fk_tkL hl hc (fk_wb4 ha) hb h1
    have het := e4.resolve_left (fk_wb5 ha)
    subst het
    obtain ⟨c, h3, h4⟩ := fk_bi h2
    obtain ⟨t2, tm, rfl, rfl, g3, g4⟩ := fk_tkL hl (fk_cc_t hc) (fk_wb4 ha) e3 h3
    have hev := g4.resolve_left (fk_wb5 ha)
    subst hev
    rw [fk_row_eq] at h4
    obtain ⟨rfl, -⟩ := fk_putL (fk_wb4 ha) h4
    exact ⟨tm, ⟨hok, rfl, rfl⟩, rfl, g3, fk_cc_c ha (fk_cc_t (fk_cc_t hc))⟩
  · have ha := fk_wb24 (show fk_wb a 2 = true from hok)
    obtain ⟨b, h1, h2⟩ := fk_bi (show fk_bind (fk_tk a (ts, x :: l, q)) (fun k => fk_bind (fk_tk a k) (fun k => fk_put a (fk_row (D.2.2.1 f) (Int32.ofNat 17) a k))) = .inr k' from hd)
    obtain ⟨t, t1, rfl, rfl, e3, e4⟩ := fk_tkL hl hc (fk_wb4 ha) hb h1
    have het := e4.resolve_left (fk_wb5 ha)
    subst het
    obtain ⟨c, h3, h4⟩ := fk_bi h2
    obtain ⟨t2, tm, rfl, rfl, g3, g4⟩ := fk_tkL hl (fk_cc_t hc) (fk_wb4 ha) e3 h3
    have hev := g4.resolve_left (fk_wb5 ha)
    subst hev
    rw [fk_row_eq] at h4
    obtain ⟨rfl, -⟩ := fk_putL (fk_wb4 ha) h4
    exact ⟨tm, ⟨hok, rfl, rfl⟩, rfl, g3, fk_cc_c ha (fk_cc_t (fk_cc_t hc))⟩
  · have ha : fk_wb a 4 = true := hok
    obtain ⟨b, h1, h2⟩ := fk_bi (show fk_bind (fk_tk a (ts, x :: l, q)) (fun k => fk_bind (fk_tk a k) (fun k => fk_put 0 (fk_row (D.2.2.1 f) (Int32.ofNat 18) a k))) = .inr k' from hd)
    obtain ⟨t, t1, rfl, rfl, e3, e4⟩ := fk_tkL hl hc (fk_wb4 ha) hb h1
    have het := e4.resolve_left (fk_wb5 ha)
    subst het
    obtain ⟨c, h3, h4⟩ := fk_bi h2
    obtain ⟨t2, tm, rfl, rfl, g3, g4⟩ := fk_tkL hl (fk_cc_t hc) (fk_wb4 ha) e3 h3
    have hev := g4.resolve_left (fk_wb5 ha)
    subst hev
    rw [fk_row_eq] at h4
    obtain ⟨rfl, -⟩ := fk_putL (by decide) h4
    exact ⟨tm, ⟨ha, rfl, rfl⟩, rfl, g3, fk_cc_c (by decide) (fk_cc_t (fk_cc_t hc))⟩
  · have ha : fk_wb a 4 = true := hok
    obtain ⟨b, h1, h2⟩ := fk_bi (show fk_bind (fk_tk a (ts, x :: l, q)) (fun k => fk_bind (fk_tk a k) (fun k => fk_put 0 (fk_row (D.2.2.1 f) (Int32.ofNat 19) a k))) = .inr k' from hd)
    obtain ⟨t, t1, rfl, rfl, e3, e4⟩ := fk_tkL hl hc (fk_wb4 ha) hb h1
    have het := e4.resolve_left (fk_wb5 ha)
    subst het
    obtain ⟨c, h3, h4⟩ := fk_bi h2
    obtain ⟨t2, tm, rfl, rfl, g3, g4⟩ := fk_tkL hl (fk_cc_t hc) (fk_wb4 ha) e3 h3
    have hev := g4.resolve_left (fk_wb5 ha)
    subst hev
    rw [fk_row_eq] at h4
    obtain ⟨rfl, -⟩ := fk_putL (by decide) h4
    exact ⟨tm, ⟨ha, rfl, rfl⟩, rfl, g3, fk_cc_c (by decide) (fk_cc_t (fk_cc_t hc))⟩
  · have ha : fk_wb a 16 = true := hok
    obtain ⟨w1, w2⟩ := fk_div_wb ha
    obtain ⟨b, h1, h2⟩ := fk_bi (show fk_bind (fk_tk (a / 4) (ts, x :: l, q)) (fun k => fk_put (a - a / 4 * 4) (fk_row (D.2.2.1 f) (Int32.ofNat 20) a k)) = .inr k' from hd)
    obtain ⟨t, tm, rfl, rfl, e3, e4⟩ := fk_tkL hl hc (fk_wb4 w1) hb h1
    have het := e4.resolve_left (fk_wb5 w1)
    subst het
    rw [fk_row_eq] at h2
    obtain ⟨rfl, -⟩ := fk_putL (fk_wb4 w2) h2
    exact ⟨tm, ⟨ha, rfl, rfl⟩, rfl, e3, fk_cc_c w2 (fk_cc_t hc)⟩
  · have hok' : fk_wb a 4 = true ∧ D.1 a.toNatClampNeg = true := by
      have : (fk_wb a 4 && D.1 a.toNatClampNeg) = true := hok
      simpa using this
    obtain ⟨c1, c2, c3, c4, c5, c6, c7⟩ := hdk _ (fk_wbi hok'.1).2 hok'.2
    obtain ⟨b, h1, h2⟩ := fk_bi (show fk_bind (fk_pars (D.2.2.2.2.1 a.toNatClampNeg) (D.2.1 a.toNatClampNeg) (ts, x :: l, q)) (fun k => fk_put (D.2.2.2.1 a.toNatClampNeg) (fk_row (D.2.2.1 f) (Int32.ofNat 29) a k)) = .inr k' from hd)
    obtain ⟨ps, tm, p1, p2, rfl, p4, p5⟩ := fk_parsL hl (fun j hj => c6 j (by omega)) hc hb h1
    have hcm : fk_cc tm := fun u hu => hc u (by rw [p2]; exact List.mem_append_right _ hu)
    rw [fk_row_eq] at h2
    obtain ⟨r1, r2⟩ := fk_put_i h2
    obtain ⟨k1, k2⟩ := k'
    dsimp only at r1 r2
    subst r1
    rcases r2 with ⟨r2, r3⟩ | ⟨r2, -, r3⟩
    · subst r3
      exact ⟨k1, ⟨hok'.1, hok'.2, ⟨ps, p1, p2, p5⟩, Or.inl ⟨r2, rfl⟩⟩, rfl, p4, hcm⟩
    · subst r3
      refine ⟨tm, ⟨hok'.1, hok'.2, ⟨ps, p1, p2, p5⟩, Or.inr ⟨r2, rfl⟩⟩, rfl, p4, fk_cc_c ?_ hcm⟩
      have : ∀ t : Int32, fk_wb t 5 = true → t ≠ 4 → fk_wb t 4 = true := by
        intro t h1 h2
        obtain ⟨v1, v2⟩ := fk_wbi h1
        have e := fk_ofc v1
        have hall : ∀ n, n < 5 → Int32.ofNat n ≠ 4 → fk_wb (Int32.ofNat n) 4 = true := by decide +kernel
        rw [e] at h2 ⊢
        exact hall _ v2 h2
      exact this _ c4 r2
theorem fk_jumpL {nl a : Nat} {op : Int32} {ts : List Int32} {x : fk_F} {l : List fk_F} {q : Nat × fk_R} {k' : fk_K} {fr : fk_F} {gs : List fk_F} (hl : fk_lv (x :: l) = true) (hc : fk_cc ts) (hb : x.2.2.1 ≤ ts.length) (hd : (x :: l).drop a = fr :: gs) (hg : fk_wb fr.2.1 5 = true) (h : fk_jump nl op a (ts, x :: l, q) = .inr k') :
    ∃ tm, ((fk_need fr = 4 ∧ ts = tm) ∨ (fk_need fr ≠ 4 ∧ ts = fk_need fr :: tm)) ∧ x.2.2.1 ≤ tm.length ∧ k' = (tm, x :: l, (fk_jmz nl gs.length op fr (tm, x :: l, q)).2.2) := by
  unfold fk_jump at h
  dsimp only at h
  rw [hd] at h
  obtain ⟨b, h1, h2⟩ := fk_bi h
  cases h2
  have fin : ∀ tm, fk_jmz nl gs.length op fr (tm, x :: l, q) = (tm, x :: l, (fk_jmz nl gs.length op fr (tm, x :: l, q)).2.2) := by
    intro tm
    obtain ⟨e1, e2⟩ := fk_jmz_fs nl gs.length op fr (tm, x :: l, q)
    generalize fk_jmz nl gs.length op fr (tm, x :: l, q) = z at e1 e2
    obtain ⟨z1, z2, z3⟩ := z
    dsimp only at e1 e2
    rw [e1, e2]
  by_cases h4 : fk_need fr = 4
  · rw [h4, fk_tkk (w := 4)] at h1
    cases h1
    exact ⟨ts, Or.inl ⟨h4, rfl⟩, hb, fin ts⟩
  · obtain ⟨t, tm, rfl, rfl, e3, e4⟩ := fk_tkL hl hc h4 hb h1
    have h5 : fk_need fr ≠ 5 := by
      have hw : fk_need fr = 4 ∨ fk_need fr = fr.2.1 := by
        unfold fk_need
        split
        · exact Or.inl rfl
        · exact Or.inr rfl
      rcases hw with hw | hw
      · rw [hw]; decide
      · rw [hw]
        intro q
        rw [q] at hg
        revert hg
        decide
    have het := e4.resolve_left h5
    subst het
    exact ⟨tm, Or.inr ⟨h4, rfl⟩, e3, fin tm⟩
theorem fk_wb54 {t : Int32} (h1 : fk_wb t 5 = true) (h2 : t ≠ 4) : fk_wb t 4 = true := by
  obtain ⟨v1, v2⟩ := fk_wbi h1
  have e := fk_ofc v1
  have hall : ∀ n, n < 5 → Int32.ofNat n ≠ 4 → fk_wb (Int32.ofNat n) 4 = true := by decide +kernel
  rw [e] at h2 ⊢
  exact hall _ v2 h2
theorem fk_justL {ts : List Int32} {x : fk_F} {l : List fk_F} {q : Nat × fk_R} {k' : fk_K} (hb : x.2.2.1 ≤ ts.length) (h : fk_just (ts, x :: l, q) = .inr k') : k' = (fk_bt x.2.2.1 ts, x :: l, q) ∧ (fk_lv (x :: l) = true → fk_cc ts → fk_wb x.2.1 5 = true → (x.2.1 = 4 ∧ ts = fk_bt x.2.2.1 ts) ∨ (x.2.1 ≠ 4 ∧ ts = x.2.1 :: fk_bt x.2.2.1 ts)) := by
  obtain ⟨k1, k2, k3⟩ := k'
  obtain ⟨z1, z2, z3, z4⟩ := fk_just_i h
  subst z1; subst z2
  have hab := fk_tk_b z3 hb _ (Nat.le_refl _)
  have hbt : fk_bt x.2.2.1 k1 = k1 := by
    unfold fk_bt
    have : k1.length - x.2.2.1 = 0 := by omega
    rw [this]; rfl
  have e : k1 = fk_bt x.2.2.1 ts := by rw [← hab.2, hbt]
  refine ⟨by rw [e], fun hl hc hg => ?_⟩
  by_cases h4 : x.2.1 = 4
  · rw [h4, fk_tkk (w := 4)] at z3
    cases z3
    exact Or.inl ⟨h4, e⟩
  · obtain ⟨t, tm, rfl, e2, e3, e4⟩ := fk_tkL hl hc h4 hb z3
    cases e2
    have het := e4.resolve_left (fk_wb5 (fk_wb54 hg h4))
    exact Or.inr ⟨h4, by rw [← e, het]⟩
def fk_Cv (k : fk_K) : Prop := (fk_lv k.2.1 = true → fk_cc k.1) ∧ (∀ x ∈ k.2.1, fk_wb x.2.1 5 = true) ∧ (∀ x ∈ k.2.1, x.2.2.2.1 = true → fk_cc (fk_bt x.2.2.1 k.1)) ∧ ∀ pre x y r, k.2.1 = pre ++ x :: y :: r → x.2.2.2.1 = fk_lv (y :: r)
theorem fk_bs_mem : ∀ {l : List fk_F} {n : Nat} {x y : fk_F} {r : List fk_F}, fk_bs n l → l = y :: r → x ∈ l → x.2.2.1 ≤ y.2.2.1
  | [], _, _, _, _, _, h, _ => by cases h
  | z :: l, n, x, y, r, hb, h, hx => by
    cases h
    rcases List.mem_cons.mp hx with rfl | hx
    · exact Nat.le_refl _
    · cases l with
      | nil => cases hx
      | cons w r' => exact Nat.le_trans (fk_bs_mem hb.2 rfl hx) hb.2.1
theorem fk_bt_all {b : Nat} {ts : List Int32} (h : ts.length ≤ b) : fk_bt b ts = ts := by
  unfold fk_bt
  have : ts.length - b = 0 := by omega
  rw [this]; rfl
theorem fk_cc_bt {b : Nat} {ts : List Int32} (h : fk_cc ts) : fk_cc (fk_bt b ts) := fun u hu => h u (List.mem_of_mem_drop hu)
theorem fk_do_e {D : fk_D} {f i : Nat} {a : Int32} {k k' : fk_K} {x : fk_F} {l : List fk_F} (h : fk_do D f i 24 a k = .inr k') (hl : k.2.1 = x :: l) (hb : x.2.2.1 ≤ k.1.length) : k'.1 = fk_bt x.2.2.1 k.1 ∧ ∃ k1, fk_just k = .inr k1 := by
  obtain ⟨ts, fs, q⟩ := k
  dsimp only at hl hb
  subst hl
  have h' : fk_else (D.2.2.1 f) (ts, x :: l, q) = .inr k' := h
  simp only [fk_else] at h'
  split at h'
  · obtain ⟨b, h1, h2⟩ := fk_bi h'
    obtain ⟨e, -⟩ := fk_justL hb h1
    subst e
    cases h2
    exact ⟨(fk_elz_fs _ _ _ _ _ _ _).1, _, h1⟩
  · cases h'
theorem fk_do_n {D : fk_D} {f i : Nat} {a : Int32} {k k' : fk_K} {x y : fk_F} {l : List fk_F} (h : fk_do D f i 25 a k = .inr k') (hl : k.2.1 = x :: y :: l) (hb : x.2.2.1 ≤ k.1.length) : ((x.2.1 = 4 ∧ k'.1 = fk_bt x.2.2.1 k.1) ∨ (x.2.1 ≠ 4 ∧ k'.1 = x.2.1 :: fk_bt x.2.2.1 k.1)) ∧ ∃ k1, fk_just k = .inr k1 := by
  obtain ⟨ts, fs, q⟩ := k
  dsimp only at hl hb
  subst hl
  have h' : fk_end (ts, x :: y :: l, q) = .inr k' := h
  simp only [fk_end] at h'
  obtain ⟨b, h1, h2⟩ := fk_bi h'
  obtain ⟨e, -⟩ := fk_justL hb h1
  subst e
  split at h2
  · cases h2
  · obtain ⟨r1, r2⟩ := fk_put_i h2
    have hw : (fk_pop (fk_all (l.length + 1) (if x.1 = 23 then fk_here x.2.2.2.2.2.2.2 (fk_bt x.2.2.1 ts, x :: y :: l, q) else (fk_bt x.2.2.1 ts, x :: y :: l, q)))).1 = fk_bt x.2.2.1 ts := by
      obtain ⟨L, q1, q2, q3, q4, q5, q6⟩ := q
      split
      · unfold fk_here
        dsimp only
        split <;> rfl
      · rfl
    rw [hw] at r2
    refine ⟨?_, _, h1⟩
    rcases r2 with ⟨r2, r3⟩ | ⟨r2, -, r3⟩
    · exact Or.inl ⟨r2, r3⟩
    · exact Or.inr ⟨r2, r3⟩
theorem fk_dd_lv (x : fk_F) (l : List fk_F) : fk_lv (fk_dd x :: l) = false := by simp [fk_lv, fk_dd]
theorem fk_Cv_s {D : fk_D} {f i o : Nat} {a : Int32} {k k' : fk_K} {rs : Int32} (hdk : fk_dk D) (hf : f < 4) (ht : D.1 f = true) (h : fk_stp D f i o a k = .inr k') (ho : o ≤ 30) (hJ : fk_J rs k) (hC : fk_Cv k) : fk_Cv k' := by
  obtain ⟨hok, hd⟩ := fk_stp_i h
  obtain ⟨hb, h20, h1, h9, hQ⟩ := hJ
  obtain ⟨c1, c2, c3, c4⟩ := hC
  obtain ⟨ts, fs, q⟩ := k
  cases fs with
  | nil => simp at h1
  | cons x l =>
    obtain ⟨hfo, hab⟩ := fk_do_b hd rfl hb.1 ho
    dsimp only at hb h1 h9 hfo hab c1 c2 c3 c4
    have old3 : ∀ y ∈ x :: l, y.2.2.2.1 = true → fk_cc (fk_bt y.2.2.1 k'.1) := by
      intro y hy hyl
      rw [(hab _ (fk_bs_mem hb rfl hy)).2]
      exact c3 y hy hyl
    rcases hfo with ⟨ho', z, hz⟩ | ⟨rfl, y, r, q1, q2, q3⟩ | ⟨rfl, y, w, r, q1, q2⟩ | ⟨ho', y, r, q1, q2⟩ | ⟨ho', q1⟩
    ·
      obtain ⟨e1, -, e3, e4⟩ := fk_do_o hd ho'
      dsimp only at e1 e3 e4
      have hts : fk_lv (x :: l) = true → fk_cc k'.1 := by
        intro hl
        by_cases h23 : o = 23
        · obtain ⟨k1, r1, r2, -⟩ := e4 h23
          obtain ⟨t, tm, rfl, rfl, -⟩ := fk_tkL hl (c1 hl) (by decide) hb.1 r1
          rw [r2]
          exact fk_cc_t (c1 hl)
        · rw [(e3 h23).1]; exact c1 hl
      have hgiv : fk_wb a 5 = true := by rcases ho' with rfl | rfl | rfl <;> exact hok
      refine ⟨?_, ?_, ?_, ?_⟩
      · rw [e1]
        intro hl'
        have : fk_lv (x :: l) = true := by simpa [fk_lv] using hl'
        exact hts this
      · rw [e1]
        intro y hy
        rcases List.mem_cons.mp hy with rfl | hy
        · exact hgiv
        · exact c2 y hy
      · rw [e1]
        intro y hy hyl
        rcases List.mem_cons.mp hy with rfl | hy
        · dsimp only at hyl ⊢
          rw [fk_bt_all (Nat.le_refl _)]
          exact hts hyl
        · exact old3 y hy hyl
      · rw [e1]
        intro pre u v r hr
        cases pre with
        | nil =>
          simp only [List.nil_append, List.cons.injEq] at hr
          obtain ⟨rfl, rfl, rfl⟩ := hr
          rfl
        | cons p pre =>
          simp only [List.cons_append, List.cons.injEq] at hr
          exact c4 pre u v r hr.2
    ·
      cases q1
      obtain ⟨e1, -⟩ := fk_do_e hd rfl hb.1
      dsimp only at e1
      refine ⟨?_, ?_, ?_, ?_⟩
      · rw [q3]
        intro hl'
        have hxl : x.2.2.2.1 = true := by simpa [fk_lv, fk_ee] using hl'
        rw [e1]
        exact c3 x List.mem_cons_self hxl
      · rw [q3]
        intro y hy
        rcases List.mem_cons.mp hy with rfl | hy
        · exact c2 x List.mem_cons_self
        · exact c2 y (List.mem_cons_of_mem _ hy)
      · rw [q3]
        intro y hy hyl
        rcases List.mem_cons.mp hy with rfl | hy
        · exact old3 x List.mem_cons_self hyl
        · exact old3 y (List.mem_cons_of_mem _ hy) hyl
      · rw [q3]
        intro pre u v r' hr
        cases pre with
        | nil =>
          simp only [List.nil_append, List.cons.injEq] at hr
          obtain ⟨rfl, rfl⟩ := hr
          exact c4 [] x v r' rfl
        | cons p pre =>
          simp only [List.cons_append, List.cons.injEq] at hr
          exact c4 (x :: pre) u v r' (by rw [hr.2]; rfl)
    ·
      cases q1
      obtain ⟨e1, -⟩ := fk_do_n hd rfl hb.1
      dsimp only at e1
      refine ⟨?_, ?_, ?_, ?_⟩
      · rw [q2]
        intro hl'
        have hxl : x.2.2.2.1 = true := (c4 [] x w r rfl).trans hl'
        have hcb := c3 x List.mem_cons_self hxl
        rcases e1 with ⟨-, e1⟩ | ⟨e0, e1⟩
        · rw [e1]; exact hcb
        · rw [e1]; exact fk_cc_c (fk_wb54 (c2 x List.mem_cons_self) e0) hcb
      · rw [q2]
        intro y hy
        exact c2 y (List.mem_cons_of_mem _ hy)
      · rw [q2]
        intro y hy hyl
        exact old3 y (List.mem_cons_of_mem _ hy) hyl
      · rw [q2]
        intro pre u v r' hr
        exact c4 (x :: pre) u v r' (by rw [hr]; rfl)
    ·
      cases q1
      refine ⟨?_, ?_, ?_, ?_⟩
      · rw [q2, fk_dd_lv]
        intro q; cases q
      · rw [q2]
        intro y hy
        rcases List.mem_cons.mp hy with rfl | hy
        · exact c2 x List.mem_cons_self
        · exact c2 y (List.mem_cons_of_mem _ hy)
      · rw [q2]
        intro y hy hyl
        rcases List.mem_cons.mp hy with rfl | hy
        · exact old3 x List.mem_cons_self hyl
        · exact old3 y (List.mem_cons_of_mem _ hy) hyl
      · rw [q2]
        intro pre u v r' hr
        cases pre with
        | nil =>
          simp only [List.nil_append, List.cons.injEq] at hr
          obtain ⟨rfl, rfl⟩ := hr
          exact c4 [] x v r' rfl
        | cons p pre =>
          simp only [List.cons_append, List.cons.injEq] at hr
          exact c4 (x :: pre) u v r' (by rw [hr.2]; rfl)
    · refine ⟨?_, ?_, ?_, ?_⟩
      · rw [q1]
        intro hl'
        by_cases h27 : o = 27
        · subst h27
          have hw := fk_wbi (show fk_wb a (x :: l).length = true from hok)
          obtain ⟨b, g1, g2⟩ := fk_bi (show fk_bind (fk_tk 0 (ts, x :: l, q)) (fun k => fk_bind (fk_jump (D.2.2.1 f) 27 a.toNatClampNeg k) (fun k' => match k.2.1.drop a.toNatClampNeg with | [] => .inl 99 | f :: _ => fk_put (fk_need f) k')) = .inr k' from hd)
          obtain ⟨t, tm0, rfl, rfl, g3, -⟩ := fk_tkL hl' (c1 hl') (by decide) hb.1 g1
          obtain ⟨c, g4, g5⟩ := fk_bi g2
          cases hdr : (x :: l).drop a.toNatClampNeg with
          | nil =>
            have := congrArg List.length hdr
            simp at this hw; omega
          | cons fr gs =>
            dsimp only at g5
            rw [hdr] at g5
            have hfrg : fk_wb fr.2.1 5 = true := c2 fr (List.mem_of_mem_drop (by rw [hdr]; exact List.mem_cons_self))
            obtain ⟨tm, g6, g7, rfl⟩ := fk_jumpL hl' (fk_cc_t (c1 hl')) g3 hdr hfrg g4
            obtain ⟨p1, p2⟩ := fk_put_i g5
            dsimp only at p2
            have hcc0 := fk_cc_t (c1 hl')
            rcases g6 with ⟨g6, rfl⟩ | ⟨g6, rfl⟩
            · rcases p2 with ⟨-, p2⟩ | ⟨p2, -⟩
              · rw [p2]; exact hcc0
              · exact absurd g6 p2
            · rcases p2 with ⟨p2, -⟩ | ⟨-, -, p2⟩
              · exact absurd p2 g6
              · rw [p2]; exact hcc0
        · obtain ⟨tm, -, -, -, hcc⟩ := fk_inv hdk hf ht h (by omega) hl' (c1 hl') hb.1
          exact hcc
      · rw [q1]; exact c2
      · rw [q1]; exact old3
      · rw [q1]; exact c4
theorem fk_Cv_tr {D : fk_D} {f : Nat} {K : fk_K} (hdk : fk_dk D) (hf : f < 4) (ht : D.1 f = true) (hg : fk_gd D f K) : ∀ i, i ≤ D.2.2.2.2.2.1 f → fk_Cv (fk_tr D f i)
  | 0, _ => by
    obtain ⟨d1, d2, d3, d4, d5, d6, d7⟩ := hdk f hf ht
    refine ⟨fun _ t ht => (by cases ht), fun x hx => ?_, fun x hx _ t ht => ?_, fun pre x y r hr => ?_⟩
    · have hx' : x ∈ [((0 : Int32), D.2.2.2.1 f, 0, true, false, 0, 0, (-1 : Int32))] := hx
      simp at hx'
      rw [hx']
      exact d4
    · have ht' : t ∈ fk_bt x.2.2.1 [] := ht
      simp [fk_bt] at ht'
    · have hr' : [((0 : Int32), D.2.2.2.1 f, 0, true, false, 0, 0, (-1 : Int32))] = pre ++ x :: y :: r := hr
      have := congrArg List.length hr'
      simp at this
      omega
  | i + 1, h => by
    obtain ⟨d1, d2, d3, d4, d5, d6, d7⟩ := hdk f hf ht
    exact fk_Cv_s hdk hf ht (hg.1 i (by omega)) (d7 i (by omega)) (fk_J_tr hg d7 i (by omega)) (fk_Cv_tr hdk hf ht hg i (by omega))
