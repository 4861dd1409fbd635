def fk_mD (I : fm_MI) (D : fk_D) : Prop := ∀ g, g < 4 → I 32 0 g = fk_b (D.1 g) ∧ (D.1 g = true → I 28 0 g = Int32.ofNat (D.2.1 g) ∧ I 29 0 g = Int32.ofNat (D.2.2.1 g) ∧ I 31 0 g = D.2.2.2.1 g ∧ I 27 0 g = Int32.ofNat (D.2.2.2.2.2.1 g) ∧ (∀ j, j < D.2.2.1 g → I 30 0 (g * 6 + j) = D.2.2.2.2.1 g j) ∧ ∀ i, i < D.2.2.2.2.2.1 g → I 25 0 (g * 40 + i) = Int32.ofNat (D.2.2.2.2.2.2.1 g i) ∧ I 26 0 (g * 40 + i) = D.2.2.2.2.2.2.2 g i)
def fk_dk (D : fk_D) : Prop := ∀ g, g < 4 → D.1 g = true → D.2.1 g ≤ 3 ∧ D.2.1 g ≤ D.2.2.1 g ∧ D.2.2.1 g ≤ 6 ∧ fk_wb (D.2.2.2.1 g) 5 = true ∧ D.2.2.2.2.2.1 g ≤ 40 ∧ (∀ j, j < D.2.2.1 g → fk_wb (D.2.2.2.2.1 g j) 4 = true) ∧ ∀ i, i < D.2.2.2.2.2.1 g → D.2.2.2.2.2.2.1 g i ≤ 30
def fk_fD (F : fm_MI) : List fk_F → Prop
  | [] => True
  | f :: r => (F 36 0 r.length = Int32.ofNat f.2.2.1 ∧ F 37 0 r.length = f.2.1 ∧ F 38 0 r.length = f.1 ∧ F 39 0 r.length = fk_b f.2.2.2.2.1) ∧ fk_fD F r
def fk_frD (I0 I : fm_MI) : Prop := ∀ k i s, (k < 35 ∨ 39 < k) → (k = 24 → i = 0 → s ≠ 15 ∧ s ≠ 16 ∧ s ≠ 17) → I k i s = I0 k i s
def fk_CD (I : fm_MI) (k : fk_K) : Prop := I 24 0 17 = 0 ∧ I 24 0 15 = Int32.ofNat k.1.length ∧ k.1.length ≤ 20 ∧ fk_stk (I 35 0) k.1 ∧ 1 ≤ k.2.1.length ∧ k.2.1.length ≤ 9 ∧ fk_fD I k.2.1 ∧ fk_bs k.1.length k.2.1 ∧ ∀ t ∈ k.1, t ≠ 4
def fk_T (I0 I : fm_MI) (x : Int32 ⊕ fk_K) : Prop := fk_frD I0 I ∧ (∃ o, 1 ≤ o ∧ o ≤ 9 ∧ I 24 0 16 = Int32.ofNat o ∧ ∀ k, x = .inr k → k.2.1.length = o) ∧ match x with | .inl c => I 24 0 17 = c ∧ ¬ c ≤ 0 | .inr k => fk_CD I k
theorem fk_fD_c {T T' : fm_MI} : ∀ {l : List fk_F}, (∀ k j, 36 ≤ k → k ≤ 39 → j < l.length → T' k 0 j = T k 0 j) → fk_fD T l → fk_fD T' l
  | [], _, _ => trivial
  | t :: r, h, ⟨⟨h1, h2, h3, h4⟩, h8⟩ => ⟨⟨(h _ _ (by omega) (by omega) (by simp)).trans h1, (h _ _ (by omega) (by omega) (by simp)).trans h2, (h _ _ (by omega) (by omega) (by simp)).trans h3, (h _ _ (by omega) (by omega) (by simp)).trans h4⟩, fk_fD_c (fun k j a b hj => h k j a b (by simp; omega)) h8⟩
theorem fk_frD24 {I0 I : fm_MI} (h : fk_frD I0 I) {s : Nat} (x : Int32) (hs : s = 15 ∨ s = 16 ∨ s = 17) : fk_frD I0 (fm_u I 24 0 s x) := by
  intro k i s' q1 q2
  rw [fm_u_if, if_neg]
  · exact h k i s' q1 q2
  · rintro ⟨rfl, rfl, rfl⟩
    have := q2 rfl rfl
    omega
theorem fk_frDa {I0 I : fm_MI} (h : fk_frD I0 I) {k : Nat} (i s : Nat) (x : Int32) (hk : 35 ≤ k ∧ k ≤ 39) : fk_frD I0 (fm_u I k i s x) := by
  intro k' i' s' q1 q2
  rw [fk_u_ne I _ _ (by omega)]
  exact h k' i' s' q1 q2
theorem fk_CDh {I : fm_MI} {ts : List Int32} {q : List fk_F × Nat × fk_R} (h : fk_CD I (ts, q)) {ts' : List Int32} (h20 : ts'.length ≤ 20) (hs : fk_stk (I 35 0) ts') (hb : fk_bs ts'.length q.1) (h44 : ∀ t ∈ ts', t ≠ 4) : fk_CD (fm_u I 24 0 15 (Int32.ofNat ts'.length)) (ts', q) := by
  obtain ⟨a1, a2, a3, a4, a5, a6, a7, a8, a9⟩ := h
  exact ⟨(fk_u_ns I _ _ (by decide)).trans a1, fk_u_eq I, h20, fk_stk_c (fun j _ => fk_u_ne I _ _ (by decide)) hs, a5, a6, fk_fD_c (fun k j h1 h2 _ => fk_u_ne I _ _ (by omega)) a7, hb, h44⟩
theorem fk_T17 {I0 I : fm_MI} {x : Int32 ⊕ fk_K} (hx : fk_T I0 I x) (c : Int32) (hc : ¬ c ≤ 0) : fk_T I0 (fm_u I 24 0 17 c) (.inl c) := by
  obtain ⟨h1, ⟨o, h2, h3, h4, -⟩, -⟩ := hx
  exact ⟨fk_frD24 h1 _ (by omega), ⟨o, h2, h3, (fk_u_ns I _ _ (by decide)).trans h4, fun k q => by cases q⟩, fk_u_eq I, hc⟩
theorem fk_ft {I0 I : fm_MI} {x : Int32 ⊕ fk_K} (hx : fk_T I0 I x) : (I 24 0 17 ≤ 0 ↔ ∃ k, x = .inr k) ∧ (I 24 0 17 = 0 ↔ ∃ k, x = .inr k) := by
  obtain ⟨-, -, h⟩ := hx
  rcases x with c | k
  · refine ⟨⟨fun q => absurd (h.1 ▸ q) h.2, fun ⟨k, q⟩ => by cases q⟩, ⟨fun q => ?_, fun ⟨k, q⟩ => by cases q⟩⟩
    rw [h.1] at q
    rw [q] at h
    exact absurd (by decide) h.2
  · refine ⟨⟨fun _ => ⟨k, rfl⟩, fun _ => ?_⟩, ⟨fun _ => ⟨k, rfl⟩, fun _ => h.1⟩⟩
    rw [h.1]
    decide
theorem fk_take_T {I0 I : fm_MI} {x : Int32 ⊕ fk_K} {w : Int32} (h4 : w ≠ 4) (hx : fk_T I0 I x) : fmD_take_p I ∧ fk_T I0 (fmD_take_f I w).2 (fk_bind x (fk_tk w)) ∧ ∀ k t k', x = .inr k → fk_take w k = .inr (t, k') → (fmD_take_f I w).1 = t := by
  have hft := (fk_ft hx).1
  obtain ⟨h1, ⟨o, h2, h3, h5, h6⟩, h⟩ := id hx
  rcases x with c | ⟨ts, fs, L, R⟩
  · have h0 : ¬ I 24 0 17 ≤ 0 := fun q => by obtain ⟨k, q⟩ := hft.mp q; cases q
    refine ⟨⟨fun q => absurd q h0, fun _ => trivial⟩, ?_, fun k t k' q => by cases q⟩
    unfold fmD_take_f
    rw [if_neg h0]
    exact hx
  · have h0 : I 24 0 17 ≤ 0 := hft.mpr ⟨_, rfl⟩
    have hlen := h6 _ rfl
    obtain ⟨a1, a2, a3, a4, a5, a6, a7, a8, a9⟩ := id h
    dsimp only at hlen a1 a2 a3 a4 a5 a6 a7 a8 a9
    cases fs with
    | nil => simp at a5
    | cons fr fs =>
      have ho : o = fs.length + 1 := by simpa using hlen.symm
      subst ho
      have e16 : I 24 0 16 - 1 = Int32.ofNat fs.length := by rw [h5, fk_d (by omega)]; rfl
      unfold fmD_take_p fmD_take_f fk_tk fk_take
      obtain ⟨⟨c1, c2, c3, c4⟩, c5⟩ := a7
      obtain ⟨d1, d2⟩ := a8
      rw [e16, fk_cl (show fs.length < 2147483648 by omega), c1, c4, a2]
      simp only [if_pos h0, fk_bind, if_neg h4]
      have hv : vp_in (Int32.ofNat fs.length) 12 := (fk_in (by omega)).mpr (by omega)
      have e2 := fk_ie (a := ts.length) (b := fr.2.2.1) (by omega) (by omega)
      by_cases hb : ts.length = fr.2.2.1
      · have hb' := e2.mpr hb
        simp only [if_pos hb, if_pos hb']
        refine ⟨⟨fun _ => ⟨hv, fun _ => hv, fun q => absurd hb' q⟩, fun q => absurd h0 q⟩, ?_⟩
        cases hd : fr.2.2.2.2.1 with
        | false =>
          simp only [fk_b, cond_false, if_true, Bool.false_eq_true, if_false]
          refine ⟨fk_T17 hx 2 (by decide), fun k t k' q1 q2 => ?_⟩
          cases q1
          simp [h4, hb, hd] at q2
        | true =>
          simp only [fk_b, cond_true, if_true, show ¬ ((1 : Int32) = 0) by decide, if_false]
          refine ⟨hx, fun k t k' q1 q2 => ?_⟩
          cases q1
          simp [h4, hb, hd] at q2
          exact q2.1
      · have hb' : ¬ _ := fun q => hb (e2.mp q)
        simp only [if_neg hb, if_neg hb']
        cases ts with
        | nil => simp at hb d1; omega
        | cons t r =>
          obtain ⟨s1, s2⟩ := a4
          have f1 : Int32.ofNat (t :: r).length - 1 = Int32.ofNat r.length := by rw [fk_d (by simp)]; simp
          have f2 : r.length < 20 := by simp at a3; omega
          have f3 : fr.2.2.1 ≤ r.length := by simp at hb d1; omega
          rw [f1, fk_cl (by omega), s1]
          refine ⟨⟨fun _ => ⟨hv, fun q => absurd q hb', fun _ => (fk_in (by omega)).mpr (by omega)⟩, fun q => absurd h0 q⟩, ?_⟩
          have hC : fk_T I0 (fm_u I 24 0 15 (Int32.ofNat r.length)) (.inr (r, fr :: fs, L, R)) := ⟨fk_frD24 h1 _ (by omega), ⟨fs.length + 1, h2, h3, (fk_u_ns I _ _ (by decide)).trans h5, fun k q => by cases q; rfl⟩, fk_CDh h (by omega) s2 ⟨f3, d2⟩ (fun t ht => a9 t (List.mem_cons_of_mem _ ht))⟩
          simp at hb
          by_cases g2 : w = 5
          · simp only [if_pos g2]
            by_cases g1 : t = 5
            · simp only [if_pos g1]
              refine ⟨hC, fun k t' k' q1 q2 => ?_⟩
              cases q1
              simp [h4, hb, g1, g2] at q2
              exact g2.trans q2.1
            · simp only [if_neg g1]
              refine ⟨hC, fun k t' k' q1 q2 => ?_⟩
              cases q1
              simp [h4, hb, g1, g2] at q2
              exact q2.1
          · simp only [if_neg g2]
            by_cases g1 : t = 5
            · simp only [if_pos g1]
              refine ⟨hC, fun k t' k' q1 q2 => ?_⟩
              cases q1
              simp [h4, hb, g1, g2] at q2
              exact q2.1
            · simp only [if_neg g1]
              by_cases g3 : t = w
              · simp only [if_pos g3, if_pos g3.symm]
                refine ⟨hC, fun k t' k' q1 q2 => ?_⟩
                cases q1
                simp [h4, hb, g1, g2, g3] at q2
                exact g3.trans q2.1
              · simp only [if_neg g3, if_neg (Ne.symm g3)]
                refine ⟨fk_T17 hC 3 (by decide), fun k t' k' q1 q2 => ?_⟩
                cases q1
                simp [h4, hb, g1, g2, Ne.symm g3] at q2
theorem fk_put_T {I0 I : fm_MI} {x : Int32 ⊕ fk_K} {t : Int32} (h4 : t ≠ 4) (hx : fk_T I0 I x) : fmD_put_p I ∧ fk_T I0 (fmD_put_f I t) (fk_bind x (fk_put t)) := by
  have hft := (fk_ft hx).1
  obtain ⟨h1, ⟨o, h2, h3, h5, h6⟩, h⟩ := id hx
  rcases x with c | ⟨ts, fs, L, R⟩
  · have h0 : ¬ I 24 0 17 ≤ 0 := fun q => by obtain ⟨k, q⟩ := hft.mp q; cases q
    refine ⟨⟨fun q => absurd q h0, fun _ => trivial⟩, ?_⟩
    unfold fmD_put_f
    rw [if_neg h0]
    exact hx
  · have h0 : I 24 0 17 ≤ 0 := hft.mpr ⟨_, rfl⟩
    have hlen := h6 _ rfl
    obtain ⟨a1, a2, a3, a4, a5, a6, a7, a8, a9⟩ := id h
    dsimp only at hlen a1 a2 a3 a4 a5 a6 a7 a8 a9
    unfold fmD_put_p fmD_put_f fk_put
    rw [a2]
    simp only [if_pos h0, fk_bind, if_neg h4]
    have e := fk_ie (a := ts.length) (b := 20) (by omega) (by omega)
    by_cases h20 : ts.length = 20
    · have h6 : Int32.ofNat ts.length = 20 := e.mpr h20
      simp only [if_pos h20, if_pos h6]
      exact ⟨⟨fun _ => ⟨fun _ => trivial, fun q => absurd h6 q⟩, fun q => absurd h0 q⟩, fk_T17 hx 7 (by decide)⟩
    · have h6' : ¬ Int32.ofNat ts.length = 20 := fun q => h20 (e.mp q)
      simp only [if_neg h20, if_neg h6']
      refine ⟨⟨fun _ => ⟨fun _ => trivial, fun _ => (fk_in (by omega)).mpr (by omega)⟩, fun q => absurd h0 q⟩, ?_⟩
      rw [fk_cl (by omega), fk_s]
      have hC : fk_CD (fm_u I 35 0 ts.length t) (ts, fs, L, R) := ⟨(fk_u_ne I _ _ (by decide)).trans a1, (fk_u_ne I _ _ (by decide)).trans a2, a3, fk_stk_c (fun j hj => fk_u_ns I _ _ (by have : j < ts.length := hj; omega)) a4, a5, a6, fk_fD_c (fun k j h1 h2 _ => fk_u_ne I _ _ (by omega)) a7, a8, a9⟩
      refine ⟨fk_frD24 (fk_frDa h1 _ _ _ (by omega)) _ (by omega), ⟨o, h2, h3, ?_, fun k q => by cases q; exact hlen⟩, fk_CDh (ts' := t :: ts) hC (by simp; omega) ⟨fk_u_eq I, hC.2.2.2.1⟩ ?_ (fun u hu => by rcases List.mem_cons.mp hu with rfl | hu; exact h4; exact a9 u hu)⟩
      · rw [fk_u_ns _ _ _ (by decide), fk_u_ne _ _ _ (by decide)]; exact h5
      · cases fs with
        | nil => trivial
        | cons fr fs => exact ⟨by have := a8.1; simp; omega, a8.2⟩
theorem fk_die_T {I0 I : fm_MI} {x : Int32 ⊕ fk_K} (hx : fk_T I0 I x) : fmD_die_p I ∧ fk_T I0 (fmD_die_f I) (fk_bind x (fun k => .inr (fk_die k))) := by
  have hft := (fk_ft hx).1
  obtain ⟨h1, ⟨o, h2, h3, h5, h6⟩, h⟩ := id hx
  have e16 : I 24 0 16 - 1 = Int32.ofNat (o - 1) := by rw [h5, fk_d (by omega)]
  have hv : vp_in (I 24 0 16 - 1) 12 := by rw [e16]; exact (fk_in (by omega)).mpr (by omega)
  refine ⟨⟨fun _ => ⟨hv, hv⟩, fun _ => trivial⟩, ?_⟩
  unfold fmD_die_f
  rcases x with c | ⟨ts, fs, L, R⟩
  · have h0 : ¬ I 24 0 17 ≤ 0 := fun q => by obtain ⟨k, q⟩ := hft.mp q; cases q
    rw [if_neg h0]
    exact hx
  · have h0 : I 24 0 17 ≤ 0 := hft.mpr ⟨_, rfl⟩
    have hlen := h6 _ rfl
    rw [if_pos h0, e16, fk_cl (by omega)]
    obtain ⟨a1, a2, a3, a4, a5, a6, a7, a8, a9⟩ := id h
    dsimp only at hlen a1 a2 a3 a4 a5 a6 a7 a8 a9
    cases fs with
    | nil => simp at a5
    | cons fr fs =>
      have ho : o = fs.length + 1 := by simpa using hlen.symm
      subst ho
      obtain ⟨⟨c1, c2, c3, c4⟩, c5⟩ := a7
      obtain ⟨kd, gv, b, lv, de, ia, st, br⟩ := fr
      dsimp only at c1 c2 c3 c4
      have e' : fs.length + 1 - 1 = fs.length := by omega
      rw [e', c1]
      have hb := a8.1
      dsimp only at hb
      have hl : (ts.drop (ts.length - b)).length = b := by simp; omega
      have hC := fk_CDh (ts' := ts.drop (ts.length - b)) h (by omega) (fk_stk_drop _ a4) ⟨by rw [hl]; exact Nat.le_refl _, a8.2⟩ (fun t ht => a9 t (List.mem_of_mem_drop ht))
      rw [hl] at hC
      refine ⟨fk_frDa (fk_frD24 h1 _ (by omega)) _ _ _ (by omega), ⟨fs.length + 1, h2, h3, ?_, fun k q => by cases q; rfl⟩, ?_⟩
      · rw [fk_u_ne _ _ _ (by decide), fk_u_ns _ _ _ (by decide)]; exact h5
      · obtain ⟨z1, z2, z3, z4, z5, z6, z7, z8, z9⟩ := hC
        simp only [fk_bind, fk_die]
        refine ⟨(fk_u_ne _ _ _ (by decide)).trans z1, (fk_u_ne _ _ _ (by decide)).trans z2, z3, fk_stk_c (fun j _ => fk_u_ne _ _ _ (by decide)) z4, by simp, a6, ⟨?_, ?_⟩, z8, z9⟩
        · simp only [fm_u_if]
          simp [c1, c2, c3, fk_b]
        · refine fk_fD_c (fun k j q1 q2 hj => ?_) z7.2
          rw [fk_u_ns _ _ _ (by omega)]
theorem fk_beg_T {I0 I : fm_MI} {x : Int32 ⊕ fk_K} (i : Nat) (op t br : Int32) (hx : fk_T I0 I x) : fmD_begin_p I ∧ fk_T I0 (fmD_begin_f I op t) (fk_bind x (fk_open i op t br)) := by
  have hft := (fk_ft hx).1
  obtain ⟨h1, ⟨o, h2, h3, h5, h6⟩, h⟩ := id hx
  unfold fmD_begin_p fmD_begin_f
  rw [h5, fk_cl (show o < 2147483648 by omega), fk_s]
  have hv : vp_in (Int32.ofNat o) 12 := (fk_in (by omega)).mpr (by omega)
  refine ⟨⟨fun _ => ⟨fun _ => trivial, fun _ => ⟨hv, hv, hv, hv⟩⟩, fun _ => trivial⟩, ?_⟩
  rcases x with c | ⟨ts, fs, L, R⟩
  · have h0 : ¬ I 24 0 17 ≤ 0 := fun q => by obtain ⟨k, q⟩ := hft.mp q; cases q
    rw [if_neg h0]
    exact hx
  · have h0 : I 24 0 17 ≤ 0 := hft.mpr ⟨_, rfl⟩
    have hlen := h6 _ rfl
    rw [if_pos h0]
    obtain ⟨a1, a2, a3, a4, a5, a6, a7, a8, a9⟩ := id h
    dsimp only at hlen a1 a2 a3 a4 a5 a6 a7 a8 a9
    subst hlen
    simp only [fk_bind, fk_open]
    have e := fk_ie (a := fs.length) (b := 9) (by omega) (by omega)
    by_cases h9 : fs.length = 9
    · rw [if_pos (show Int32.ofNat fs.length = 9 from e.mpr h9), if_pos h9]
      exact fk_T17 hx 7 (by decide)
    · rw [if_neg (show ¬ Int32.ofNat fs.length = 9 from fun q => h9 (e.mp q)), if_neg h9, a2]
      refine ⟨fk_frD24 (fk_frDa (fk_frDa (fk_frDa (fk_frDa h1 _ _ _ (by omega)) _ _ _ (by omega)) _ _ _ (by omega)) _ _ _ (by omega)) _ (by omega), ⟨fs.length + 1, by omega, by omega, fk_u_eq _, fun k q => by cases q; rfl⟩, ?_⟩
      refine ⟨?_, ?_, a3, ?_, by simp, by simp; omega, ⟨?_, ?_⟩, ⟨Nat.le_refl _, a8⟩, a9⟩
      · simp only [fm_u_if]; simpa using a1
      · simp only [fm_u_if]; simpa using a2
      · exact fk_stk_c (fun j _ => by simp only [fm_u_if]; simp) a4
      · simp only [fm_u_if]; simp [fk_b]
      · refine fk_fD_c (fun k j q1 q2 hj => ?_) a7
        have : ¬ j = fs.length := by omega
        have : ¬ k = 24 := by omega
        simp only [fm_u_if]; simp [*]
theorem fk_o_T {I0 I : fm_MI} {ts : List Int32} {fr : fk_F} {fs : List fk_F} {q : Nat × fk_R} (hx : fk_T I0 I (.inr (ts, fr :: fs, q))) : I 24 0 16 = Int32.ofNat (fs.length + 1) ∧ fs.length + 1 ≤ 9 ∧ I 24 0 16 - 1 = Int32.ofNat fs.length ∧ (I 24 0 16 - 1).toNatClampNeg = fs.length ∧ vp_in (I 24 0 16 - 1) 12 := by
  obtain ⟨h1, ⟨o, h2, h3, h5, h6⟩, h⟩ := hx
  have hlen := h6 _ rfl
  dsimp only at hlen
  have ho : o = fs.length + 1 := by simpa using hlen.symm
  subst ho
  have e16 : I 24 0 16 - 1 = Int32.ofNat fs.length := by rw [h5, fk_d (by omega)]; rfl
  exact ⟨h5, h3, e16, by rw [e16]; exact fk_cl (by omega), by rw [e16]; exact (fk_in (by omega)).mpr (by omega)⟩
theorem fk_tkk {w : Int32} {k : fk_K} : fk_tk 4 k = .inr k := by
  unfold fk_tk fk_take fk_bind
  simp
theorem fk_fin_T {I0 I : fm_MI} {k : fk_K} (hx : fk_T I0 I (.inr k)) : fmD_finish_p I ∧ fk_T I0 (fmD_finish_f I) (fk_just k) := by
  obtain ⟨ts, fs, q⟩ := k
  cases fs with
  | nil => exact absurd hx.2.2.2.2.2.2.1 (by simp)
  | cons fr fs =>
    obtain ⟨o1, o2, o3, o4, o5⟩ := fk_o_T hx
    have hC := hx.2.2
    have c := hC.2.2.2.2.2.2.1.1
    unfold fmD_finish_p fmD_finish_f fm_let
    rw [o4, c.2.1, c.1]
    have h20 := hC.2.2.1
    have hb := hC.2.2.2.2.2.2.2.1.1
    dsimp only at h20 hb
    by_cases h4 : fr.2.1 = 4
    · rw [if_pos h4, if_pos hC.1, hC.2.1]
      refine ⟨⟨o5, fun _ => ⟨fun _ => o5, fun _ => trivial⟩, fun q => absurd h4 q⟩, ?_⟩
      simp only [fk_just, h4]
      rw [fk_tkk (w := 4)]
      simp only [fk_bind]
      have e := fk_le (a := ts.length) (b := fr.2.2.1) (by omega) (by omega)
      by_cases hl : ts.length ≤ fr.2.2.1
      · rw [if_pos (e.mpr hl), if_neg (by omega)]
        exact hx
      · rw [if_neg (fun q => hl (e.mp q)), if_pos (by omega)]
        exact fk_T17 hx 4 (by decide)
    · rw [if_neg h4]
      obtain ⟨t1, t2, -⟩ := fk_take_T h4 hx
      have hft := (fk_ft t2).2
      have htk : fk_bind (.inr (ts, fr :: fs, q)) (fk_tk fr.2.1) = fk_tk fr.2.1 (ts, fr :: fs, q) := rfl
      rw [htk] at t2 hft
      generalize fmD_take_f I fr.2.1 = r at t2 hft ⊢
      dsimp only
      simp only [fk_just]
      cases hk : fk_tk fr.2.1 (ts, fr :: fs, q) with
      | inl c' =>
        rw [hk] at t2 hft
        have h0 : ¬ r.2 24 0 17 = 0 := fun q => by obtain ⟨k, q⟩ := hft.mp q; cases q
        rw [if_neg h0]
        exact ⟨⟨o5, fun q => absurd q h4, fun _ => ⟨o5, t1, fun q => absurd q h0, fun _ => trivial⟩⟩, t2⟩
      | inr k' =>
        rw [hk] at t2 hft
        obtain ⟨ts', fs', q'⟩ := k'
        obtain ⟨z1, z2, -⟩ := fk_tk_i hk
        subst z1; subst z2
        have h0 : r.2 24 0 17 = 0 := hft.mpr ⟨_, rfl⟩
        obtain ⟨p1, p2, p3, p4, p5⟩ := fk_o_T t2
        have hC' := t2.2.2
        rw [if_pos h0, p4, hC'.2.1, hC'.2.2.2.2.2.2.1.1.1]
        refine ⟨⟨o5, fun q => absurd q h4, fun _ => ⟨o5, t1, fun _ => p5, fun _ => trivial⟩⟩, ?_⟩
        have h20' := hC'.2.2.1
        dsimp only at h20'
        simp only [fk_bind]
        have e := fk_le (a := ts'.length) (b := fr.2.2.1) (by omega) (by omega)
        by_cases hl : ts'.length ≤ fr.2.2.1
        · rw [if_pos (e.mpr hl), if_neg (by omega)]
          exact t2
        · rw [if_neg (fun q => hl (e.mp q)), if_pos (by omega)]
          exact fk_T17 t2 4 (by decide)
def fk_pr (f : fk_F) : Int32 × Int32 × Nat × Bool := (f.1, f.2.1, f.2.2.1, f.2.2.2.2.1)
theorem fk_fD_pr {F : fm_MI} : ∀ {l m : List fk_F}, l.map fk_pr = m.map fk_pr → fk_fD F l → fk_fD F m
  | [], [], _, h => h
  | [], _ :: _, h, _ => by simp at h
  | _ :: _, [], h, _ => by simp at h
  | a :: l, b :: m, h, hF => by
    simp only [List.map_cons, List.cons.injEq] at h
    have hl : l.length = m.length := by simpa using congrArg List.length h.2
    have e := h.1
    simp only [fk_pr, Prod.mk.injEq] at e
    refine ⟨?_, fk_fD_pr h.2 hF.2⟩
    rw [← hl, ← e.1, ← e.2.1, ← e.2.2.1, ← e.2.2.2]
    exact hF.1
theorem fk_bs_pr : ∀ {l m : List fk_F} {n : Nat}, l.map fk_pr = m.map fk_pr → fk_bs n l → fk_bs n m
  | [], [], _, _, h => h
  | [], _ :: _, _, h, _ => by simp at h
  | _ :: _, [], _, h, _ => by simp at h
  | a :: l, b :: m, n, h, hF => by
    simp only [List.map_cons, List.cons.injEq] at h
    have e := h.1
    simp only [fk_pr, Prod.mk.injEq] at e
    refine ⟨?_, ?_⟩
    · rw [← e.2.2.1]; exact hF.1
    · rw [← e.2.2.1]; exact fk_bs_pr h.2 hF.2
theorem fk_T_q {I0 I : fm_MI} {k l : fk_K} (h : fk_T I0 I (.inr k)) (e1 : k.1 = l.1) (e2 : k.2.1.map fk_pr = l.2.1.map fk_pr) : fk_T I0 I (.inr l) := by
  obtain ⟨h1, ⟨o, h2, h3, h5, h6⟩, h⟩ := h
  have hl : k.2.1.length = l.2.1.length := by simpa using congrArg List.length e2
  refine ⟨h1, ⟨o, h2, h3, h5, fun k' q => ?_⟩, ?_⟩
  · cases q
    rw [← hl]
    exact h6 _ rfl
  · obtain ⟨a1, a2, a3, a4, a5, a6, a7, a8, a9⟩ := h
    refine ⟨a1, ?_, ?_, ?_, ?_, ?_, fk_fD_pr e2 a7, ?_, ?_⟩
    · rw [← e1]; exact a2
    · rw [← e1]; exact a3
    · rw [← e1]; exact a4
    · rw [← hl]; exact a5
    · rw [← hl]; exact a6
    · rw [← e1]; exact fk_bs_pr e2 a8
    · rw [← e1]; exact a9
theorem fk_row_T {I0 I : fm_MI} {x : Int32 ⊕ fk_K} (nl : Nat) (op a : Int32) (h : fk_T I0 I x) : fk_T I0 I (fk_bind x (fun k => .inr (fk_row nl op a k))) := by
  cases x with
  | inl c => exact h
  | inr k =>
    obtain ⟨e1, e2⟩ := fk_row_fs nl op a k
    exact fk_T_q h e1.symm (by rw [e2])
theorem fk_wr_T {I0 I : fm_MI} {k : fk_K} (hx : fk_T I0 I (.inr k)) (c : Int32) (hc : ¬ c ≤ 0) : fk_T I0 (fmD_wrong_f I c) (.inl c) := by
  unfold fmD_wrong_f
  rw [if_pos ((fk_ft hx).2.mpr ⟨_, rfl⟩)]
  exact fk_T17 hx c hc
theorem fk_inD (a : Int32) {m : Nat} (h : m < 1000) : fmD_in_f a 0 (Int32.ofNat m - 1) = fk_b (fk_wb a m) := fk_isw a h
theorem fk_wb4 {t : Int32} (h : fk_wb t 4 = true) : t ≠ 4 := by
  rintro rfl
  revert h
  decide
theorem fk_pq {P P' Q : Prop} (h : P → P') (hh : P ∧ Q) : P' ∧ Q := ⟨h hh.1, hh.2⟩
theorem fk_letI {α : Type} {x : α} {f : α → Prop} (h : f x) : fm_let x f := h
theorem fk_here_fs (w : Int32) (k : fk_K) : (fk_here w k).1 = k.1 ∧ (fk_here w k).2.1 = k.2.1 := by
  obtain ⟨ts, fs, L, r1, r2, r3, r4, r5, r6⟩ := k
  unfold fk_here
  dsimp only
  split <;> exact ⟨rfl, rfl⟩
theorem fk_jmz_fs (nl o : Nat) (op : Int32) (f : fk_F) (k : fk_K) : (fk_jmz nl o op f k).1 = k.1 ∧ (fk_jmz nl o op f k).2.1 = k.2.1 := by
  obtain ⟨e1, e2⟩ := fk_row_fs nl op 0 k
  unfold fk_jmz
  split
  · split
    · split
      · exact ⟨e1, e2⟩
      · exact ⟨e1, e2⟩
    · split
      · exact ⟨e1, e2⟩
      · exact ⟨e1, e2⟩
  · exact ⟨rfl, rfl⟩
theorem fk_fD_at {F : fm_MI} : ∀ {l : List fk_F} {a : Nat} {fr : fk_F} {fs : List fk_F}, fk_fD F l → l.drop a = fr :: fs → F 36 0 fs.length = Int32.ofNat fr.2.2.1 ∧ F 37 0 fs.length = fr.2.1 ∧ F 38 0 fs.length = fr.1
  | [], a, fr, fs, _, h => by simp at h
  | x :: r, 0, fr, fs, hF, h => by
    simp at h
    obtain ⟨rfl, rfl⟩ := h
    exact ⟨hF.1.1, hF.1.2.1, hF.1.2.2.1⟩
  | x :: r, a + 1, fr, fs, hF, h => fk_fD_at hF.2 (by simpa using h)
theorem fk_pop_T {I0 I : fm_MI} {k : fk_K} (hx : fk_T I0 I (.inr k)) (h2 : 2 ≤ k.2.1.length) : fk_T I0 (fm_u I 24 0 16 (I 24 0 16 - 1)) (.inr (fk_pop k)) := by
  obtain ⟨ts, fs, q⟩ := k
  obtain ⟨h1, ⟨o, h2', h3, h5, h6⟩, h⟩ := hx
  have hlen := h6 _ rfl
  dsimp only at hlen h2
  cases fs with
  | nil => simp at h2
  | cons fr fs =>
    cases fs with
    | nil => simp at h2
    | cons g gs =>
      have ho : o = gs.length + 2 := by simpa using hlen.symm
      subst ho
      have e16 : I 24 0 16 - 1 = Int32.ofNat (gs.length + 1) := by rw [h5, fk_d (by omega)]; rfl
      rw [e16]
      obtain ⟨a1, a2, a3, a4, a5, a6, a7, a8, a9⟩ := h
      refine ⟨fk_frD24 h1 _ (by omega), ⟨gs.length + 1, by omega, by omega, fk_u_eq I, fun k q => by cases q; rfl⟩, ?_⟩
      exact ⟨(fk_u_ns I _ _ (by decide)).trans a1, (fk_u_ns I _ _ (by decide)).trans a2, a3, fk_stk_c (fun j _ => fk_u_ne I _ _ (by decide)) a4, by simp [fk_pop], by simp [fk_pop]; omega, fk_fD_c (fun k j h1 h2 _ => fk_u_ne I _ _ (by omega)) a7.2, ⟨Nat.le_trans a8.2.1 a8.1, a8.2.2⟩, a9⟩
theorem fk_mem {g j : Nat} (a : Int32) (hg : g < 4) (ha : a = Int32.ofNat j) (hj : j < 6) : Int32.ofNat g * 6 + a = Int32.ofNat (g * 6 + j) ∧ (Int32.ofNat g * 6 + a).toNatClampNeg = g * 6 + j ∧ vp_in (Int32.ofNat g * 6 + a) 24 := by
  have e : Int32.ofNat g * 6 + a = Int32.ofNat (g * 6 + j) := by
    rw [ha, Int32.ofNat_add, Int32.ofNat_mul]; rfl
  rw [e]
  exact ⟨rfl, fk_cl (by omega), (fk_in (by omega)).mpr (by omega)⟩
theorem fk_pars_T (J : fm_MJ) (G : fm_MG) (pa pb : Nat × Nat) {I0 : fm_MI} {nl g : Nat} (a : Int32) {ty : Nat → Int32} {rs : Int32} (hg : g < 4) (hr : I0 31 0 g = rs) :
    ∀ (m q : Nat) (I : fm_MI) (x : Int32 ⊕ fk_K), m < q → m ≤ 6 → (∀ j, j < m → I0 30 0 (g * 6 + j) = ty j ∧ ty j ≠ 4) → fk_T I0 I x →
    fmD_checkCall_L23_p q I J G pa pb (Int32.ofNat g) (Int32.ofNat m - 1) ∧ fk_T I0 (fmD_checkCall_L23_f q I J G pa pb (Int32.ofNat g) (Int32.ofNat m - 1)) (fk_bind x (fun k => fk_bind (fk_pars ty m k) (fun k => fk_put rs (fk_row nl 29 a k))))
  | _, 0, _, _, h, _, _, _ => by omega
  | 0, q + 1, I, x, _, _, ht, hx => by
    unfold fmD_checkCall_L23_p fmD_checkCall_L23_f fm_let
    have h0 : Int32.ofNat 0 - 1 < 0 := by decide
    rw [if_pos h0, fk_cl (show g < 2147483648 by omega)]
    have h31 : I 31 0 g = rs := (hx.1 31 0 g (Or.inl (by decide)) (fun q => absurd q (by decide))).trans hr
    have hv : vp_in (Int32.ofNat g) 4 := (fk_in (by omega)).mpr hg
    have hrow := fk_row_T nl 29 a hx
    rw [h31]
    have e : fk_bind x (fun k => fk_bind (fk_pars ty 0 k) (fun k => fk_put rs (fk_row nl 29 a k))) = fk_bind (fk_bind x (fun k => .inr (fk_row nl 29 a k))) (fk_put rs) := by
      rw [fk_bb]; rfl
    rw [e]
    by_cases h4 : rs = 4
    · rw [if_pos h4]
      refine ⟨⟨fun _ => ⟨hv, fun _ => trivial, fun q => absurd h4 q⟩, fun q => absurd h0 q⟩, ?_⟩
      subst h4
      cases x with
      | inl c => exact hx
      | inr k => simpa [fk_bind, fk_put] using hrow
    · rw [if_neg h4]
      obtain ⟨c1, c2⟩ := fk_put_T h4 hrow
      exact ⟨⟨fun _ => ⟨hv, fun q => absurd q h4, fun _ => ⟨hv, c1⟩⟩, fun q => absurd h0 q⟩, c2⟩
  | m + 1, q + 1, I, x, h1, h6, ht, hx => by
    unfold fmD_checkCall_L23_p fmD_checkCall_L23_f fm_let
    have e : Int32.ofNat (m + 1) - 1 = Int32.ofNat m := by rw [fk_d (by omega)]; rfl
    have e2 : Int32.ofNat m + (-1) = Int32.ofNat m - 1 := by rw [Int32.sub_eq_add_neg]
    have h0 : ¬ Int32.ofNat m < 0 := fk_nn (by omega)
    obtain ⟨m1, m2, m3⟩ := fk_mem (Int32.ofNat m) hg rfl (by omega)
    rw [e, if_neg h0, e2, m2]
    have h3 : I 30 0 (g * 6 + m) = ty m := (hx.1 30 0 _ (Or.inl (by decide)) (fun q => absurd q (by decide))).trans (ht m (by omega)).1
    rw [h3]
    obtain ⟨t1, t2, -⟩ := fk_take_T (ht m (by omega)).2 hx
    obtain ⟨p1, p2⟩ := fk_pars_T J G pa pb (nl := nl) a hg hr m q (fmD_take_f I (ty m)).2 _ (by omega) (by omega) (fun j hj => ht j (by omega)) t2
    refine ⟨⟨fun q => absurd q h0, fun _ => ⟨m3, t1, p1⟩⟩, ?_⟩
    rw [fk_bb] at p2
    have : (fun k => fk_bind (fk_pars ty (m + 1) k) (fun k => fk_put rs (fk_row nl 29 a k))) = (fun k => fk_bind (fk_tk (ty m) k) (fun k => fk_bind (fk_pars ty m k) (fun k => fk_put rs (fk_row nl 29 a k)))) := by
      funext k
      rw [fk_pars, fk_bb]
    rw [this]
    exact p2
theorem fk_div4 {a : Int32} (h : fk_wb a 16 = true) : a / 4 ≠ 4 ∧ a - a / 4 * 4 ≠ 4 := by
  obtain ⟨h1, h2⟩ := fk_wbi h
  have e := fk_ofc h1
  have hc : ∀ n, n < 16 → (Int32.ofNat n) / 4 ≠ 4 ∧ Int32.ofNat n - Int32.ofNat n / 4 * 4 ≠ 4 := by decide +kernel
  rw [e]
  exact hc _ h2
theorem fk_c0 {I0 I : fm_MI} {D : fk_D} {f : Nat} {k : fk_K} (i : Nat) (a : Int32) (hD : fk_mD I0 D) (hdk : fk_dk D) (hf : f < 4) (ht : D.1 f = true) (J : fm_MJ) (G : fm_MG) (pa pb : Nat × Nat) (hx : fk_T I0 I (.inr k)) : fmD_checkOne_p I J G pa pb (Int32.ofNat f) (Int32.ofNat 0) a ∧ fk_T I0 (fmD_checkOne_f I J G pa pb (Int32.ofNat f) (Int32.ofNat 0) a) (fk_stp D f i 0 a k) := by
  unfold fmD_checkOne_p fmD_checkOne_f
  rw [if_neg (show ¬ (4 : Int32) ≤ Int32.ofNat 0 by decide)]
  refine fk_pq (fun hp => ⟨fun h => absurd h (show ¬ (4 : Int32) ≤ Int32.ofNat 0 by decide), fun _ => hp⟩) ?_
  try unfold fm_let
  try dsimp only
  obtain ⟨c1, c2⟩ := fk_put_T (t := Int32.ofNat 0) (by decide) (fk_row_T (D.2.2.1 f) (Int32.ofNat 0) a hx)
  exact ⟨c1, c2⟩
theorem fk_c1 {I0 I : fm_MI} {D : fk_D} {f : Nat} {k : fk_K} (i : Nat) (a : Int32) (hD : fk_mD I0 D) (hdk : fk_dk D) (hf : f < 4) (ht : D.1 f = true) (J : fm_MJ) (G : fm_MG) (pa pb : Nat × Nat) (hx : fk_T I0 I (.inr k)) : fmD_checkOne_p I J G pa pb (Int32.ofNat f) (Int32.ofNat 1) a ∧ fk_T I0 (fmD_checkOne_f I J G pa pb (Int32.ofNat f) (Int32.ofNat 1) a) (fk_stp D f i 1 a k) := by
  unfold fmD_checkOne_p fmD_checkOne_f
  rw [if_neg (show ¬ (4 : Int32) ≤ Int32.ofNat 1 by decide)]
  refine fk_pq (fun hp => ⟨fun h => absurd h (show ¬ (4 : Int32) ≤ Int32.ofNat 1 by decide), fun _ => hp⟩) ?_
  try unfold fm_let
  try dsimp only
  obtain ⟨c1, c2⟩ := fk_put_T (t := Int32.ofNat 1) (by decide) (fk_row_T (D.2.2.1 f) (Int32.ofNat 1) a hx)
  exact ⟨c1, c2⟩
theorem fk_c2 {I0 I : fm_MI} {D : fk_D} {f : Nat} {k : fk_K} (i : Nat) (a : Int32) (hD : fk_mD I0 D) (hdk : fk_dk D) (hf : f < 4) (ht : D.1 f = true) (J : fm_MJ) (G : fm_MG) (pa pb : Nat × Nat) (hx : fk_T I0 I (.inr k)) : fmD_checkOne_p I J G pa pb (Int32.ofNat f) (Int32.ofNat 2) a ∧ fk_T I0 (fmD_checkOne_f I J G pa pb (Int32.ofNat f) (Int32.ofNat 2) a) (fk_stp D f i 2 a k) := by
  unfold fmD_checkOne_p fmD_checkOne_f
  rw [if_neg (show ¬ (4 : Int32) ≤ Int32.ofNat 2 by decide)]
  refine fk_pq (fun hp => ⟨fun h => absurd h (show ¬ (4 : Int32) ≤ Int32.ofNat 2 by decide), fun _ => hp⟩) ?_
  try unfold fm_let
  try dsimp only
  obtain ⟨c1, c2⟩ := fk_put_T (t := Int32.ofNat 2) (by decide) (fk_row_T (D.2.2.1 f) (Int32.ofNat 2) a hx)
  exact ⟨c1, c2⟩
theorem fk_c3 {I0 I : fm_MI} {D : fk_D} {f : Nat} {k : fk_K} (i : Nat) (a : Int32) (hD : fk_mD I0 D) (hdk : fk_dk D) (hf : f < 4) (ht : D.1 f = true) (J : fm_MJ) (G : fm_MG) (pa pb : Nat × Nat) (hx : fk_T I0 I (.inr k)) : fmD_checkOne_p I J G pa pb (Int32.ofNat f) (Int32.ofNat 3) a ∧ fk_T I0 (fmD_checkOne_f I J G pa pb (Int32.ofNat f) (Int32.ofNat 3) a) (fk_stp D f i 3 a k) := by
  unfold fmD_checkOne_p fmD_checkOne_f
  rw [if_neg (show ¬ (4 : Int32) ≤ Int32.ofNat 3 by decide)]
  refine fk_pq (fun hp => ⟨fun h => absurd h (show ¬ (4 : Int32) ≤ Int32.ofNat 3 by decide), fun _ => hp⟩) ?_
  try unfold fm_let
  try dsimp only
  obtain ⟨c1, c2⟩ := fk_put_T (t := Int32.ofNat 3) (by decide) (fk_row_T (D.2.2.1 f) (Int32.ofNat 3) a hx)
  exact ⟨c1, c2⟩
theorem fk_c4 {I0 I : fm_MI} {D : fk_D} {f : Nat} {k : fk_K} (i : Nat) (a : Int32) (hD : fk_mD I0 D) (hdk : fk_dk D) (hf : f < 4) (ht : D.1 f = true) (J : fm_MJ) (G : fm_MG) (pa pb : Nat × Nat) (hx : fk_T I0 I (.inr k)) : fmD_checkOne_p I J G pa pb (Int32.ofNat f) (Int32.ofNat 4) a ∧ fk_T I0 (fmD_checkOne_f I J G pa pb (Int32.ofNat f) (Int32.ofNat 4) a) (fk_stp D f i 4 a k) := by
  obtain ⟨-, hg⟩ := hD f hf
  obtain ⟨g1, g2, g3, g4, g5, g6⟩ := hg ht
  obtain ⟨d1, d2, d3, d4, d5, d6, d7⟩ := hdk f hf ht
  have hcf : (Int32.ofNat f).toNatClampNeg = f := fk_cl (by omega)
  have hvf : vp_in (Int32.ofNat f) 4 := (fk_in (by omega)).mpr hf
  unfold fmD_checkOne_p fmD_checkOne_f
  rw [if_pos (show (4 : Int32) ≤ Int32.ofNat 4 by decide), if_neg (show ¬ (7 : Int32) ≤ Int32.ofNat 4 by decide)]
  refine fk_pq (fun hp => ⟨fun _ => ⟨fun h => absurd h (show ¬ (7 : Int32) ≤ Int32.ofNat 4 by decide), fun _ => hp⟩, fun h => absurd (show (4 : Int32) ≤ Int32.ofNat 4 by decide) h⟩) ?_
  try unfold fm_let
  try dsimp only
  unfold fmD_checkLocal_p fmD_checkLocal_f fm_let
  dsimp only
  have h29 : I 29 0 f = Int32.ofNat (D.2.2.1 f) := (hx.1 29 0 _ (Or.inl (by decide)) (fun q => absurd q (by decide))).trans g2
  rw [hcf, h29, fk_inD a (show D.2.2.1 f < 1000 by omega)]
  unfold fk_stp
  rw [show fk_okn D f 4 a k.2.1.length = fk_wb a (D.2.2.1 f) from rfl]
  cases hb : fk_wb a (D.2.2.1 f) with
  | false =>
    rw [show fk_b false = 0 from rfl, if_pos rfl]
    exact ⟨⟨hvf, fun _ => trivial, fun q => absurd rfl q⟩, fk_wr_T hx 1 (by decide)⟩
  | true =>
    rw [show fk_b true = 1 from rfl, if_neg (by decide)]
    obtain ⟨w1, w2⟩ := fk_wbi hb
    obtain ⟨m1, m2, m3⟩ := fk_mem a hf (fk_ofc w1) (by omega)
    have hty4 := fk_wb4 (d6 _ w2)
    have h30 : ∀ I', fk_frD I0 I' → I' 30 0 (f * 6 + a.toNatClampNeg) = D.2.2.2.2.1 f a.toNatClampNeg := fun I' h => (h 30 0 _ (Or.inl (by decide)) (fun q => absurd q (by decide))).trans (g5 _ w2)
    rw [m2, h30 I hx.1]
    rw [if_pos (show Int32.ofNat 4 = 4 by decide)]
    obtain ⟨c1, c2⟩ := fk_put_T hty4 (fk_row_T (D.2.2.1 f) (Int32.ofNat 4) a hx)
    exact ⟨⟨hvf, fun q => absurd q (by decide), fun _ => ⟨fun _ => ⟨m3, c1⟩, fun h => absurd (show Int32.ofNat 4 = 4 by decide) h⟩⟩, c2⟩
theorem fk_c5 {I0 I : fm_MI} {D : fk_D} {f : Nat} {k : fk_K} (i : Nat) (a : Int32) (hD : fk_mD I0 D) (hdk : fk_dk D) (hf : f < 4) (ht : D.1 f = true) (J : fm_MJ) (G : fm_MG) (pa pb : Nat × Nat) (hx : fk_T I0 I (.inr k)) : fmD_checkOne_p I J G pa pb (Int32.ofNat f) (Int32.ofNat 5) a ∧ fk_T I0 (fmD_checkOne_f I J G pa pb (Int32.ofNat f) (Int32.ofNat 5) a) (fk_stp D f i 5 a k) := by
  obtain ⟨-, hg⟩ := hD f hf
  obtain ⟨g1, g2, g3, g4, g5, g6⟩ := hg ht
  obtain ⟨d1, d2, d3, d4, d5, d6, d7⟩ := hdk f hf ht
  have hcf : (Int32.ofNat f).toNatClampNeg = f := fk_cl (by omega)
  have hvf : vp_in (Int32.ofNat f) 4 := (fk_in (by omega)).mpr hf
  unfold fmD_checkOne_p fmD_checkOne_f
  rw [if_pos (show (4 : Int32) ≤ Int32.ofNat 5 by decide), if_neg (show ¬ (7 : Int32) ≤ Int32.ofNat 5 by decide)]
  refine fk_pq (fun hp => ⟨fun _ => ⟨fun h => absurd h (show ¬ (7 : Int32) ≤ Int32.ofNat 5 by decide), fun _ => hp⟩, fun h => absurd (show (4 : Int32) ≤ Int32.ofNat 5 by decide) h⟩) ?_
  try unfold fm_let
  try dsimp only
  unfold fmD_checkLocal_p fmD_checkLocal_f fm_let
  dsimp only
  have h29 : I 29 0 f = Int32.ofNat (D.2.2.1 f) := (hx.1 29 0 _ (Or.inl (by decide)) (fun q => absurd q (by decide))).trans g2
  rw [hcf, h29, fk_inD a (show D.2.2.1 f < 1000 by omega)]
  unfold fk_stp
  rw [show fk_okn D f 5 a k.2.1.length = fk_wb a (D.2.2.1 f) from rfl]
  cases hb : fk_wb a (D.2.2.1 f) with
  | false =>
    rw [show fk_b false = 0 from rfl, if_pos rfl]
    exact ⟨⟨hvf, fun _ => trivial, fun q => absurd rfl q⟩, fk_wr_T hx 1 (by decide)⟩
  | true =>
    rw [show fk_b true = 1 from rfl, if_neg (by decide)]
    obtain ⟨w1, w2⟩ := fk_wbi hb
    obtain ⟨m1, m2, m3⟩ := fk_mem a hf (fk_ofc w1) (by omega)
    have hty4 := fk_wb4 (d6 _ w2)
    have h30 : ∀ I', fk_frD I0 I' → I' 30 0 (f * 6 + a.toNatClampNeg) = D.2.2.2.2.1 f a.toNatClampNeg := fun I' h => (h 30 0 _ (Or.inl (by decide)) (fun q => absurd q (by decide))).trans (g5 _ w2)
    rw [m2, h30 I hx.1]
    rw [if_neg (show ¬ Int32.ofNat 5 = 4 by decide), if_neg (show ¬ Int32.ofNat 5 = 6 by decide)]
    obtain ⟨t1, t2, -⟩ := fk_take_T hty4 hx
    have t3 := fk_row_T (D.2.2.1 f) (Int32.ofNat 5) a t2
    exact ⟨⟨hvf, fun q => absurd q (by decide), fun _ => ⟨fun h => absurd h (show ¬ Int32.ofNat 5 = 4 by decide), fun _ => ⟨m3, t1, fun h => absurd h (show ¬ Int32.ofNat 5 = 6 by decide), fun _ => trivial⟩⟩⟩, t3⟩
theorem fk_c6 {I0 I : fm_MI} {D : fk_D} {f : Nat} {k : fk_K} (i : Nat) (a : Int32) (hD : fk_mD I0 D) (hdk : fk_dk D) (hf : f < 4) (ht : D.1 f = true) (J : fm_MJ) (G : fm_MG) (pa pb : Nat × Nat) (hx : fk_T I0 I (.inr k)) : fmD_checkOne_p I J G pa pb (Int32.ofNat f) (Int32.ofNat 6) a ∧ fk_T I0 (fmD_checkOne_f I J G pa pb (Int32.ofNat f) (Int32.ofNat 6) a) (fk_stp D f i 6 a k) := by
  obtain ⟨-, hg⟩ := hD f hf
  obtain ⟨g1, g2, g3, g4, g5, g6⟩ := hg ht
  obtain ⟨d1, d2, d3, d4, d5, d6, d7⟩ := hdk f hf ht
  have hcf : (Int32.ofNat f).toNatClampNeg = f := fk_cl (by omega)
  have hvf : vp_in (Int32.ofNat f) 4 := (fk_in (by omega)).mpr hf
  unfold fmD_checkOne_p fmD_checkOne_f
  rw [if_pos (show (4 : Int32) ≤ Int32.ofNat 6 by decide), if_neg (show ¬ (7 : Int32) ≤ Int32.ofNat 6 by decide)]
  refine fk_pq (fun hp => ⟨fun _ => ⟨fun h => absurd h (show ¬ (7 : Int32) ≤ Int32.ofNat 6 by decide), fun _ => hp⟩, fun h => absurd (show (4 : Int32) ≤ Int32.ofNat 6 by decide) h⟩) ?_
  try unfold fm_let
  try dsimp only
  unfold fmD_checkLocal_p fmD_checkLocal_f fm_let
  dsimp only
  have h29 : I 29 0 f = Int32.ofNat (D.2.2.1 f) := (hx.1 29 0 _ (Or.inl (by decide)) (fun q => absurd q (by decide))).trans g2
  rw [hcf, h29, fk_inD a (show D.2.2.1 f < 1000 by omega)]
  unfold fk_stp
  rw [show fk_okn D f 6 a k.2.1.length = fk_wb a (D.2.2.1 f) from rfl]
  cases hb : fk_wb a (D.2.2.1 f) with
  | false =>
    rw [show fk_b false = 0 from rfl, if_pos rfl]
    exact ⟨⟨hvf, fun _ => trivial, fun q => absurd rfl q⟩, fk_wr_T hx 1 (by decide)⟩
  | true =>
    rw [show fk_b true = 1 from rfl, if_neg (by decide)]
    obtain ⟨w1, w2⟩ := fk_wbi hb
    obtain ⟨m1, m2, m3⟩ := fk_mem a hf (fk_ofc w1) (by omega)
    have hty4 := fk_wb4 (d6 _ w2)
    have h30 : ∀ I', fk_frD I0 I' → I' 30 0 (f * 6 + a.toNatClampNeg) = D.2.2.2.2.1 f a.toNatClampNeg := fun I' h => (h 30 0 _ (Or.inl (by decide)) (fun q => absurd q (by decide))).trans (g5 _ w2)
    rw [m2, h30 I hx.1]
    rw [if_neg (show ¬ Int32.ofNat 6 = 4 by decide), if_pos (show Int32.ofNat 6 = 6 by decide)]
    obtain ⟨t1, t2, -⟩ := fk_take_T hty4 hx
    rw [h30 _ t2.1]
    obtain ⟨c1, c2⟩ := fk_put_T hty4 (fk_row_T (D.2.2.1 f) (Int32.ofNat 6) a t2)
    rw [fk_bb] at c2
    exact ⟨⟨hvf, fun q => absurd q (by decide), fun _ => ⟨fun h => absurd h (show ¬ Int32.ofNat 6 = 4 by decide), fun _ => ⟨m3, t1, fun _ => ⟨m3, c1⟩, fun h => absurd (show Int32.ofNat 6 = 6 by decide) h⟩⟩⟩, c2⟩
theorem fk_c7 {I0 I : fm_MI} {D : fk_D} {f : Nat} {k : fk_K} (i : Nat) (a : Int32) (hD : fk_mD I0 D) (hdk : fk_dk D) (hf : f < 4) (ht : D.1 f = true) (J : fm_MJ) (G : fm_MG) (pa pb : Nat × Nat) (hx : fk_T I0 I (.inr k)) : fmD_checkOne_p I J G pa pb (Int32.ofNat f) (Int32.ofNat 7) a ∧ fk_T I0 (fmD_checkOne_f I J G pa pb (Int32.ofNat f) (Int32.ofNat 7) a) (fk_stp D f i 7 a k) := by
  unfold fmD_checkOne_p fmD_checkOne_f
  rw [if_pos (show (4 : Int32) ≤ Int32.ofNat 7 by decide), if_pos (show (7 : Int32) ≤ Int32.ofNat 7 by decide), if_neg (show ¬ (9 : Int32) ≤ Int32.ofNat 7 by decide)]
  refine fk_pq (fun hp => ⟨fun _ => ⟨fun _ => ⟨fun h => absurd h (show ¬ (9 : Int32) ≤ Int32.ofNat 7 by decide), fun _ => hp⟩, fun h => absurd (show (7 : Int32) ≤ Int32.ofNat 7 by decide) h⟩, fun h => absurd (show (4 : Int32) ≤ Int32.ofNat 7 by decide) h⟩) ?_
  try unfold fm_let
  try dsimp only
  unfold fmD_checkGlobal_p fmD_checkGlobal_f fm_let
  dsimp only
  have hin : fmD_in_f a 0 3 = fk_b (fk_wb a 4) := fk_inD a (m := 4) (by omega)
  rw [hin]
  unfold fk_stp
  rw [show fk_okn D f 7 a k.2.1.length = fk_wb a 4 from rfl]
  cases hb : fk_wb a 4 with
  | false =>
    rw [show fk_b false = 0 from rfl, if_pos rfl]
    exact ⟨⟨fun _ => trivial, fun q => absurd rfl q⟩, fk_wr_T hx 1 (by decide)⟩
  | true =>
    rw [show fk_b true = 1 from rfl, if_neg (by decide)]
    have h4 := fk_wb4 hb
    rw [if_pos (show Int32.ofNat 7 = 7 by decide)]
    obtain ⟨c1, c2⟩ := fk_put_T h4 (fk_row_T (D.2.2.1 f) (Int32.ofNat 7) a hx)
    exact ⟨⟨fun q => absurd q (by decide), fun _ => ⟨fun _ => c1, fun h => absurd (show Int32.ofNat 7 = 7 by decide) h⟩⟩, c2⟩
theorem fk_c8 {I0 I : fm_MI} {D : fk_D} {f : Nat} {k : fk_K} (i : Nat) (a : Int32) (hD : fk_mD I0 D) (hdk : fk_dk D) (hf : f < 4) (ht : D.1 f = true) (J : fm_MJ) (G : fm_MG) (pa pb : Nat × Nat) (hx : fk_T I0 I (.inr k)) : fmD_checkOne_p I J G pa pb (Int32.ofNat f) (Int32.ofNat 8) a ∧ fk_T I0 (fmD_checkOne_f I J G pa pb (Int32.ofNat f) (Int32.ofNat 8) a) (fk_stp D f i 8 a k) := by
  unfold fmD_checkOne_p fmD_checkOne_f
  rw [if_pos (show (4 : Int32) ≤ Int32.ofNat 8 by decide), if_pos (show (7 : Int32) ≤ Int32.ofNat 8 by decide), if_neg (show ¬ (9 : Int32) ≤ Int32.ofNat 8 by decide)]
  refine fk_pq (fun hp => ⟨fun _ => ⟨fun _ => ⟨fun h => absurd h (show ¬ (9 : Int32) ≤ Int32.ofNat 8 by decide), fun _ => hp⟩, fun h => absurd (show (7 : Int32) ≤ Int32.ofNat 8 by decide) h⟩, fun h => absurd (show (4 : Int32) ≤ Int32.ofNat 8 by decide) h⟩) ?_
  try unfold fm_let
  try dsimp only
  unfold fmD_checkGlobal_p fmD_checkGlobal_f fm_let
  dsimp only
  have hin : fmD_in_f a 0 3 = fk_b (fk_wb a 4) := fk_inD a (m := 4) (by omega)
  rw [hin]
  unfold fk_stp
  rw [show fk_okn D f 8 a k.2.1.length = fk_wb a 4 from rfl]
  cases hb : fk_wb a 4 with
  | false =>
    rw [show fk_b false = 0 from rfl, if_pos rfl]
    exact ⟨⟨fun _ => trivial, fun q => absurd rfl q⟩, fk_wr_T hx 1 (by decide)⟩
  | true =>
    rw [show fk_b true = 1 from rfl, if_neg (by decide)]
    have h4 := fk_wb4 hb
    rw [if_neg (show ¬ Int32.ofNat 8 = 7 by decide)]
    obtain ⟨t1, t2, -⟩ := fk_take_T h4 hx
    have t3 := fk_row_T (D.2.2.1 f) (Int32.ofNat 8) a t2
    exact ⟨⟨fun q => absurd q (by decide), fun _ => ⟨fun h => absurd h (show ¬ Int32.ofNat 8 = 7 by decide), fun _ => t1⟩⟩, t3⟩
theorem fk_c9 {I0 I : fm_MI} {D : fk_D} {f : Nat} {k : fk_K} (i : Nat) (a : Int32) (hD : fk_mD I0 D) (hdk : fk_dk D) (hf : f < 4) (ht : D.1 f = true) (J : fm_MJ) (G : fm_MG) (pa pb : Nat × Nat) (hx : fk_T I0 I (.inr k)) : fmD_checkOne_p I J G pa pb (Int32.ofNat f) (Int32.ofNat 9) a ∧ fk_T I0 (fmD_checkOne_f I J G pa pb (Int32.ofNat f) (Int32.ofNat 9) a) (fk_stp D f i 9 a k) := by
  unfold fmD_checkOne_p fmD_checkOne_f
  rw [if_pos (show (4 : Int32) ≤ Int32.ofNat 9 by decide), if_pos (show (7 : Int32) ≤ Int32.ofNat 9 by decide), if_pos (show (9 : Int32) ≤ Int32.ofNat 9 by decide), if_pos (show Int32.ofNat 9 = 9 by decide)]
  refine fk_pq (fun hp => ⟨fun _ => ⟨fun _ => ⟨fun _ => ⟨fun _ => hp, fun h => absurd (show Int32.ofNat 9 = 9 by decide) h⟩, fun h => absurd (show (9 : Int32) ≤ Int32.ofNat 9 by decide) h⟩, fun h => absurd (show (7 : Int32) ≤ Int32.ofNat 9 by decide) h⟩, fun h => absurd (show (4 : Int32) ≤ Int32.ofNat 9 by decide) h⟩) ?_
  try unfold fm_let
  try dsimp only
  obtain ⟨t1, t2, -⟩ := fk_take_T (w := 5) (by decide) hx
  have t3 := fk_row_T (D.2.2.1 f) (Int32.ofNat 9) a t2
  exact ⟨t1, t3⟩
theorem fk_c10 {I0 I : fm_MI} {D : fk_D} {f : Nat} {k : fk_K} (i : Nat) (a : Int32) (hD : fk_mD I0 D) (hdk : fk_dk D) (hf : f < 4) (ht : D.1 f = true) (J : fm_MJ) (G : fm_MG) (pa pb : Nat × Nat) (hx : fk_T I0 I (.inr k)) : fmD_checkOne_p I J G pa pb (Int32.ofNat f) (Int32.ofNat 10) a ∧ fk_T I0 (fmD_checkOne_f I J G pa pb (Int32.ofNat f) (Int32.ofNat 10) a) (fk_stp D f i 10 a k) := by
  unfold fmD_checkOne_p fmD_checkOne_f
  rw [if_pos (show (4 : Int32) ≤ Int32.ofNat 10 by decide), if_pos (show (7 : Int32) ≤ Int32.ofNat 10 by decide), if_pos (show (9 : Int32) ≤ Int32.ofNat 10 by decide), if_neg (show ¬ Int32.ofNat 10 = 9 by decide), if_pos (show Int32.ofNat 10 = 10 by decide)]
  refine fk_pq (fun hp => ⟨fun _ => ⟨fun _ => ⟨fun _ => ⟨fun h => absurd h (show ¬ Int32.ofNat 10 = 9 by decide), fun _ => ⟨fun _ => hp, fun h => absurd (show Int32.ofNat 10 = 10 by decide) h⟩⟩, fun h => absurd (show (9 : Int32) ≤ Int32.ofNat 10 by decide) h⟩, fun h => absurd (show (7 : Int32) ≤ Int32.ofNat 10 by decide) h⟩, fun h => absurd (show (4 : Int32) ≤ Int32.ofNat 10 by decide) h⟩) ?_
  try unfold fm_let
  try dsimp only
  unfold fmD_choose_p fmD_choose_f fm_let
  dsimp only
  obtain ⟨t1, t2, t3⟩ := fk_take_T (w := 0) (by decide) hx
  generalize fmD_take_f I 0 = t at t2 t3 ⊢
  obtain ⟨u1, u2, u3⟩ := fk_take_T (w := 5) (by decide) t2
  have hu4 : (fmD_take_f t.2 5).1 ≠ 4 := by
    have hft := (fk_ft t2).1
    unfold fmD_take_f
    by_cases h0 : t.2 24 0 17 ≤ 0
    · obtain ⟨k1, hk1⟩ := hft.mp h0
      rw [hk1] at t2
      obtain ⟨ts, fs, q⟩ := k1
      have hC := t2.2.2
      have hs := hC.2.2.2.1
      have h20 := hC.2.2.1
      rw [if_pos h0]
      cases fs with
      | nil => exact absurd hC.2.2.2.2.1 (by simp)
      | cons fr fs =>
        obtain ⟨o1, o2, o3, o4, o5⟩ := fk_o_T t2
        rw [o4, hC.2.1, hC.2.2.2.2.2.2.1.1.1]
        dsimp only at hs h20 ⊢
        have hb := hC.2.2.2.2.2.2.2.1.1
        dsimp only at hb
        by_cases hl : ts.length = fr.2.2.1
        · rw [if_pos (by rw [hl])]
          split <;> exact (show (5 : Int32) ≠ 4 by decide)
        · rw [if_neg (fun q => hl ((fk_ie (by omega) (by omega)).mp q))]
          cases ts with
          | nil => simp at hl hb; omega
          | cons y r =>
            have f1 : Int32.ofNat (y :: r).length - 1 = Int32.ofNat r.length := by rw [fk_d (by simp)]; simp
            have f2 : r.length < 20 := by simp at h20; omega
            rw [f1, fk_cl (by omega), hs.1, if_pos rfl]
            split
            · exact (show (5 : Int32) ≠ 4 by decide)
            · exact hC.2.2.2.2.2.2.2.2 y (List.mem_cons_self)
    · rw [if_neg h0]
      exact (show (5 : Int32) ≠ 4 by decide)
  generalize fmD_take_f t.2 5 = u at u2 u3 hu4 ⊢
  obtain ⟨v1, v2, v3⟩ := fk_take_T hu4 u2
  have hfs : ∀ x0, fk_stp D f i 10 a k = x0 → x0 = fk_bind (fk_tk 0 k) (fun k => fk_bind (fk_take 5 k) (fun q => fk_bind (fk_take q.1 q.2) (fun p => fk_put p.1 (fk_row (D.2.2.1 f) (Int32.ofNat 10) a p.2)))) := fun x0 h => h.symm
  rw [hfs _ rfl]
  simp only [fk_bind] at t2 u2 u3 v2 v3
  have hput : fmD_put_p (fmD_take_f u.2 u.1).2 := by
    have h0 := fk_row_T 0 0 0 v2
    exact (fk_put_T (t := 0) (by decide) h0).1
  refine ⟨⟨t1, u1, v1, fun _ => hput, fun _ => hput⟩, ?_⟩
  cases h1 : fk_tk 0 k with
  | inl c =>
    rw [h1] at t2 u2 v2
    dsimp only [fk_bind] at v2 ⊢
    split
    · have hn : ¬ ((fmD_take_f u.2 u.1).2 24 0 17 ≤ 0) := fun q => by obtain ⟨k, q⟩ := (fk_ft v2).1.mp q; cases q
      unfold fmD_put_f
      rw [if_neg hn]
      exact v2
    · have hn : ¬ ((fmD_take_f u.2 u.1).2 24 0 17 ≤ 0) := fun q => by obtain ⟨k, q⟩ := (fk_ft v2).1.mp q; cases q
      unfold fmD_put_f
      rw [if_neg hn]
      exact v2
  | inr k1 =>
    rw [h1] at t2 u2 u3 v2 v3
    dsimp only [fk_bind] at t2 u2 u3 v2 v3 ⊢
    simp only [fk_tk, fk_bind] at u2 v2 v3
    cases h2 : fk_take 5 k1 with
    | inl c =>
      rw [h2] at v2
      dsimp only at v2 ⊢
      split
      · have hn : ¬ ((fmD_take_f u.2 u.1).2 24 0 17 ≤ 0) := fun q => by obtain ⟨k, q⟩ := (fk_ft v2).1.mp q; cases q
        unfold fmD_put_f
        rw [if_neg hn]
        exact v2
      · have hn : ¬ ((fmD_take_f u.2 u.1).2 24 0 17 ≤ 0) := fun q => by obtain ⟨k, q⟩ := (fk_ft v2).1.mp q; cases q
        unfold fmD_put_f
        rw [if_neg hn]
        exact v2
    | inr q1 =>
      obtain ⟨w1, k2⟩ := q1
      have e1 := u3 _ _ _ rfl h2
      rw [h2] at v2 v3
      rw [e1] at v2 v3 hu4 ⊢
      dsimp only at v2 v3 ⊢
      cases h3 : fk_take w1 k2 with
      | inl c =>
        rw [h3] at v2
        dsimp only at v2 ⊢
        have hn : ¬ ((fmD_take_f u.2 w1).2 24 0 17 ≤ 0) := fun q => by obtain ⟨k, q⟩ := (fk_ft v2).1.mp q; cases q
        split
        · unfold fmD_put_f
          rw [if_neg hn]
          exact v2
        · unfold fmD_put_f
          rw [if_neg hn]
          exact v2
      | inr q2 =>
        obtain ⟨w2, k3⟩ := q2
        have e2 := v3 _ _ _ rfl h3
        rw [h3] at v2
        dsimp only at v2 ⊢
        rw [e2]
        obtain ⟨ts2, fs2, q2'⟩ := k2
        obtain ⟨ts3, fs3, q3'⟩ := k3
        obtain ⟨i1, i2, i3⟩ := fk_take_i h3
        have hw2 : (w1 = 5 → w2 ≠ 4) ∧ (w1 ≠ 5 → w2 = w1) := by
          have hu2 := u2
          rw [h2] at hu2
          dsimp only at hu2
          have hC := hu2.2.2
          refine ⟨fun h5 => ?_, fun h5 => ?_⟩
          · rcases i3 with ⟨-, q⟩ | ⟨y, hy, q⟩
            · rw [q, h5]; decide
            · rcases q with ⟨-, q⟩ | ⟨q, -⟩
              · rw [q, h5]; decide
              · rw [q]
                exact hC.2.2.2.2.2.2.2.2 y (by dsimp only; rw [hy]; exact List.mem_cons_self)
          · rcases i3 with ⟨-, q⟩ | ⟨y, hy, q⟩
            · exact q
            · rcases q with ⟨-, q⟩ | ⟨q, q' | q'⟩
              · exact q
              · exact absurd q' h5
              · rw [q, q']
        have v4 := fk_row_T (D.2.2.1 f) (Int32.ofNat 10) a v2
        by_cases h5 : w1 = 5
        · rw [if_pos h5]
          exact (fk_put_T (hw2.1 h5) v4).2
        · rw [if_neg h5, hw2.2 h5]
          exact (fk_put_T hu4 v4).2
theorem fk_c11 {I0 I : fm_MI} {D : fk_D} {f : Nat} {k : fk_K} (i : Nat) (a : Int32) (hD : fk_mD I0 D) (hdk : fk_dk D) (hf : f < 4) (ht : D.1 f = true) (J : fm_MJ) (G : fm_MG) (pa pb : Nat × Nat) (hx : fk_T I0 I (.inr k)) : fmD_checkOne_p I J G pa pb (Int32.ofNat f) (Int32.ofNat 11) a ∧ fk_T I0 (fmD_checkOne_f I J G pa pb (Int32.ofNat f) (Int32.ofNat 11) a) (fk_stp D f i 11 a k) := by
  unfold fmD_checkOne_p fmD_checkOne_f
  rw [if_pos (show (4 : Int32) ≤ Int32.ofNat 11 by decide), if_pos (show (7 : Int32) ≤ Int32.ofNat 11 by decide), if_pos (show (9 : Int32) ≤ Int32.ofNat 11 by decide), if_neg (show ¬ Int32.ofNat 11 = 9 by decide), if_neg (show ¬ Int32.ofNat 11 = 10 by decide), if_neg (show ¬ (20 : Int32) ≤ Int32.ofNat 11 by decide)]
  refine fk_pq (fun hp => ⟨fun _ => ⟨fun _ => ⟨fun _ => ⟨fun h => absurd h (show ¬ Int32.ofNat 11 = 9 by decide), fun _ => ⟨fun h => absurd h (show ¬ Int32.ofNat 11 = 10 by decide), fun _ => ⟨fun h => absurd h (show ¬ (20 : Int32) ≤ Int32.ofNat 11 by decide), fun _ => hp⟩⟩⟩, fun h => absurd (show (9 : Int32) ≤ Int32.ofNat 11 by decide) h⟩, fun h => absurd (show (7 : Int32) ≤ Int32.ofNat 11 by decide) h⟩, fun h => absurd (show (4 : Int32) ≤ Int32.ofNat 11 by decide) h⟩) ?_
  have h15 : fmD_in_f (Int32.ofNat 11) 15 17 = 0 := by unfold fmD_in_f; decide
  have hin : fmD_in_f a 0 3 = fk_b (fk_wb a 4) := fk_inD a (m := 4) (by omega)
  rw [h15, hin]
  unfold fk_stp
  rw [show fk_okn D f 11 a k.2.1.length = fk_wb a 4 from rfl]
  cases hb : fk_wb a 4 with
  | false =>
    refine ⟨fk_letI ⟨fun _ => fk_letI ⟨fun _ => trivial, fun q => absurd rfl q⟩, fun q => absurd rfl q⟩, ?_⟩
    rw [fm_letE, if_pos rfl, fm_letE, show fk_b false = 0 from rfl, if_pos rfl, fm_letE]
    exact fk_wr_T hx 1 (by decide)
  | true =>
    have h4 : a ≠ 4 := by
      rintro rfl
      revert hb
      decide
    obtain ⟨t1, t2, -⟩ := fk_take_T h4 hx
    obtain ⟨u1, u2, -⟩ := fk_take_T h4 t2
    obtain ⟨c1, c2⟩ := fk_put_T (t := a) h4 (fk_row_T (D.2.2.1 f) (Int32.ofNat 11) a u2)
    rw [fk_bb, fk_bb] at c2
    have pp : fmD_two_p I a := ⟨t1, fk_letI ⟨u1, fk_letI c1⟩⟩
    have c3 : fk_T I0 (fmD_two_f I a a) (fk_do D f i 11 a k) := by
      unfold fmD_two_f
      rw [fm_letE, fm_letE, fm_letE]
      exact c2
    refine ⟨fk_letI ⟨fun _ => fk_letI ⟨fun q => absurd q (show ¬ fk_b true = 0 by decide), fun _ => ⟨fun _ => pp, fun _ => pp⟩⟩, fun q => absurd rfl q⟩, ?_⟩
    rw [fm_letE, if_pos rfl, fm_letE, show fk_b true = 1 from rfl, if_neg (show ¬ (1 : Int32) = 0 by decide), if_pos (show Int32.ofNat 11 ≤ 17 by decide), fm_letE]
    exact c3
theorem fk_c12 {I0 I : fm_MI} {D : fk_D} {f : Nat} {k : fk_K} (i : Nat) (a : Int32) (hD : fk_mD I0 D) (hdk : fk_dk D) (hf : f < 4) (ht : D.1 f = true) (J : fm_MJ) (G : fm_MG) (pa pb : Nat × Nat) (hx : fk_T I0 I (.inr k)) : fmD_checkOne_p I J G pa pb (Int32.ofNat f) (Int32.ofNat 12) a ∧ fk_T I0 (fmD_checkOne_f I J G pa pb (Int32.ofNat f) (Int32.ofNat 12) a) (fk_stp D f i 12 a k) := by
  unfold fmD_checkOne_p fmD_checkOne_f
  rw [if_pos (show (4 : Int32) ≤ Int32.ofNat 12 by decide), if_pos (show (7 : Int32) ≤ Int32.ofNat 12 by decide), if_pos (show (9 : Int32) ≤ Int32.ofNat 12 by decide), if_neg (show ¬ Int32.ofNat 12 = 9 by decide), if_neg (show ¬ Int32.ofNat 12 = 10 by decide), if_neg (show ¬ (20 : Int32) ≤ Int32.ofNat 12 by decide)]
  refine fk_pq (fun hp => ⟨fun _ => ⟨fun _ => ⟨fun _ => ⟨fun h => absurd h (show ¬ Int32.ofNat 12 = 9 by decide), fun _ => ⟨fun h => absurd h (show ¬ Int32.ofNat 12 = 10 by decide), fun _ => ⟨fun h => absurd h (show ¬ (20 : Int32) ≤ Int32.ofNat 12 by decide), fun _ => hp⟩⟩⟩, fun h => absurd (show (9 : Int32) ≤ Int32.ofNat 12 by decide) h⟩, fun h => absurd (show (7 : Int32) ≤ Int32.ofNat 12 by decide) h⟩, fun h => absurd (show (4 : Int32) ≤ Int32.ofNat 12 by decide) h⟩) ?_
  have h15 : fmD_in_f (Int32.ofNat 12) 15 17 = 0 := by unfold fmD_in_f; decide
  have hin : fmD_in_f a 0 3 = fk_b (fk_wb a 4) := fk_inD a (m := 4) (by omega)
  rw [h15, hin]
  unfold fk_stp
  rw [show fk_okn D f 12 a k.2.1.length = fk_wb a 4 from rfl]
  cases hb : fk_wb a 4 with
  | false =>
    refine ⟨fk_letI ⟨fun _ => fk_letI ⟨fun _ => trivial, fun q => absurd rfl q⟩, fun q => absurd rfl q⟩, ?_⟩
    rw [fm_letE, if_pos rfl, fm_letE, show fk_b false = 0 from rfl, if_pos rfl, fm_letE]
    exact fk_wr_T hx 1 (by decide)
  | true =>
    have h4 : a ≠ 4 := by
      rintro rfl
      revert hb
      decide
    obtain ⟨t1, t2, -⟩ := fk_take_T h4 hx
    obtain ⟨u1, u2, -⟩ := fk_take_T h4 t2
    obtain ⟨c1, c2⟩ := fk_put_T (t := a) h4 (fk_row_T (D.2.2.1 f) (Int32.ofNat 12) a u2)
    rw [fk_bb, fk_bb] at c2
    have pp : fmD_two_p I a := ⟨t1, fk_letI ⟨u1, fk_letI c1⟩⟩
    have c3 : fk_T I0 (fmD_two_f I a a) (fk_do D f i 12 a k) := by
      unfold fmD_two_f
      rw [fm_letE, fm_letE, fm_letE]
      exact c2
    refine ⟨fk_letI ⟨fun _ => fk_letI ⟨fun q => absurd q (show ¬ fk_b true = 0 by decide), fun _ => ⟨fun _ => pp, fun _ => pp⟩⟩, fun q => absurd rfl q⟩, ?_⟩
    rw [fm_letE, if_pos rfl, fm_letE, show fk_b true = 1 from rfl, if_neg (show ¬ (1 : Int32) = 0 by decide), if_pos (show Int32.ofNat 12 ≤ 17 by decide), fm_letE]
    exact c3
theorem fk_c13 {I0 I : fm_MI} {D : fk_D} {f : Nat} {k : fk_K} (i : Nat) (a : Int32) (hD : fk_mD I0 D) (hdk : fk_dk D) (hf : f < 4) (ht : D.1 f = true) (J : fm_MJ) (G : fm_MG) (pa pb : Nat × Nat) (hx : fk_T I0 I (.inr k)) : fmD_checkOne_p I J G pa pb (Int32.ofNat f) (Int32.ofNat 13) a ∧ fk_T I0 (fmD_checkOne_f I J G pa pb (Int32.ofNat f) (Int32.ofNat 13) a) (fk_stp D f i 13 a k) := by
  unfold fmD_checkOne_p fmD_checkOne_f
  rw [if_pos (show (4 : Int32) ≤ Int32.ofNat 13 by decide), if_pos (show (7 : Int32) ≤ Int32.ofNat 13 by decide), if_pos (show (9 : Int32) ≤ Int32.ofNat 13 by decide), if_neg (show ¬ Int32.ofNat 13 = 9 by decide), if_neg (show ¬ Int32.ofNat 13 = 10 by decide), if_neg (show ¬ (20 : Int32) ≤ Int32.ofNat 13 by decide)]
  refine fk_pq (fun hp => ⟨fun _ => ⟨fun _ => ⟨fun _ => ⟨fun h => absurd h (show ¬ Int32.ofNat 13 = 9 by decide), fun _ => ⟨fun h => absurd h (show ¬ Int32.ofNat 13 = 10 by decide), fun _ => ⟨fun h => absurd h (show ¬ (20 : Int32) ≤ Int32.ofNat 13 by decide), fun _ => hp⟩⟩⟩, fun h => absurd (show (9 : Int32) ≤ Int32.ofNat 13 by decide) h⟩, fun h => absurd (show (7 : Int32) ≤ Int32.ofNat 13 by decide) h⟩, fun h => absurd (show (4 : Int32) ≤ Int32.ofNat 13 by decide) h⟩) ?_
  have h15 : fmD_in_f (Int32.ofNat 13) 15 17 = 0 := by unfold fmD_in_f; decide
  have hin : fmD_in_f a 0 3 = fk_b (fk_wb a 4) := fk_inD a (m := 4) (by omega)
  rw [h15, hin]
  unfold fk_stp
  rw [show fk_okn D f 13 a k.2.1.length = fk_wb a 4 from rfl]
  cases hb : fk_wb a 4 with
  | false =>
    refine ⟨fk_letI ⟨fun _ => fk_letI ⟨fun _ => trivial, fun q => absurd rfl q⟩, fun q => absurd rfl q⟩, ?_⟩
    rw [fm_letE, if_pos rfl, fm_letE, show fk_b false = 0 from rfl, if_pos rfl, fm_letE]
    exact fk_wr_T hx 1 (by decide)
  | true =>
    have h4 : a ≠ 4 := by
      rintro rfl
      revert hb
      decide
    obtain ⟨t1, t2, -⟩ := fk_take_T h4 hx
    obtain ⟨u1, u2, -⟩ := fk_take_T h4 t2
    obtain ⟨c1, c2⟩ := fk_put_T (t := a) h4 (fk_row_T (D.2.2.1 f) (Int32.ofNat 13) a u2)
    rw [fk_bb, fk_bb] at c2
    have pp : fmD_two_p I a := ⟨t1, fk_letI ⟨u1, fk_letI c1⟩⟩
    have c3 : fk_T I0 (fmD_two_f I a a) (fk_do D f i 13 a k) := by
      unfold fmD_two_f
      rw [fm_letE, fm_letE, fm_letE]
      exact c2
    refine ⟨fk_letI ⟨fun _ => fk_letI ⟨fun q => absurd q (show ¬ fk_b true = 0 by decide), fun _ => ⟨fun _ => pp, fun _ => pp⟩⟩, fun q => absurd rfl q⟩, ?_⟩
    rw [fm_letE, if_pos rfl, fm_letE, show fk_b true = 1 from rfl, if_neg (show ¬ (1 : Int32) = 0 by decide), if_pos (show Int32.ofNat 13 ≤ 17 by decide), fm_letE]
    exact c3
theorem fk_c14 {I0 I : fm_MI} {D : fk_D} {f : Nat} {k : fk_K} (i : Nat) (a : Int32) (hD : fk_mD I0 D) (hdk : fk_dk D) (hf : f < 4) (ht : D.1 f = true) (J : fm_MJ) (G : fm_MG) (pa pb : Nat × Nat) (hx : fk_T I0 I (.inr k)) : fmD_checkOne_p I J G pa pb (Int32.ofNat f) (Int32.ofNat 14) a ∧ fk_T I0 (fmD_checkOne_f I J G pa pb (Int32.ofNat f) (Int32.ofNat 14) a) (fk_stp D f i 14 a k) := by
  unfold fmD_checkOne_p fmD_checkOne_f
  rw [if_pos (show (4 : Int32) ≤ Int32.ofNat 14 by decide), if_pos (show (7 : Int32) ≤ Int32.ofNat 14 by decide), if_pos (show (9 : Int32) ≤ Int32.ofNat 14 by decide), if_neg (show ¬ Int32.ofNat 14 = 9 by decide), if_neg (show ¬ Int32.ofNat 14 = 10 by decide), if_neg (show ¬ (20 : Int32) ≤ Int32.ofNat 14 by decide)]
  refine fk_pq (fun hp => ⟨fun _ => ⟨fun _ => ⟨fun _ => ⟨fun h => absurd h (show ¬ Int32.ofNat 14 = 9 by decide), fun _ => ⟨fun h => absurd h (show ¬ Int32.ofNat 14 = 10 by decide), fun _ => ⟨fun h => absurd h (show ¬ (20 : Int32) ≤ Int32.ofNat 14 by decide), fun _ => hp⟩⟩⟩, fun h => absurd (show (9 : Int32) ≤ Int32.ofNat 14 by decide) h⟩, fun h => absurd (show (7 : Int32) ≤ Int32.ofNat 14 by decide) h⟩, fun h => absurd (show (4 : Int32) ≤ Int32.ofNat 14 by decide) h⟩) ?_
  have h15 : fmD_in_f (Int32.ofNat 14) 15 17 = 0 := by unfold fmD_in_f; decide
  have hin : fmD_in_f a 0 3 = fk_b (fk_wb a 4) := fk_inD a (m := 4) (by omega)
  rw [h15, hin]
  unfold fk_stp
  rw [show fk_okn D f 14 a k.2.1.length = fk_wb a 4 from rfl]
  cases hb : fk_wb a 4 with
  | false =>
    refine ⟨fk_letI ⟨fun _ => fk_letI ⟨fun _ => trivial, fun q => absurd rfl q⟩, fun q => absurd rfl q⟩, ?_⟩
    rw [fm_letE, if_pos rfl, fm_letE, show fk_b false = 0 from rfl, if_pos rfl, fm_letE]
    exact fk_wr_T hx 1 (by decide)
  | true =>
    have h4 : a ≠ 4 := by
      rintro rfl
      revert hb
      decide
    obtain ⟨t1, t2, -⟩ := fk_take_T h4 hx
    obtain ⟨u1, u2, -⟩ := fk_take_T h4 t2
    obtain ⟨c1, c2⟩ := fk_put_T (t := a) h4 (fk_row_T (D.2.2.1 f) (Int32.ofNat 14) a u2)
    rw [fk_bb, fk_bb] at c2
    have pp : fmD_two_p I a := ⟨t1, fk_letI ⟨u1, fk_letI c1⟩⟩
    have c3 : fk_T I0 (fmD_two_f I a a) (fk_do D f i 14 a k) := by
      unfold fmD_two_f
      rw [fm_letE, fm_letE, fm_letE]
      exact c2
    refine ⟨fk_letI ⟨fun _ => fk_letI ⟨fun q => absurd q (show ¬ fk_b true = 0 by decide), fun _ => ⟨fun _ => pp, fun _ => pp⟩⟩, fun q => absurd rfl q⟩, ?_⟩
    rw [fm_letE, if_pos rfl, fm_letE, show fk_b true = 1 from rfl, if_neg (show ¬ (1 : Int32) = 0 by decide), if_pos (show Int32.ofNat 14 ≤ 17 by decide), fm_letE]
    exact c3
theorem fk_c15 {I0 I : fm_MI} {D : fk_D} {f : Nat} {k : fk_K} (i : Nat) (a : Int32) (hD : fk_mD I0 D) (hdk : fk_dk D) (hf : f < 4) (ht : D.1 f = true) (J : fm_MJ) (G : fm_MG) (pa pb : Nat × Nat) (hx : fk_T I0 I (.inr k)) : fmD_checkOne_p I J G pa pb (Int32.ofNat f) (Int32.ofNat 15) a ∧ fk_T I0 (fmD_checkOne_f I J G pa pb (Int32.ofNat f) (Int32.ofNat 15) a) (fk_stp D f i 15 a k) := by
  unfold fmD_checkOne_p fmD_checkOne_f
  rw [if_pos (show (4 : Int32) ≤ Int32.ofNat 15 by decide), if_pos (show (7 : Int32) ≤ Int32.ofNat 15 by decide), if_pos (show (9 : Int32) ≤ Int32.ofNat 15 by decide), if_neg (show ¬ Int32.ofNat 15 = 9 by decide), if_neg (show ¬ Int32.ofNat 15 = 10 by decide), if_neg (show ¬ (20 : Int32) ≤ Int32.ofNat 15 by decide)]
  refine fk_pq (fun hp => ⟨fun _ => ⟨fun _ => ⟨fun _ => ⟨fun h => absurd h (show ¬ Int32.ofNat 15 = 9 by decide), fun _ => ⟨fun h => absurd h (show ¬ Int32.ofNat 15 = 10 by decide), fun _ => ⟨fun h => absurd h (show ¬ (20 : Int32) ≤ Int32.ofNat 15 by decide), fun _ => hp⟩⟩⟩, fun h => absurd (show (9 : Int32) ≤ Int32.ofNat 15 by decide) h⟩, fun h => absurd (show (7 : Int32) ≤ Int32.ofNat 15 by decide) h⟩, fun h => absurd (show (4 : Int32) ≤ Int32.ofNat 15 by decide) h⟩) ?_
  have h15 : fmD_in_f (Int32.ofNat 15) 15 17 = 1 := by unfold fmD_in_f; decide
  have hin : fmD_in_f a 0 1 = fk_b (fk_wb a 2) := fk_inD a (m := 2) (by omega)
  rw [h15, hin]
  unfold fk_stp
  rw [show fk_okn D f 15 a k.2.1.length = fk_wb a 2 from rfl]
  cases hb : fk_wb a 2 with
  | false =>
    refine ⟨fk_letI ⟨fun q => absurd q (show ¬ (1 : Int32) = 0 by decide), fun _ => fk_letI ⟨fun _ => trivial, fun q => absurd rfl q⟩⟩, ?_⟩
    rw [fm_letE, if_neg (show ¬ (1 : Int32) = 0 by decide), fm_letE, show fk_b false = 0 from rfl, if_pos rfl, fm_letE]
    exact fk_wr_T hx 1 (by decide)
  | true =>
    have h4 : a ≠ 4 := by
      rintro rfl
      revert hb
      decide
    obtain ⟨t1, t2, -⟩ := fk_take_T h4 hx
    obtain ⟨u1, u2, -⟩ := fk_take_T h4 t2
    obtain ⟨c1, c2⟩ := fk_put_T (t := a) h4 (fk_row_T (D.2.2.1 f) (Int32.ofNat 15) a u2)
    rw [fk_bb, fk_bb] at c2
    have pp : fmD_two_p I a := ⟨t1, fk_letI ⟨u1, fk_letI c1⟩⟩
    have c3 : fk_T I0 (fmD_two_f I a a) (fk_do D f i 15 a k) := by
      unfold fmD_two_f
      rw [fm_letE, fm_letE, fm_letE]
      exact c2
    refine ⟨fk_letI ⟨fun q => absurd q (show ¬ (1 : Int32) = 0 by decide), fun _ => fk_letI ⟨fun q => absurd q (show ¬ fk_b true = 0 by decide), fun _ => ⟨fun _ => pp, fun _ => pp⟩⟩⟩, ?_⟩
    rw [fm_letE, if_neg (show ¬ (1 : Int32) = 0 by decide), fm_letE, show fk_b true = 1 from rfl, if_neg (show ¬ (1 : Int32) = 0 by decide), if_pos (show Int32.ofNat 15 ≤ 17 by decide), fm_letE]
    exact c3
theorem fk_c16 {I0 I : fm_MI} {D : fk_D} {f : Nat} {k : fk_K} (i : Nat) (a : Int32) (hD : fk_mD I0 D) (hdk : fk_dk D) (hf : f < 4) (ht : D.1 f = true) (J : fm_MJ) (G : fm_MG) (pa pb : Nat × Nat) (hx : fk_T I0 I (.inr k)) : fmD_checkOne_p I J G pa pb (Int32.ofNat f) (Int32.ofNat 16) a ∧ fk_T I0 (fmD_checkOne_f I J G pa pb (Int32.ofNat f) (Int32.ofNat 16) a) (fk_stp D f i 16 a k) := by
  unfold fmD_checkOne_p fmD_checkOne_f
  rw [if_pos (show (4 : Int32) ≤ Int32.ofNat 16 by decide), if_pos (show (7 : Int32) ≤ Int32.ofNat 16 by decide), if_pos (show (9 : Int32) ≤ Int32.ofNat 16 by decide), if_neg (show ¬ Int32.ofNat 16 = 9 by decide), if_neg (show ¬ Int32.ofNat 16 = 10 by decide), if_neg (show ¬ (20 : Int32) ≤ Int32.ofNat 16 by decide)]
  refine fk_pq (fun hp => ⟨fun _ => ⟨fun _ => ⟨fun _ => ⟨fun h => absurd h (show ¬ Int32.ofNat 16 = 9 by decide), fun _ => ⟨fun h => absurd h (show ¬ Int32.ofNat 16 = 10 by decide), fun _ => ⟨fun h => absurd h (show ¬ (20 : Int32) ≤ Int32.ofNat 16 by decide), fun _ => hp⟩⟩⟩, fun h => absurd (show (9 : Int32) ≤ Int32.ofNat 16 by decide) h⟩, fun h => absurd (show (7 : Int32) ≤ Int32.ofNat 16 by decide) h⟩, fun h => absurd (show (4 : Int32) ≤ Int32.ofNat 16 by decide) h⟩) ?_
  have h15 : fmD_in_f (Int32.ofNat 16) 15 17 = 1 := by unfold fmD_in_f; decide
  have hin : fmD_in_f a 0 1 = fk_b (fk_wb a 2) := fk_inD a (m := 2) (by omega)
  rw [h15, hin]
  unfold fk_stp
  rw [show fk_okn D f 16 a k.2.1.length = fk_wb a 2 from rfl]
  cases hb : fk_wb a 2 with
  | false =>
    refine ⟨fk_letI ⟨fun q => absurd q (show ¬ (1 : Int32) = 0 by decide), fun _ => fk_letI ⟨fun _ => trivial, fun q => absurd rfl q⟩⟩, ?_⟩
    rw [fm_letE, if_neg (show ¬ (1 : Int32) = 0 by decide), fm_letE, show fk_b false = 0 from rfl, if_pos rfl, fm_letE]
    exact fk_wr_T hx 1 (by decide)
  | true =>
    have h4 : a ≠ 4 := by
      rintro rfl
      revert hb
      decide
    obtain ⟨t1, t2, -⟩ := fk_take_T h4 hx
    obtain ⟨u1, u2, -⟩ := fk_take_T h4 t2
    obtain ⟨c1, c2⟩ := fk_put_T (t := a) h4 (fk_row_T (D.2.2.1 f) (Int32.ofNat 16) a u2)
    rw [fk_bb, fk_bb] at c2
    have pp : fmD_two_p I a := ⟨t1, fk_letI ⟨u1, fk_letI c1⟩⟩
    have c3 : fk_T I0 (fmD_two_f I a a) (fk_do D f i 16 a k) := by
      unfold fmD_two_f
      rw [fm_letE, fm_letE, fm_letE]
      exact c2
    refine ⟨fk_letI ⟨fun q => absurd q (show ¬ (1 : Int32) = 0 by decide), fun _ => fk_letI ⟨fun q => absurd q (show ¬ fk_b true = 0 by decide), fun _ => ⟨fun _ => pp, fun _ => pp⟩⟩⟩, ?_⟩
    rw [fm_letE, if_neg (show ¬ (1 : Int32) = 0 by decide), fm_letE, show fk_b true = 1 from rfl, if_neg (show ¬ (1 : Int32) = 0 by decide), if_pos (show Int32.ofNat 16 ≤ 17 by decide), fm_letE]
    exact c3
theorem fk_c17 {I0 I : fm_MI} {D : fk_D} {f : Nat} {k : fk_K} (i : Nat) (a : Int32) (hD : fk_mD I0 D) (hdk : fk_dk D) (hf : f < 4) (ht : D.1 f = true) (J : fm_MJ) (G : fm_MG) (pa pb : Nat × Nat) (hx : fk_T I0 I (.inr k)) : fmD_checkOne_p I J G pa pb (Int32.ofNat f) (Int32.ofNat 17) a ∧ fk_T I0 (fmD_checkOne_f I J G pa pb (Int32.ofNat f) (Int32.ofNat 17) a) (fk_stp D f i 17 a k) := by
  unfold fmD_checkOne_p fmD_checkOne_f
  rw [if_pos (show (4 : Int32) ≤ Int32.ofNat 17 by decide), if_pos (show (7 : Int32) ≤ Int32.ofNat 17 by decide), if_pos (show (9 : Int32) ≤ Int32.ofNat 17 by decide), if_neg (show ¬ Int32.ofNat 17 = 9 by decide), if_neg (show ¬ Int32.ofNat 17 = 10 by decide), if_neg (show ¬ (20 : Int32) ≤ Int32.ofNat 17 by decide)]
  refine fk_pq (fun hp => ⟨fun _ => ⟨fun _ => ⟨fun _ => ⟨fun h => absurd h (show ¬ Int32.ofNat 17 = 9 by decide), fun _ => ⟨fun h => absurd h (show ¬ Int32.ofNat 17 = 10 by decide), fun _ => ⟨fun h => absurd h (show ¬ (20 : Int32) ≤ Int32.ofNat 17 by decide), fun _ => hp⟩⟩⟩, fun h => absurd (show (9 : Int32) ≤ Int32.ofNat 17 by decide) h⟩, fun h => absurd (show (7 : Int32) ≤ Int32.ofNat 17 by decide) h⟩, fun h => absurd (show (4 : Int32) ≤ Int32.ofNat 17 by decide) h⟩) ?_
  have h15 : fmD_in_f (Int32.ofNat 17) 15 17 = 1 := by unfold fmD_in_f; decide
  have hin : fmD_in_f a 0 1 = fk_b (fk_wb a 2) := fk_inD a (m := 2) (by omega)
  rw [h15, hin]
  unfold fk_stp
  rw [show fk_okn D f 17 a k.2.1.length = fk_wb a 2 from rfl]
  cases hb : fk_wb a 2 with
  | false =>
    refine ⟨fk_letI ⟨fun q => absurd q (show ¬ (1 : Int32) = 0 by decide), fun _ => fk_letI ⟨fun _ => trivial, fun q => absurd rfl q⟩⟩, ?_⟩
    rw [fm_letE, if_neg (show ¬ (1 : Int32) = 0 by decide), fm_letE, show fk_b false = 0 from rfl, if_pos rfl, fm_letE]
    exact fk_wr_T hx 1 (by decide)
  | true =>
    have h4 : a ≠ 4 := by
      rintro rfl
      revert hb
      decide
    obtain ⟨t1, t2, -⟩ := fk_take_T h4 hx
    obtain ⟨u1, u2, -⟩ := fk_take_T h4 t2
    obtain ⟨c1, c2⟩ := fk_put_T (t := a) h4 (fk_row_T (D.2.2.1 f) (Int32.ofNat 17) a u2)
    rw [fk_bb, fk_bb] at c2
    have pp : fmD_two_p I a := ⟨t1, fk_letI ⟨u1, fk_letI c1⟩⟩
    have c3 : fk_T I0 (fmD_two_f I a a) (fk_do D f i 17 a k) := by
      unfold fmD_two_f
      rw [fm_letE, fm_letE, fm_letE]
      exact c2
    refine ⟨fk_letI ⟨fun q => absurd q (show ¬ (1 : Int32) = 0 by decide), fun _ => fk_letI ⟨fun q => absurd q (show ¬ fk_b true = 0 by decide), fun _ => ⟨fun _ => pp, fun _ => pp⟩⟩⟩, ?_⟩
    rw [fm_letE, if_neg (show ¬ (1 : Int32) = 0 by decide), fm_letE, show fk_b true = 1 from rfl, if_neg (show ¬ (1 : Int32) = 0 by decide), if_pos (show Int32.ofNat 17 ≤ 17 by decide), fm_letE]
    exact c3
theorem fk_c18 {I0 I : fm_MI} {D : fk_D} {f : Nat} {k : fk_K} (i : Nat) (a : Int32) (hD : fk_mD I0 D) (hdk : fk_dk D) (hf : f < 4) (ht : D.1 f = true) (J : fm_MJ) (G : fm_MG) (pa pb : Nat × Nat) (hx : fk_T I0 I (.inr k)) : fmD_checkOne_p I J G pa pb (Int32.ofNat f) (Int32.ofNat 18) a ∧ fk_T I0 (fmD_checkOne_f I J G pa pb (Int32.ofNat f) (Int32.ofNat 18) a) (fk_stp D f i 18 a k) := by
  unfold fmD_checkOne_p fmD_checkOne_f
  rw [if_pos (show (4 : Int32) ≤ Int32.ofNat 18 by decide), if_pos (show (7 : Int32) ≤ Int32.ofNat 18 by decide), if_pos (show (9 : Int32) ≤ Int32.ofNat 18 by decide), if_neg (show ¬ Int32.ofNat 18 = 9 by decide), if_neg (show ¬ Int32.ofNat 18 = 10 by decide), if_neg (show ¬ (20 : Int32) ≤ Int32.ofNat 18 by decide)]
  refine fk_pq (fun hp => ⟨fun _ => ⟨fun _ => ⟨fun _ => ⟨fun h => absurd h (show ¬ Int32.ofNat 18 = 9 by decide), fun _ => ⟨fun h => absurd h (show ¬ Int32.ofNat 18 = 10 by decide), fun _ => ⟨fun h => absurd h (show ¬ (20 : Int32) ≤ Int32.ofNat 18 by decide), fun _ => hp⟩⟩⟩, fun h => absurd (show (9 : Int32) ≤ Int32.ofNat 18 by decide) h⟩, fun h => absurd (show (7 : Int32) ≤ Int32.ofNat 18 by decide) h⟩, fun h => absurd (show (4 : Int32) ≤ Int32.ofNat 18 by decide) h⟩) ?_
  have h15 : fmD_in_f (Int32.ofNat 18) 15 17 = 0 := by unfold fmD_in_f; decide
  have hin : fmD_in_f a 0 3 = fk_b (fk_wb a 4) := fk_inD a (m := 4) (by omega)
  rw [h15, hin]
  unfold fk_stp
  rw [show fk_okn D f 18 a k.2.1.length = fk_wb a 4 from rfl]
  cases hb : fk_wb a 4 with
  | false =>
    refine ⟨fk_letI ⟨fun _ => fk_letI ⟨fun _ => trivial, fun q => absurd rfl q⟩, fun q => absurd rfl q⟩, ?_⟩
    rw [fm_letE, if_pos rfl, fm_letE, show fk_b false = 0 from rfl, if_pos rfl, fm_letE]
    exact fk_wr_T hx 1 (by decide)
  | true =>
    have h4 : a ≠ 4 := by
      rintro rfl
      revert hb
      decide
    obtain ⟨t1, t2, -⟩ := fk_take_T h4 hx
    obtain ⟨u1, u2, -⟩ := fk_take_T h4 t2
    obtain ⟨c1, c2⟩ := fk_put_T (t := 0) (by decide) (fk_row_T (D.2.2.1 f) (Int32.ofNat 18) a u2)
    rw [fk_bb, fk_bb] at c2
    have pp : fmD_two_p I a := ⟨t1, fk_letI ⟨u1, fk_letI c1⟩⟩
    have c3 : fk_T I0 (fmD_two_f I a 0) (fk_do D f i 18 a k) := by
      unfold fmD_two_f
      rw [fm_letE, fm_letE, fm_letE]
      exact c2
    refine ⟨fk_letI ⟨fun _ => fk_letI ⟨fun q => absurd q (show ¬ fk_b true = 0 by decide), fun _ => ⟨fun _ => pp, fun _ => pp⟩⟩, fun q => absurd rfl q⟩, ?_⟩
    rw [fm_letE, if_pos rfl, fm_letE, show fk_b true = 1 from rfl, if_neg (show ¬ (1 : Int32) = 0 by decide), if_neg (show ¬ Int32.ofNat 18 ≤ 17 by decide), fm_letE]
    exact c3
theorem fk_c19 {I0 I : fm_MI} {D : fk_D} {f : Nat} {k : fk_K} (i : Nat) (a : Int32) (hD : fk_mD I0 D) (hdk : fk_dk D) (hf : f < 4) (ht : D.1 f = true) (J : fm_MJ) (G : fm_MG) (pa pb : Nat × Nat) (hx : fk_T I0 I (.inr k)) : fmD_checkOne_p I J G pa pb (Int32.ofNat f) (Int32.ofNat 19) a ∧ fk_T I0 (fmD_checkOne_f I J G pa pb (Int32.ofNat f) (Int32.ofNat 19) a) (fk_stp D f i 19 a k) := by
  unfold fmD_checkOne_p fmD_checkOne_f
  rw [if_pos (show (4 : Int32) ≤ Int32.ofNat 19 by decide), if_pos (show (7 : Int32) ≤ Int32.ofNat 19 by decide), if_pos (show (9 : Int32) ≤ Int32.ofNat 19 by decide), if_neg (show ¬ Int32.ofNat 19 = 9 by decide), if_neg (show ¬ Int32.ofNat 19 = 10 by decide), if_neg (show ¬ (20 : Int32) ≤ Int32.ofNat 19 by decide)]
  refine fk_pq (fun hp => ⟨fun _ => ⟨fun _ => ⟨fun _ => ⟨fun h => absurd h (show ¬ Int32.ofNat 19 = 9 by decide), fun _ => ⟨fun h => absurd h (show ¬ Int32.ofNat 19 = 10 by decide), fun _ => ⟨fun h => absurd h (show ¬ (20 : Int32) ≤ Int32.ofNat 19 by decide), fun _ => hp⟩⟩⟩, fun h => absurd (show (9 : Int32) ≤ Int32.ofNat 19 by decide) h⟩, fun h => absurd (show (7 : Int32) ≤ Int32.ofNat 19 by decide) h⟩, fun h => absurd (show (4 : Int32) ≤ Int32.ofNat 19 by decide) h⟩) ?_
  have h15 : fmD_in_f (Int32.ofNat 19) 15 17 = 0 := by unfold fmD_in_f; decide
  have hin : fmD_in_f a 0 3 = fk_b (fk_wb a 4) := fk_inD a (m := 4) (by omega)
  rw [h15, hin]
  unfold fk_stp
  rw [show fk_okn D f 19 a k.2.1.length = fk_wb a 4 from rfl]
  cases hb : fk_wb a 4 with
  | false =>
    refine ⟨fk_letI ⟨fun _ => fk_letI ⟨fun _ => trivial, fun q => absurd rfl q⟩, fun q => absurd rfl q⟩, ?_⟩
    rw [fm_letE, if_pos rfl, fm_letE, show fk_b false = 0 from rfl, if_pos rfl, fm_letE]
    exact fk_wr_T hx 1 (by decide)
  | true =>
    have h4 : a ≠ 4 := by
      rintro rfl
      revert hb
      decide
    obtain ⟨t1, t2, -⟩ := fk_take_T h4 hx
    obtain ⟨u1, u2, -⟩ := fk_take_T h4 t2
    obtain ⟨c1, c2⟩ := fk_put_T (t := 0) (by decide) (fk_row_T (D.2.2.1 f) (Int32.ofNat 19) a u2)
    rw [fk_bb, fk_bb] at c2
    have pp : fmD_two_p I a := ⟨t1, fk_letI ⟨u1, fk_letI c1⟩⟩
    have c3 : fk_T I0 (fmD_two_f I a 0) (fk_do D f i 19 a k) := by
      unfold fmD_two_f
      rw [fm_letE, fm_letE, fm_letE]
      exact c2
    refine ⟨fk_letI ⟨fun _ => fk_letI ⟨fun q => absurd q (show ¬ fk_b true = 0 by decide), fun _ => ⟨fun _ => pp, fun _ => pp⟩⟩, fun q => absurd rfl q⟩, ?_⟩
    rw [fm_letE, if_pos rfl, fm_letE, show fk_b true = 1 from rfl, if_neg (show ¬ (1 : Int32) = 0 by decide), if_neg (show ¬ Int32.ofNat 19 ≤ 17 by decide), fm_letE]
    exact c3
theorem fk_c20 {I0 I : fm_MI} {D : fk_D} {f : Nat} {k : fk_K} (i : Nat) (a : Int32) (hD : fk_mD I0 D) (hdk : fk_dk D) (hf : f < 4) (ht : D.1 f = true) (J : fm_MJ) (G : fm_MG) (pa pb : Nat × Nat) (hx : fk_T I0 I (.inr k)) : fmD_checkOne_p I J G pa pb (Int32.ofNat f) (Int32.ofNat 20) a ∧ fk_T I0 (fmD_checkOne_f I J G pa pb (Int32.ofNat f) (Int32.ofNat 20) a) (fk_stp D f i 20 a k) := by
  unfold fmD_checkOne_p fmD_checkOne_f
  rw [if_pos (show (4 : Int32) ≤ Int32.ofNat 20 by decide), if_pos (show (7 : Int32) ≤ Int32.ofNat 20 by decide), if_pos (show (9 : Int32) ≤ Int32.ofNat 20 by decide), if_neg (show ¬ Int32.ofNat 20 = 9 by decide), if_neg (show ¬ Int32.ofNat 20 = 10 by decide), if_pos (show (20 : Int32) ≤ Int32.ofNat 20 by decide), if_pos (show Int32.ofNat 20 = 20 by decide)]
  refine fk_pq (fun hp => ⟨fun _ => ⟨fun _ => ⟨fun _ => ⟨fun h => absurd h (show ¬ Int32.ofNat 20 = 9 by decide), fun _ => ⟨fun h => absurd h (show ¬ Int32.ofNat 20 = 10 by decide), fun _ => ⟨fun _ => ⟨fun _ => hp, fun h => absurd (show Int32.ofNat 20 = 20 by decide) h⟩, fun h => absurd (show (20 : Int32) ≤ Int32.ofNat 20 by decide) h⟩⟩⟩, fun h => absurd (show (9 : Int32) ≤ Int32.ofNat 20 by decide) h⟩, fun h => absurd (show (7 : Int32) ≤ Int32.ofNat 20 by decide) h⟩, fun h => absurd (show (4 : Int32) ≤ Int32.ofNat 20 by decide) h⟩) ?_
  try unfold fm_let
  try dsimp only
  have hin : fmD_in_f a 0 15 = fk_b (fk_wb a 16) := fk_inD a (m := 16) (by omega)
  rw [hin]
  unfold fk_stp
  rw [show fk_okn D f 20 a k.2.1.length = fk_wb a 16 from rfl]
  cases hb : fk_wb a 16 with
  | false =>
    rw [show fk_b false = 0 from rfl, if_pos rfl]
    exact ⟨⟨fun _ => trivial, fun q => absurd rfl q⟩, fk_wr_T hx 1 (by decide)⟩
  | true =>
    rw [show fk_b true = 1 from rfl, if_neg (by decide)]
    obtain ⟨h4, h4'⟩ := fk_div4 hb
    obtain ⟨t1, t2, -⟩ := fk_take_T h4 hx
    obtain ⟨c1, c2⟩ := fk_put_T h4' (fk_row_T (D.2.2.1 f) (Int32.ofNat 20) a t2)
    rw [fk_bb] at c2
    exact ⟨⟨fun q => absurd q (by decide), fun _ => ⟨t1, c1⟩⟩, c2⟩
theorem fk_c29 {I0 I : fm_MI} {D : fk_D} {f : Nat} {k : fk_K} (i : Nat) (a : Int32) (hD : fk_mD I0 D) (hdk : fk_dk D) (hf : f < 4) (ht : D.1 f = true) (J : fm_MJ) (G : fm_MG) (pa pb : Nat × Nat) (hx : fk_T I0 I (.inr k)) : fmD_checkOne_p I J G pa pb (Int32.ofNat f) (Int32.ofNat 29) a ∧ fk_T I0 (fmD_checkOne_f I J G pa pb (Int32.ofNat f) (Int32.ofNat 29) a) (fk_stp D f i 29 a k) := by
  unfold fmD_checkOne_p fmD_checkOne_f
  rw [if_pos (show (4 : Int32) ≤ Int32.ofNat 29 by decide), if_pos (show (7 : Int32) ≤ Int32.ofNat 29 by decide), if_pos (show (9 : Int32) ≤ Int32.ofNat 29 by decide), if_neg (show ¬ Int32.ofNat 29 = 9 by decide), if_neg (show ¬ Int32.ofNat 29 = 10 by decide), if_pos (show (20 : Int32) ≤ Int32.ofNat 29 by decide), if_neg (show ¬ Int32.ofNat 29 = 20 by decide), if_pos (show (26 : Int32) ≤ Int32.ofNat 29 by decide), if_pos (show (28 : Int32) ≤ Int32.ofNat 29 by decide), if_neg (show ¬ Int32.ofNat 29 = 28 by decide), if_pos (show Int32.ofNat 29 = 29 by decide)]
  refine fk_pq (fun hp => ⟨fun _ => ⟨fun _ => ⟨fun _ => ⟨fun h => absurd h (show ¬ Int32.ofNat 29 = 9 by decide), fun _ => ⟨fun h => absurd h (show ¬ Int32.ofNat 29 = 10 by decide), fun _ => ⟨fun _ => ⟨fun h => absurd h (show ¬ Int32.ofNat 29 = 20 by decide), fun _ => ⟨fun _ => ⟨fun _ => ⟨fun h => absurd h (show ¬ Int32.ofNat 29 = 28 by decide), fun _ => ⟨fun _ => hp, fun h => absurd (show Int32.ofNat 29 = 29 by decide) h⟩⟩, fun h => absurd (show (28 : Int32) ≤ Int32.ofNat 29 by decide) h⟩, fun h => absurd (show (26 : Int32) ≤ Int32.ofNat 29 by decide) h⟩⟩, fun h => absurd (show (20 : Int32) ≤ Int32.ofNat 29 by decide) h⟩⟩⟩, fun h => absurd (show (9 : Int32) ≤ Int32.ofNat 29 by decide) h⟩, fun h => absurd (show (7 : Int32) ≤ Int32.ofNat 29 by decide) h⟩, fun h => absurd (show (4 : Int32) ≤ Int32.ofNat 29 by decide) h⟩) ?_
  have hin : fmD_in_f a 0 3 = fk_b (fk_wb a 4) := fk_inD a (m := 4) (by omega)
  have hisF : fmD_isFunction_f I a = fk_b (fk_wb a 4 && D.1 a.toNatClampNeg) ∧ fmD_isFunction_p a := by
    unfold fmD_isFunction_p fmD_isFunction_f
    rw [hin]
    cases hb : fk_wb a 4 with
    | false => exact ⟨rfl, fk_letI ⟨fun _ => trivial, fun q => absurd rfl q⟩⟩
    | true =>
      obtain ⟨hv, h4⟩ := fk_wbi hb
      obtain ⟨hth, -⟩ := hD _ h4
      have h32 : I 32 0 a.toNatClampNeg = fk_b (D.1 a.toNatClampNeg) := (hx.1 32 0 _ (Or.inl (by decide)) (fun q => absurd q (by decide))).trans hth
      refine ⟨?_, fk_letI ⟨fun _ => trivial, fun _ => hv⟩⟩
      rw [fm_letE, show fk_b true = 1 from rfl, if_neg (show ¬ (1 : Int32) = 0 by decide), h32]
      cases D.1 a.toNatClampNeg <;> rfl
  unfold fmD_checkCall_p fmD_checkCall_f
  rw [hisF.1]
  unfold fk_stp
  rw [show fk_okn D f 29 a k.2.1.length = (fk_wb a 4 && D.1 a.toNatClampNeg) from rfl]
  cases hb : (fk_wb a 4 && D.1 a.toNatClampNeg) with
  | false =>
    refine ⟨⟨hisF.2, fk_letI ⟨fun _ => trivial, fun q => absurd rfl q⟩⟩, ?_⟩
    rw [fm_letE, fm_letE, show fk_b false = 0 from rfl, if_pos rfl, fm_letE]
    exact fk_wr_T hx 1 (by decide)
  | true =>
    have hb2 : fk_wb a 4 = true ∧ D.1 a.toNatClampNeg = true := by simpa using hb
    obtain ⟨hb1, hc⟩ := hb2
    obtain ⟨hv, h4⟩ := fk_wbi hb1
    have ha : a = Int32.ofNat a.toNatClampNeg := fk_ofc hv
    obtain ⟨-, hg⟩ := hD _ h4
    obtain ⟨g1, g2, g3, g4, g5, g6⟩ := hg hc
    obtain ⟨d1, d2, d3, d4, d5, d6, d7⟩ := hdk _ h4 hc
    have h28 : I 28 0 a.toNatClampNeg = Int32.ofNat (D.2.1 a.toNatClampNeg) := (hx.1 28 0 _ (Or.inl (by decide)) (fun q => absurd q (by decide))).trans g1
    obtain ⟨p1, p2⟩ := fk_pars_T (g := a.toNatClampNeg) (nl := D.2.2.1 f) (ty := D.2.2.2.2.1 a.toNatClampNeg) J G pa pb a h4 g3 (D.2.1 a.toNatClampNeg) 4 I _ (by omega) (by omega) (fun j hj => ⟨g5 j (by omega), fk_wb4 (d6 j (by omega))⟩) hx
    rw [← ha, ← h28] at p1 p2
    refine ⟨⟨hisF.2, fk_letI ⟨fun q => absurd q (show ¬ fk_b true = 0 by decide), fun _ => ⟨hv, p1⟩⟩⟩, ?_⟩
    rw [fm_letE, fm_letE, show fk_b true = 1 from rfl, if_neg (show ¬ (1 : Int32) = 0 by decide)]
    exact p2
theorem fk_c30 {I0 I : fm_MI} {D : fk_D} {f : Nat} {k : fk_K} (i : Nat) (a : Int32) (hD : fk_mD I0 D) (hdk : fk_dk D) (hf : f < 4) (ht : D.1 f = true) (J : fm_MJ) (G : fm_MG) (pa pb : Nat × Nat) (hx : fk_T I0 I (.inr k)) : fmD_checkOne_p I J G pa pb (Int32.ofNat f) (Int32.ofNat 30) a ∧ fk_T I0 (fmD_checkOne_f I J G pa pb (Int32.ofNat f) (Int32.ofNat 30) a) (fk_stp D f i 30 a k) := by
  unfold fmD_checkOne_p fmD_checkOne_f
  rw [if_pos (show (4 : Int32) ≤ Int32.ofNat 30 by decide), if_pos (show (7 : Int32) ≤ Int32.ofNat 30 by decide), if_pos (show (9 : Int32) ≤ Int32.ofNat 30 by decide), if_neg (show ¬ Int32.ofNat 30 = 9 by decide), if_neg (show ¬ Int32.ofNat 30 = 10 by decide), if_pos (show (20 : Int32) ≤ Int32.ofNat 30 by decide), if_neg (show ¬ Int32.ofNat 30 = 20 by decide), if_pos (show (26 : Int32) ≤ Int32.ofNat 30 by decide), if_pos (show (28 : Int32) ≤ Int32.ofNat 30 by decide), if_neg (show ¬ Int32.ofNat 30 = 28 by decide), if_neg (show ¬ Int32.ofNat 30 = 29 by decide)]
  refine fk_pq (fun hp => ⟨fun _ => ⟨fun _ => ⟨fun _ => ⟨fun h => absurd h (show ¬ Int32.ofNat 30 = 9 by decide), fun _ => ⟨fun h => absurd h (show ¬ Int32.ofNat 30 = 10 by decide), fun _ => ⟨fun _ => ⟨fun h => absurd h (show ¬ Int32.ofNat 30 = 20 by decide), fun _ => ⟨fun _ => ⟨fun _ => ⟨fun h => absurd h (show ¬ Int32.ofNat 30 = 28 by decide), fun _ => ⟨fun h => absurd h (show ¬ Int32.ofNat 30 = 29 by decide), fun _ => hp⟩⟩, fun h => absurd (show (28 : Int32) ≤ Int32.ofNat 30 by decide) h⟩, fun h => absurd (show (26 : Int32) ≤ Int32.ofNat 30 by decide) h⟩⟩, fun h => absurd (show (20 : Int32) ≤ Int32.ofNat 30 by decide) h⟩⟩⟩, fun h => absurd (show (9 : Int32) ≤ Int32.ofNat 30 by decide) h⟩, fun h => absurd (show (7 : Int32) ≤ Int32.ofNat 30 by decide) h⟩, fun h => absurd (show (4 : Int32) ≤ Int32.ofNat 30 by decide) h⟩) ?_
  try unfold fm_let
  try dsimp only
  obtain ⟨c1, c2⟩ := fk_die_T (fk_row_T (D.2.2.1 f) (Int32.ofNat 30) a hx)
  exact ⟨c1, c2⟩
theorem fk_lE {α : Type} (x : α) (f : α → fm_MI) : fm_let x f = f x := rfl
theorem fk_c21 {I0 I : fm_MI} {D : fk_D} {f : Nat} {k : fk_K} (i : Nat) (a : Int32) (hD : fk_mD I0 D) (hdk : fk_dk D) (hf : f < 4) (ht : D.1 f = true) (J : fm_MJ) (G : fm_MG) (pa pb : Nat × Nat) (hx : fk_T I0 I (.inr k)) : fmD_checkOne_p I J G pa pb (Int32.ofNat f) (Int32.ofNat 21) a ∧ fk_T I0 (fmD_checkOne_f I J G pa pb (Int32.ofNat f) (Int32.ofNat 21) a) (fk_stp D f i 21 a k) := by
  unfold fmD_checkOne_p fmD_checkOne_f
  rw [if_pos (show (4 : Int32) ≤ Int32.ofNat 21 by decide), if_pos (show (7 : Int32) ≤ Int32.ofNat 21 by decide), if_pos (show (9 : Int32) ≤ Int32.ofNat 21 by decide), if_neg (show ¬ Int32.ofNat 21 = 9 by decide), if_neg (show ¬ Int32.ofNat 21 = 10 by decide), if_pos (show (20 : Int32) ≤ Int32.ofNat 21 by decide), if_neg (show ¬ Int32.ofNat 21 = 20 by decide), if_neg (show ¬ (26 : Int32) ≤ Int32.ofNat 21 by decide)]
  refine fk_pq (fun hp => ⟨fun _ => ⟨fun _ => ⟨fun _ => ⟨fun h => absurd h (show ¬ Int32.ofNat 21 = 9 by decide), fun _ => ⟨fun h => absurd h (show ¬ Int32.ofNat 21 = 10 by decide), fun _ => ⟨fun _ => ⟨fun h => absurd h (show ¬ Int32.ofNat 21 = 20 by decide), fun _ => ⟨fun h => absurd h (show ¬ (26 : Int32) ≤ Int32.ofNat 21 by decide), fun _ => hp⟩⟩, fun h => absurd (show (20 : Int32) ≤ Int32.ofNat 21 by decide) h⟩⟩⟩, fun h => absurd (show (9 : Int32) ≤ Int32.ofNat 21 by decide) h⟩, fun h => absurd (show (7 : Int32) ≤ Int32.ofNat 21 by decide) h⟩, fun h => absurd (show (4 : Int32) ≤ Int32.ofNat 21 by decide) h⟩) ?_
  have hin : fmD_in_f a 0 4 = fk_b (fk_wb a 5) := fk_inD a (m := 5) (by omega)
  rw [fk_lE]
  unfold fmD_checkFrame_p fmD_checkFrame_f
  rw [hin, if_neg (show ¬ (24 : Int32) ≤ Int32.ofNat 21 by decide)]
  refine fk_pq (fun hp => ⟨fun h => absurd h (show ¬ (24 : Int32) ≤ Int32.ofNat 21 by decide), fun _ => hp⟩) ?_
  unfold fk_stp
  rw [show fk_okn D f 21 a k.2.1.length = fk_wb a 5 from rfl]
  cases hb : fk_wb a 5 with
  | false =>
    refine ⟨fk_letI ⟨fun _ => trivial, fun q => absurd rfl q⟩, ?_⟩
    rw [fk_lE, show fk_b false = 0 from rfl, if_pos rfl, fk_lE]
    exact fk_wr_T hx 1 (by decide)
  | true =>
    obtain ⟨c1, c2⟩ := fk_beg_T i (Int32.ofNat 21) a (-1) hx
    refine ⟨fk_letI ⟨fun q => absurd q (show ¬ fk_b true = 0 by decide), fun _ => ⟨fun h => absurd h (show ¬ Int32.ofNat 21 = 23 by decide), fun _ => c1⟩⟩, ?_⟩
    rw [fk_lE, show fk_b true = 1 from rfl, if_neg (show ¬ (1 : Int32) = 0 by decide), if_neg (show ¬ Int32.ofNat 21 = 23 by decide), fk_lE]
    exact c2
theorem fk_c22 {I0 I : fm_MI} {D : fk_D} {f : Nat} {k : fk_K} (i : Nat) (a : Int32) (hD : fk_mD I0 D) (hdk : fk_dk D) (hf : f < 4) (ht : D.1 f = true) (J : fm_MJ) (G : fm_MG) (pa pb : Nat × Nat) (hx : fk_T I0 I (.inr k)) : fmD_checkOne_p I J G pa pb (Int32.ofNat f) (Int32.ofNat 22) a ∧ fk_T I0 (fmD_checkOne_f I J G pa pb (Int32.ofNat f) (Int32.ofNat 22) a) (fk_stp D f i 22 a k) := by
  unfold fmD_checkOne_p fmD_checkOne_f
  rw [if_pos (show (4 : Int32) ≤ Int32.ofNat 22 by decide), if_pos (show (7 : Int32) ≤ Int32.ofNat 22 by decide), if_pos (show (9 : Int32) ≤ Int32.ofNat 22 by decide), if_neg (show ¬ Int32.ofNat 22 = 9 by decide), if_neg (show ¬ Int32.ofNat 22 = 10 by decide), if_pos (show (20 : Int32) ≤ Int32.ofNat 22 by decide), if_neg (show ¬ Int32.ofNat 22 = 20 by decide), if_neg (show ¬ (26 : Int32) ≤ Int32.ofNat 22 by decide)]
  refine fk_pq (fun hp => ⟨fun _ => ⟨fun _ => ⟨fun _ => ⟨fun h => absurd h (show ¬ Int32.ofNat 22 = 9 by decide), fun _ => ⟨fun h => absurd h (show ¬ Int32.ofNat 22 = 10 by decide), fun _ => ⟨fun _ => ⟨fun h => absurd h (show ¬ Int32.ofNat 22 = 20 by decide), fun _ => ⟨fun h => absurd h (show ¬ (26 : Int32) ≤ Int32.ofNat 22 by decide), fun _ => hp⟩⟩, fun h => absurd (show (20 : Int32) ≤ Int32.ofNat 22 by decide) h⟩⟩⟩, fun h => absurd (show (9 : Int32) ≤ Int32.ofNat 22 by decide) h⟩, fun h => absurd (show (7 : Int32) ≤ Int32.ofNat 22 by decide) h⟩, fun h => absurd (show (4 : Int32) ≤ Int32.ofNat 22 by decide) h⟩) ?_
  have hin : fmD_in_f a 0 4 = fk_b (fk_wb a 5) := fk_inD a (m := 5) (by omega)
  rw [fk_lE]
  unfold fmD_checkFrame_p fmD_checkFrame_f
  rw [hin, if_neg (show ¬ (24 : Int32) ≤ Int32.ofNat 22 by decide)]
  refine fk_pq (fun hp => ⟨fun h => absurd h (show ¬ (24 : Int32) ≤ Int32.ofNat 22 by decide), fun _ => hp⟩) ?_
  unfold fk_stp
  rw [show fk_okn D f 22 a k.2.1.length = fk_wb a 5 from rfl]
  cases hb : fk_wb a 5 with
  | false =>
    refine ⟨fk_letI ⟨fun _ => trivial, fun q => absurd rfl q⟩, ?_⟩
    rw [fk_lE, show fk_b false = 0 from rfl, if_pos rfl, fk_lE]
    exact fk_wr_T hx 1 (by decide)
  | true =>
    obtain ⟨c1, c2⟩ := fk_beg_T i (Int32.ofNat 22) a (-1) hx
    refine ⟨fk_letI ⟨fun q => absurd q (show ¬ fk_b true = 0 by decide), fun _ => ⟨fun h => absurd h (show ¬ Int32.ofNat 22 = 23 by decide), fun _ => c1⟩⟩, ?_⟩
    rw [fk_lE, show fk_b true = 1 from rfl, if_neg (show ¬ (1 : Int32) = 0 by decide), if_neg (show ¬ Int32.ofNat 22 = 23 by decide), fk_lE]
    exact c2
theorem fk_c23 {I0 I : fm_MI} {D : fk_D} {f : Nat} {k : fk_K} (i : Nat) (a : Int32) (hD : fk_mD I0 D) (hdk : fk_dk D) (hf : f < 4) (ht : D.1 f = true) (J : fm_MJ) (G : fm_MG) (pa pb : Nat × Nat) (hx : fk_T I0 I (.inr k)) : fmD_checkOne_p I J G pa pb (Int32.ofNat f) (Int32.ofNat 23) a ∧ fk_T I0 (fmD_checkOne_f I J G pa pb (Int32.ofNat f) (Int32.ofNat 23) a) (fk_stp D f i 23 a k) := by
  unfold fmD_checkOne_p fmD_checkOne_f
  rw [if_pos (show (4 : Int32) ≤ Int32.ofNat 23 by decide), if_pos (show (7 : Int32) ≤ Int32.ofNat 23 by decide), if_pos (show (9 : Int32) ≤ Int32.ofNat 23 by decide), if_neg (show ¬ Int32.ofNat 23 = 9 by decide), if_neg (show ¬ Int32.ofNat 23 = 10 by decide), if_pos (show (20 : Int32) ≤ Int32.ofNat 23 by decide), if_neg (show ¬ Int32.ofNat 23 = 20 by decide), if_neg (show ¬ (26 : Int32) ≤ Int32.ofNat 23 by decide)]
  refine fk_pq (fun hp => ⟨fun _ => ⟨fun _ => ⟨fun _ => ⟨fun h => absurd h (show ¬ Int32.ofNat 23 = 9 by decide), fun _ => ⟨fun h => absurd h (show ¬ Int32.ofNat 23 = 10 by decide), fun _ => ⟨fun _ => ⟨fun h => absurd h (show ¬ Int32.ofNat 23 = 20 by decide), fun _ => ⟨fun h => absurd h (show ¬ (26 : Int32) ≤ Int32.ofNat 23 by decide), fun _ => hp⟩⟩, fun h => absurd (show (20 : Int32) ≤ Int32.ofNat 23 by decide) h⟩⟩⟩, fun h => absurd (show (9 : Int32) ≤ Int32.ofNat 23 by decide) h⟩, fun h => absurd (show (7 : Int32) ≤ Int32.ofNat 23 by decide) h⟩, fun h => absurd (show (4 : Int32) ≤ Int32.ofNat 23 by decide) h⟩) ?_
  have hin : fmD_in_f a 0 4 = fk_b (fk_wb a 5) := fk_inD a (m := 5) (by omega)
  rw [fk_lE]
  unfold fmD_checkFrame_p fmD_checkFrame_f
  rw [hin, if_neg (show ¬ (24 : Int32) ≤ Int32.ofNat 23 by decide)]
  refine fk_pq (fun hp => ⟨fun h => absurd h (show ¬ (24 : Int32) ≤ Int32.ofNat 23 by decide), fun _ => hp⟩) ?_
  unfold fk_stp
  rw [show fk_okn D f 23 a k.2.1.length = fk_wb a 5 from rfl]
  cases hb : fk_wb a 5 with
  | false =>
    refine ⟨fk_letI ⟨fun _ => trivial, fun q => absurd rfl q⟩, ?_⟩
    rw [fk_lE, show fk_b false = 0 from rfl, if_pos rfl, fk_lE]
    exact fk_wr_T hx 1 (by decide)
  | true =>
    obtain ⟨t1, t2, -⟩ := fk_take_T (w := 0) (by decide) hx
    obtain ⟨c1, -⟩ := fk_beg_T i (Int32.ofNat 23) a (-1) t2
    refine ⟨fk_letI ⟨fun q => absurd q (show ¬ fk_b true = 0 by decide), fun _ => ⟨fun _ => ⟨t1, fk_letI c1⟩, fun h => absurd (show Int32.ofNat 23 = 23 by decide) h⟩⟩, ?_⟩
    rw [fk_lE, show fk_b true = 1 from rfl, if_neg (show ¬ (1 : Int32) = 0 by decide), if_pos (show Int32.ofNat 23 = 23 by decide), fk_lE, fk_lE]
    show fk_T I0 _ (fk_bind (fk_tk 0 k) (fun k => fk_open i (Int32.ofNat 23) a (if fk_lv k.2.1 = true then Int32.ofNat k.2.2.1 else -1) (fk_row (D.2.2.1 f) (Int32.ofNat 23) a k)))
    have t3 : fk_T I0 (fmD_take_f I 0).2 (fk_tk 0 k) := t2
    cases h1 : fk_tk 0 k with
    | inl c =>
      rw [h1] at t3
      exact (fk_beg_T i (Int32.ofNat 23) a (-1) t3).2
    | inr k1 =>
      rw [h1] at t3
      exact (fk_beg_T i (Int32.ofNat 23) a (if fk_lv k1.2.1 = true then Int32.ofNat k1.2.2.1 else -1) (fk_row_T (D.2.2.1 f) (Int32.ofNat 23) a t3)).2
theorem fk_c24 {I0 I : fm_MI} {D : fk_D} {f : Nat} {k : fk_K} (i : Nat) (a : Int32) (hD : fk_mD I0 D) (hdk : fk_dk D) (hf : f < 4) (ht : D.1 f = true) (J : fm_MJ) (G : fm_MG) (pa pb : Nat × Nat) (hx : fk_T I0 I (.inr k)) (h0 : ∀ fr, k.2.1 = [fr] → fr.1 ≠ 23) : fmD_checkOne_p I J G pa pb (Int32.ofNat f) (Int32.ofNat 24) a ∧ fk_T I0 (fmD_checkOne_f I J G pa pb (Int32.ofNat f) (Int32.ofNat 24) a) (fk_stp D f i 24 a k) := by
  unfold fmD_checkOne_p fmD_checkOne_f
  rw [if_pos (show (4 : Int32) ≤ Int32.ofNat 24 by decide), if_pos (show (7 : Int32) ≤ Int32.ofNat 24 by decide), if_pos (show (9 : Int32) ≤ Int32.ofNat 24 by decide), if_neg (show ¬ Int32.ofNat 24 = 9 by decide), if_neg (show ¬ Int32.ofNat 24 = 10 by decide), if_pos (show (20 : Int32) ≤ Int32.ofNat 24 by decide), if_neg (show ¬ Int32.ofNat 24 = 20 by decide), if_neg (show ¬ (26 : Int32) ≤ Int32.ofNat 24 by decide)]
  refine fk_pq (fun hp => ⟨fun _ => ⟨fun _ => ⟨fun _ => ⟨fun h => absurd h (show ¬ Int32.ofNat 24 = 9 by decide), fun _ => ⟨fun h => absurd h (show ¬ Int32.ofNat 24 = 10 by decide), fun _ => ⟨fun _ => ⟨fun h => absurd h (show ¬ Int32.ofNat 24 = 20 by decide), fun _ => ⟨fun h => absurd h (show ¬ (26 : Int32) ≤ Int32.ofNat 24 by decide), fun _ => hp⟩⟩, fun h => absurd (show (20 : Int32) ≤ Int32.ofNat 24 by decide) h⟩⟩⟩, fun h => absurd (show (9 : Int32) ≤ Int32.ofNat 24 by decide) h⟩, fun h => absurd (show (7 : Int32) ≤ Int32.ofNat 24 by decide) h⟩, fun h => absurd (show (4 : Int32) ≤ Int32.ofNat 24 by decide) h⟩) ?_
  rw [fk_lE]
  unfold fmD_checkFrame_p fmD_checkFrame_f
  rw [if_pos (show (24 : Int32) ≤ Int32.ofNat 24 by decide), if_pos (show Int32.ofNat 24 = 24 by decide)]
  refine fk_pq (fun hp => ⟨fun _ => ⟨fun _ => hp, fun h => absurd (show Int32.ofNat 24 = 24 by decide) h⟩, fun h => absurd (show (24 : Int32) ≤ Int32.ofNat 24 by decide) h⟩) ?_
  show _ ∧ fk_T I0 _ (fk_else (D.2.2.1 f) k)
  obtain ⟨ts, fs, q⟩ := k
  cases fs with
  | nil => exact absurd hx.2.2.2.2.2.2.1 (by simp)
  | cons fr fs =>
    obtain ⟨o1, o2, o3, o4, o5⟩ := fk_o_T hx
    have c := hx.2.2.2.2.2.2.2.2.1.1
    rw [o4, c.2.2.1]
    by_cases h23 : fr.1 = 23
    · have hfs : fs ≠ [] := by
        rintro rfl
        exact h0 fr rfl h23
      have hfl : 1 ≤ fs.length := by
        cases fs with
        | nil => exact absurd rfl hfs
        | cons _ _ => simp
      have h1 : ¬ I 24 0 16 = 1 := by
        rw [o1]
        exact fun q => absurd ((fk_ie (b := 1) (by omega) (by omega)).mp q) (by omega)
      rw [if_pos h23, if_neg h1]
      refine fk_pq (fun hp => ⟨o5, fun _ => ⟨fun q => absurd q h1, fun _ => hp⟩, fun q => absurd h23 q⟩) ?_
      obtain ⟨f1, f2⟩ := fk_fin_T hx
      generalize fmD_finish_f I = r at f2 ⊢
      have hft := (fk_ft f2).1
      simp only [fk_else, if_pos h23]
      cases hj : fk_just (ts, fr :: fs, q) with
      | inl c' =>
        rw [hj] at f2 hft
        have hn : ¬ r 24 0 17 ≤ 0 := fun q => by obtain ⟨k, q⟩ := hft.mp q; cases q
        refine ⟨⟨f1, fk_letI ⟨fun q => absurd q hn, fun _ => trivial⟩⟩, ?_⟩
        rw [fk_lE, if_neg hn]
        exact f2
      | inr k' =>
        rw [hj] at f2 hft
        obtain ⟨ts', fs', q'⟩ := k'
        obtain ⟨z1, z2, -, z3⟩ := fk_just_i hj
        subst z1; subst z2
        have hp : r 24 0 17 ≤ 0 := hft.mpr ⟨_, rfl⟩
        obtain ⟨p1, p2, p3, p4, p5⟩ := fk_o_T f2
        have pop := fk_pop_T f2 (by simp; omega)
        have hgv : r 37 0 fs.length = fr.2.1 := f2.2.2.2.2.2.2.2.2.1.1.2.1
        have hbase : fr.2.2.1 = ts'.length := by
          have := f2.2.2.2.2.2.2.2.2.2.1.1
          dsimp only at this
          omega
        obtain ⟨b1, b2⟩ := fk_beg_T i 24 fr.2.1 (-1) pop
        refine ⟨⟨f1, fk_letI ⟨fun _ => ⟨p5, fun h => absurd h (show ¬ Int32.ofNat 24 = 25 by decide), fun _ => b1⟩, fun q => absurd hp q⟩⟩, ?_⟩
        rw [fk_lE, if_pos hp, if_neg (show ¬ Int32.ofNat 24 = 25 by decide), p4, hgv, fk_lE]
        have e9 : fk_bind (.inr (fk_pop (ts', fr :: fs, q'))) (fk_open i 24 fr.2.1 (-1)) = .inr (ts', (24, fr.2.1, ts'.length, fk_lv fs, false, i, q'.1, -1) :: fs, q') := if_neg (show ¬ fs.length = 9 by omega)
        rw [e9] at b2
        simp only [fk_bind]
        refine fk_T_q b2 ?_ ?_
        · simp only [fk_elz]
          generalize hz : (if fk_lv (fr :: fs) = true then fk_w12 q'.1 (Int32.ofNat fs.length) (fk_row (D.2.2.1 f) 26 0 (ts', fr :: fs, q')) else (ts', fr :: fs, q')) = z
          have hz1 : z.1 = ts' ∧ z.2.1 = fr :: fs := by
            rw [← hz]
            split
            · exact fk_row_fs (D.2.2.1 f) 26 0 (ts', fr :: fs, q')
            · exact ⟨rfl, rfl⟩
          obtain ⟨e1, e2⟩ := fk_here_fs fr.2.2.2.2.2.2.2 z
          generalize fk_here fr.2.2.2.2.2.2.2 z = y at e1 e2
          obtain ⟨y1, y2, y3⟩ := y
          dsimp only at e1 e2
          rw [e2, hz1.2]
          exact (e1.trans hz1.1).symm
        · simp only [fk_elz]
          generalize hz : (if fk_lv (fr :: fs) = true then fk_w12 q'.1 (Int32.ofNat fs.length) (fk_row (D.2.2.1 f) 26 0 (ts', fr :: fs, q')) else (ts', fr :: fs, q')) = z
          have hz1 : z.1 = ts' ∧ z.2.1 = fr :: fs := by
            rw [← hz]
            split
            · exact fk_row_fs (D.2.2.1 f) 26 0 (ts', fr :: fs, q')
            · exact ⟨rfl, rfl⟩
          obtain ⟨e1, e2⟩ := fk_here_fs fr.2.2.2.2.2.2.2 z
          generalize fk_here fr.2.2.2.2.2.2.2 z = y at e1 e2
          obtain ⟨y1, y2, y3⟩ := y
          dsimp only at e1 e2
          rw [e2, hz1.2]
          simp [fk_kdx, fk_pr, hbase]
    · rw [if_neg h23]
      refine ⟨⟨o5, fun q => absurd q h23, fun _ => trivial⟩, ?_⟩
      rw [fk_lE]
      simp only [fk_else, if_neg h23]
      exact fk_wr_T hx 5 (by decide)
theorem fk_c25 {I0 I : fm_MI} {D : fk_D} {f : Nat} {k : fk_K} (i : Nat) (a : Int32) (hD : fk_mD I0 D) (hdk : fk_dk D) (hf : f < 4) (ht : D.1 f = true) (J : fm_MJ) (G : fm_MG) (pa pb : Nat × Nat) (hx : fk_T I0 I (.inr k)) : fmD_checkOne_p I J G pa pb (Int32.ofNat f) (Int32.ofNat 25) a ∧ fk_T I0 (fmD_checkOne_f I J G pa pb (Int32.ofNat f) (Int32.ofNat 25) a) (fk_stp D f i 25 a k) := by
  unfold fmD_checkOne_p fmD_checkOne_f
  rw [if_pos (show (4 : Int32) ≤ Int32.ofNat 25 by decide), if_pos (show (7 : Int32) ≤ Int32.ofNat 25 by decide), if_pos (show (9 : Int32) ≤ Int32.ofNat 25 by decide), if_neg (show ¬ Int32.ofNat 25 = 9 by decide), if_neg (show ¬ Int32.ofNat 25 = 10 by decide), if_pos (show (20 : Int32) ≤ Int32.ofNat 25 by decide), if_neg (show ¬ Int32.ofNat 25 = 20 by decide), if_neg (show ¬ (26 : Int32) ≤ Int32.ofNat 25 by decide)]
  refine fk_pq (fun hp => ⟨fun _ => ⟨fun _ => ⟨fun _ => ⟨fun h => absurd h (show ¬ Int32.ofNat 25 = 9 by decide), fun _ => ⟨fun h => absurd h (show ¬ Int32.ofNat 25 = 10 by decide), fun _ => ⟨fun _ => ⟨fun h => absurd h (show ¬ Int32.ofNat 25 = 20 by decide), fun _ => ⟨fun h => absurd h (show ¬ (26 : Int32) ≤ Int32.ofNat 25 by decide), fun _ => hp⟩⟩, fun h => absurd (show (20 : Int32) ≤ Int32.ofNat 25 by decide) h⟩⟩⟩, fun h => absurd (show (9 : Int32) ≤ Int32.ofNat 25 by decide) h⟩, fun h => absurd (show (7 : Int32) ≤ Int32.ofNat 25 by decide) h⟩, fun h => absurd (show (4 : Int32) ≤ Int32.ofNat 25 by decide) h⟩) ?_
  rw [fk_lE]
  unfold fmD_checkFrame_p fmD_checkFrame_f
  rw [if_pos (show (24 : Int32) ≤ Int32.ofNat 25 by decide), if_neg (show ¬ Int32.ofNat 25 = 24 by decide)]
  refine fk_pq (fun hp => ⟨fun _ => ⟨fun h => absurd h (show ¬ Int32.ofNat 25 = 24 by decide), fun _ => hp⟩, fun h => absurd (show (24 : Int32) ≤ Int32.ofNat 25 by decide) h⟩) ?_
  show _ ∧ fk_T I0 _ (fk_end k)
  obtain ⟨ts, fs, q⟩ := k
  cases fs with
  | nil => exact absurd hx.2.2.2.2.2.2.1 (by simp)
  | cons fr fs =>
    obtain ⟨o1, o2, o3, o4, o5⟩ := fk_o_T hx
    have c := hx.2.2.2.2.2.2.2.2.1.1
    cases fs with
    | nil =>
      have h1 : I 24 0 16 = 1 := o1
      rw [if_pos h1, fk_lE]
      exact ⟨⟨fun _ => trivial, fun q => absurd h1 q⟩, fk_wr_T hx 5 (by decide)⟩
    | cons g gs =>
      have hlen : (g :: gs).length = gs.length + 1 := rfl
      have h1 : ¬ I 24 0 16 = 1 := by
        rw [o1]
        rw [hlen] at o2 ⊢
        exact fun q => absurd ((fk_ie (b := 1) (by omega) (by omega)).mp q) (by omega)
      rw [if_neg h1]
      refine fk_pq (fun hp => ⟨fun q => absurd q h1, fun _ => hp⟩) ?_
      obtain ⟨f1, f2⟩ := fk_fin_T hx
      generalize fmD_finish_f I = r at f2 ⊢
      have hft := (fk_ft f2).1
      cases hj : fk_just (ts, fr :: g :: gs, q) with
      | inl c' =>
        rw [hj] at f2 hft
        have hend : fk_end (ts, fr :: g :: gs, q) = .inl c' := by
          simp only [fk_end, hj, fk_bind]
        rw [hend]
        have hn : ¬ r 24 0 17 ≤ 0 := fun q => by obtain ⟨k, q⟩ := hft.mp q; cases q
        refine ⟨⟨f1, fk_letI ⟨fun q => absurd q hn, fun _ => trivial⟩⟩, ?_⟩
        rw [fk_lE, if_neg hn]
        exact f2
      | inr k' =>
        rw [hj] at f2 hft
        obtain ⟨ts', fs', q'⟩ := k'
        obtain ⟨z1, z2, -, z3⟩ := fk_just_i hj
        subst z1; subst z2
        have hend : fk_end (ts, fr :: g :: gs, q') = if fr.1 = 23 ∧ fr.2.1 ≠ 4 then .inl 6 else fk_put fr.2.1 (fk_pop (fk_all (gs.length + 1) (if fr.1 = 23 then fk_here fr.2.2.2.2.2.2.2 (ts', fr :: g :: gs, q') else (ts', fr :: g :: gs, q')))) := by
          simp only [fk_end, hj, fk_bind]
        rw [hend]
        have hp : r 24 0 17 ≤ 0 := hft.mpr ⟨_, rfl⟩
        obtain ⟨p1, p2, p3, p4, p5⟩ := fk_o_T f2
        have pop := fk_pop_T f2 (by simp)
        have c' := f2.2.2.2.2.2.2.2.2.1.1
        have hgv : r 37 0 (g :: gs).length = fr.2.1 := c'.2.1
        have hkd : r 38 0 (g :: gs).length = fr.1 := c'.2.2.1
        have hz : ∃ qq, fk_pop (fk_all (gs.length + 1) (if fr.1 = 23 then fk_here fr.2.2.2.2.2.2.2 (ts', fr :: g :: gs, q') else (ts', fr :: g :: gs, q'))) = (ts', g :: gs, qq) := by
          obtain ⟨L, r1, r2, r3, r4, r5, r6⟩ := q'
          split
          · unfold fk_here
            dsimp only
            split <;> exact ⟨_, rfl⟩
          · exact ⟨_, rfl⟩
        obtain ⟨qq, hz⟩ := hz
        rw [hz]
        have pop2 : fk_T I0 (fm_u r 24 0 16 (r 24 0 16 - 1)) (.inr (ts', g :: gs, qq)) := fk_T_q pop rfl rfl
        have hput : fr.2.1 ≠ 4 → fmD_put_p (fm_u r 24 0 16 (r 24 0 16 - 1)) ∧ fk_T I0 (fmD_put_f (fm_u r 24 0 16 (r 24 0 16 - 1)) fr.2.1) (fk_put fr.2.1 (ts', g :: gs, qq)) := fun h4 => fk_put_T h4 pop2
        have hpp : (fr.2.1 = 4 → True) ∧ (¬ fr.2.1 = 4 → fmD_put_p (fm_u r 24 0 16 (r 24 0 16 - 1))) := ⟨fun _ => trivial, fun h => (hput h).1⟩
        rw [← hgv, ← p4] at hpp
        refine ⟨⟨f1, fk_letI ⟨fun _ => ⟨p5, fun _ => ⟨p5, fun _ => trivial, fun _ => hpp⟩, fun h => absurd (show Int32.ofNat 25 = 25 by decide) h⟩, fun q => absurd hp q⟩⟩, ?_⟩
        rw [fk_lE, if_pos hp, if_pos (show Int32.ofNat 25 = 25 by decide), p4, hkd, hgv]
        by_cases h23 : fr.1 = 23
        · rw [if_pos h23]
          by_cases h4 : fr.2.1 = 4
          · rw [if_pos h4, if_neg (show ¬ (fr.1 = 23 ∧ fr.2.1 ≠ 4) from fun z => z.2 h4), h4]
            exact pop2
          · rw [if_neg h4, if_pos ⟨h23, h4⟩, fk_lE]
            exact fk_wr_T f2 6 (by decide)
        · rw [if_neg h23, if_neg (show ¬ (fr.1 = 23 ∧ fr.2.1 ≠ 4) from fun z => h23 z.1)]
          by_cases h4 : fr.2.1 = 4
          · rw [if_pos h4, h4]
            exact pop2
          · rw [if_neg h4, fk_lE]
            exact (hput h4).2
theorem fk_jump_T {I0 I : fm_MI} {nl a : Nat} {op : Int32} {k : fk_K} {fr : fk_F} {gs : List fk_F} (hd : k.2.1.drop a = fr :: gs) (h : fk_T I0 I (fk_tk (fk_need fr) k)) : fk_T I0 I (fk_jump nl op a k) := by
  simp only [fk_jump, hd]
  cases hk : fk_tk (fk_need fr) k with
  | inl c => rw [hk] at h; exact h
  | inr k' =>
    rw [hk] at h
    obtain ⟨e1, e2⟩ := fk_jmz_fs nl gs.length op fr k'
    exact fk_T_q h e1.symm (by rw [e2])
theorem fk_c26 {I0 I : fm_MI} {D : fk_D} {f : Nat} {k : fk_K} (i : Nat) (a : Int32) (hD : fk_mD I0 D) (hdk : fk_dk D) (hf : f < 4) (ht : D.1 f = true) (J : fm_MJ) (G : fm_MG) (pa pb : Nat × Nat) (hx : fk_T I0 I (.inr k)) : fmD_checkOne_p I J G pa pb (Int32.ofNat f) (Int32.ofNat 26) a ∧ fk_T I0 (fmD_checkOne_f I J G pa pb (Int32.ofNat f) (Int32.ofNat 26) a) (fk_stp D f i 26 a k) := by
  unfold fmD_checkOne_p fmD_checkOne_f
  rw [if_pos (show (4 : Int32) ≤ Int32.ofNat 26 by decide), if_pos (show (7 : Int32) ≤ Int32.ofNat 26 by decide), if_pos (show (9 : Int32) ≤ Int32.ofNat 26 by decide), if_neg (show ¬ Int32.ofNat 26 = 9 by decide), if_neg (show ¬ Int32.ofNat 26 = 10 by decide), if_pos (show (20 : Int32) ≤ Int32.ofNat 26 by decide), if_neg (show ¬ Int32.ofNat 26 = 20 by decide), if_pos (show (26 : Int32) ≤ Int32.ofNat 26 by decide), if_neg (show ¬ (28 : Int32) ≤ Int32.ofNat 26 by decide), if_pos (show Int32.ofNat 26 = 26 by decide)]
  refine fk_pq (fun hp => ⟨fun _ => ⟨fun _ => ⟨fun _ => ⟨fun h => absurd h (show ¬ Int32.ofNat 26 = 9 by decide), fun _ => ⟨fun h => absurd h (show ¬ Int32.ofNat 26 = 10 by decide), fun _ => ⟨fun _ => ⟨fun h => absurd h (show ¬ Int32.ofNat 26 = 20 by decide), fun _ => ⟨fun _ => ⟨fun h => absurd h (show ¬ (28 : Int32) ≤ Int32.ofNat 26 by decide), fun _ => ⟨fun _ => hp, fun h => absurd (show Int32.ofNat 26 = 26 by decide) h⟩⟩, fun h => absurd (show (26 : Int32) ≤ Int32.ofNat 26 by decide) h⟩⟩, fun h => absurd (show (20 : Int32) ≤ Int32.ofNat 26 by decide) h⟩⟩⟩, fun h => absurd (show (9 : Int32) ≤ Int32.ofNat 26 by decide) h⟩, fun h => absurd (show (7 : Int32) ≤ Int32.ofNat 26 by decide) h⟩, fun h => absurd (show (4 : Int32) ≤ Int32.ofNat 26 by decide) h⟩) ?_
  have h1 := hx.2.2.2.2.2.2.1
  have h9 := hx.2.2.2.2.2.2.2.1
  have ho : I 24 0 16 = Int32.ofNat k.2.1.length := by
    obtain ⟨-, ⟨o, -, -, h5, h6⟩, -⟩ := hx
    rw [h6 _ rfl]; exact h5
  have hin : fmD_in_f a 0 (I 24 0 16 - 1) = fk_b (fk_wb a k.2.1.length) := by rw [ho]; exact fk_inD a (by omega)
  rw [fk_lE]
  unfold fmD_jump_p fmD_jump_f
  rw [hin]
  unfold fk_stp
  rw [show fk_okn D f 26 a k.2.1.length = fk_wb a k.2.1.length from rfl]
  cases hb : fk_wb a k.2.1.length with
  | false =>
    refine ⟨fk_letI ⟨fun _ => trivial, fun q => absurd rfl q⟩, ?_⟩
    rw [fk_lE, show fk_b false = 0 from rfl, if_pos rfl, fk_lE]
    exact fk_wr_T hx 1 (by decide)
  | true =>
    obtain ⟨hv, hlt⟩ := fk_wbi hb
    have ha : a = Int32.ofNat a.toNatClampNeg := fk_ofc hv
    have hoa : I 24 0 16 - 1 - a = Int32.ofNat (k.2.1.length - 1 - a.toNatClampNeg) := by
      rw [ho, fk_d (by omega)]
      conv => lhs; rw [ha]
      exact fk_sb (by omega)
    have hoc : (I 24 0 16 - 1 - a).toNatClampNeg = k.2.1.length - 1 - a.toNatClampNeg := by rw [hoa]; exact fk_cl (by omega)
    have hov : vp_in (I 24 0 16 - 1 - a) 12 := by rw [hoa]; exact (fk_in (by omega)).mpr (by omega)
    obtain ⟨fr, gs, hd⟩ : ∃ fr gs, k.2.1.drop a.toNatClampNeg = fr :: gs := by
      cases hd : k.2.1.drop a.toNatClampNeg with
      | nil =>
        have := congrArg List.length hd
        simp at this; omega
      | cons fr gs => exact ⟨fr, gs, rfl⟩
    have hgs : gs.length = k.2.1.length - 1 - a.toNatClampNeg := by
      have := congrArg List.length hd
      simp at this; omega
    have hfr := fk_fD_at hx.2.2.2.2.2.2.2.2.1 hd
    rw [hgs, ← hoc] at hfr
    obtain ⟨-, e37, e38⟩ := hfr
    refine fk_pq (fun hp => fk_letI ⟨fun q => absurd q (show ¬ fk_b true = 0 by decide), fun _ => ⟨hov, hp⟩⟩) ?_
    rw [fk_lE, show fk_b true = 1 from rfl, if_neg (show ¬ (1 : Int32) = 0 by decide), e38, e37]
    show _ ∧ fk_T I0 _ (fk_bind (fk_jump (D.2.2.1 f) 26 a.toNatClampNeg k) (fun k => .inr (fk_die k)))
    by_cases h22 : fr.1 = 22
    · have hnd : fk_need fr = 4 := by unfold fk_need; rw [if_pos h22]
      have h3 : fk_T I0 I (fk_tk (fk_need fr) k) := by rw [hnd, fk_tkk (w := 4)]; exact hx
      obtain ⟨d1, d2⟩ := fk_die_T (fk_jump_T (nl := D.2.2.1 f) (op := 26) hd h3)
      refine ⟨⟨fun _ => ⟨fun q => absurd q (show ¬ (1 : Int32) = 0 by decide), fun _ => d1⟩, fun q => absurd h22 q⟩, ?_⟩
      rw [if_pos h22, if_neg (show ¬ (1 : Int32) = 0 by decide), fk_lE]
      exact d2
    · have hnd : fk_need fr = fr.2.1 := by unfold fk_need; rw [if_neg h22]
      rw [if_neg h22, if_neg (show ¬ (1 : Int32) = 0 by decide)]
      by_cases h4 : fr.2.1 = 4
      · have h3 : fk_T I0 I (fk_tk (fk_need fr) k) := by rw [hnd, h4, fk_tkk (w := 4)]; exact hx
        obtain ⟨d1, d2⟩ := fk_die_T (fk_jump_T (nl := D.2.2.1 f) (op := 26) hd h3)
        refine ⟨⟨fun q => absurd q h22, fun _ => ⟨hov, fun q => absurd q (show ¬ (1 : Int32) = 0 by decide), fun _ => ⟨fun _ => d1, fun q => absurd h4 q⟩⟩⟩, ?_⟩
        rw [if_pos h4, fk_lE]
        exact d2
      · obtain ⟨t1, t2, -⟩ := fk_take_T h4 hx
        have h3 : fk_T I0 (fmD_take_f I fr.2.1).2 (fk_tk (fk_need fr) k) := by rw [hnd]; exact t2
        obtain ⟨d1, d2⟩ := fk_die_T (fk_jump_T (nl := D.2.2.1 f) (op := 26) hd h3)
        refine ⟨⟨fun q => absurd q h22, fun _ => ⟨hov, fun q => absurd q (show ¬ (1 : Int32) = 0 by decide), fun _ => ⟨fun q => absurd q h4, fun _ => ⟨t1, fk_letI d1⟩⟩⟩⟩, ?_⟩
        rw [if_neg h4, fk_lE, fk_lE]
        exact d2
theorem fk_jumpb_T {I0 I : fm_MI} {nl a : Nat} {op : Int32} {x : Int32 ⊕ fk_K} {fr : fk_F} {gs : List fk_F} (hd : ∀ k, x = .inr k → k.2.1.drop a = fr :: gs) (h : fk_T I0 I (fk_bind x (fk_tk (fk_need fr)))) : fk_T I0 I (fk_bind x (fk_jump nl op a)) := by
  cases x with
  | inl c => exact h
  | inr k => exact fk_jump_T (hd k rfl) h
theorem fk_c27 {I0 I : fm_MI} {D : fk_D} {f : Nat} {k : fk_K} (i : Nat) (a : Int32) (hD : fk_mD I0 D) (hdk : fk_dk D) (hf : f < 4) (ht : D.1 f = true) (J : fm_MJ) (G : fm_MG) (pa pb : Nat × Nat) (hx : fk_T I0 I (.inr k)) : fmD_checkOne_p I J G pa pb (Int32.ofNat f) (Int32.ofNat 27) a ∧ fk_T I0 (fmD_checkOne_f I J G pa pb (Int32.ofNat f) (Int32.ofNat 27) a) (fk_stp D f i 27 a k) := by
  unfold fmD_checkOne_p fmD_checkOne_f
  rw [if_pos (show (4 : Int32) ≤ Int32.ofNat 27 by decide), if_pos (show (7 : Int32) ≤ Int32.ofNat 27 by decide), if_pos (show (9 : Int32) ≤ Int32.ofNat 27 by decide), if_neg (show ¬ Int32.ofNat 27 = 9 by decide), if_neg (show ¬ Int32.ofNat 27 = 10 by decide), if_pos (show (20 : Int32) ≤ Int32.ofNat 27 by decide), if_neg (show ¬ Int32.ofNat 27 = 20 by decide), if_pos (show (26 : Int32) ≤ Int32.ofNat 27 by decide), if_neg (show ¬ (28 : Int32) ≤ Int32.ofNat 27 by decide), if_neg (show ¬ Int32.ofNat 27 = 26 by decide)]
  refine fk_pq (fun hp => ⟨fun _ => ⟨fun _ => ⟨fun _ => ⟨fun h => absurd h (show ¬ Int32.ofNat 27 = 9 by decide), fun _ => ⟨fun h => absurd h (show ¬ Int32.ofNat 27 = 10 by decide), fun _ => ⟨fun _ => ⟨fun h => absurd h (show ¬ Int32.ofNat 27 = 20 by decide), fun _ => ⟨fun _ => ⟨fun h => absurd h (show ¬ (28 : Int32) ≤ Int32.ofNat 27 by decide), fun _ => ⟨fun h => absurd h (show ¬ Int32.ofNat 27 = 26 by decide), fun _ => hp⟩⟩, fun h => absurd (show (26 : Int32) ≤ Int32.ofNat 27 by decide) h⟩⟩, fun h => absurd (show (20 : Int32) ≤ Int32.ofNat 27 by decide) h⟩⟩⟩, fun h => absurd (show (9 : Int32) ≤ Int32.ofNat 27 by decide) h⟩, fun h => absurd (show (7 : Int32) ≤ Int32.ofNat 27 by decide) h⟩, fun h => absurd (show (4 : Int32) ≤ Int32.ofNat 27 by decide) h⟩) ?_
  have h1 := hx.2.2.2.2.2.2.1
  have h9 := hx.2.2.2.2.2.2.2.1
  have ho : I 24 0 16 = Int32.ofNat k.2.1.length := by
    obtain ⟨-, ⟨o, -, -, h5, h6⟩, -⟩ := hx
    rw [h6 _ rfl]; exact h5
  have hin : fmD_in_f a 0 (I 24 0 16 - 1) = fk_b (fk_wb a k.2.1.length) := by rw [ho]; exact fk_inD a (by omega)
  rw [fk_lE]
  unfold fmD_jump_p fmD_jump_f
  rw [hin]
  unfold fk_stp
  rw [show fk_okn D f 27 a k.2.1.length = fk_wb a k.2.1.length from rfl]
  cases hb : fk_wb a k.2.1.length with
  | false =>
    refine ⟨fk_letI ⟨fun _ => trivial, fun q => absurd rfl q⟩, ?_⟩
    rw [fk_lE, show fk_b false = 0 from rfl, if_pos rfl, fk_lE]
    exact fk_wr_T hx 1 (by decide)
  | true =>
    obtain ⟨hv, hlt⟩ := fk_wbi hb
    have ha : a = Int32.ofNat a.toNatClampNeg := fk_ofc hv
    have hoa : I 24 0 16 - 1 - a = Int32.ofNat (k.2.1.length - 1 - a.toNatClampNeg) := by
      rw [ho, fk_d (by omega)]
      conv => lhs; rw [ha]
      exact fk_sb (by omega)
    have hoc : (I 24 0 16 - 1 - a).toNatClampNeg = k.2.1.length - 1 - a.toNatClampNeg := by rw [hoa]; exact fk_cl (by omega)
    have hov : vp_in (I 24 0 16 - 1 - a) 12 := by rw [hoa]; exact (fk_in (by omega)).mpr (by omega)
    obtain ⟨fr, gs, hd⟩ : ∃ fr gs, k.2.1.drop a.toNatClampNeg = fr :: gs := by
      cases hd : k.2.1.drop a.toNatClampNeg with
      | nil =>
        have := congrArg List.length hd
        simp at this; omega
      | cons fr gs => exact ⟨fr, gs, rfl⟩
    have hgs : gs.length = k.2.1.length - 1 - a.toNatClampNeg := by
      have := congrArg List.length hd
      simp at this; omega
    have hfr := fk_fD_at hx.2.2.2.2.2.2.2.2.1 hd
    rw [hgs, ← hoc] at hfr
    obtain ⟨-, e37, e38⟩ := hfr
    refine fk_pq (fun hp => fk_letI ⟨fun q => absurd q (show ¬ fk_b true = 0 by decide), fun _ => ⟨hov, hp⟩⟩) ?_
    rw [fk_lE, show fk_b true = 1 from rfl, if_neg (show ¬ (1 : Int32) = 0 by decide), e38, e37]
    show _ ∧ fk_T I0 _ (fk_bind (fk_tk 0 k) (fun k => fk_bind (fk_jump (D.2.2.1 f) 27 a.toNatClampNeg k) (fun k' => match k.2.1.drop a.toNatClampNeg with | [] => .inl 99 | f :: _ => fk_put (fk_need f) k')))
    obtain ⟨t1, t2, -⟩ := fk_take_T (w := 0) (by decide) hx
    have t3 : fk_T I0 (fmD_take_f I 0).2 (fk_tk 0 k) := t2
    have hds : ∀ k', fk_tk 0 k = .inr k' → k'.2.1.drop a.toNatClampNeg = fr :: gs := fun k' h => by rw [fk_tk_fs h]; exact hd
    have hres : fk_bind (fk_tk 0 k) (fun k => fk_bind (fk_jump (D.2.2.1 f) 27 a.toNatClampNeg k) (fun k' => match k.2.1.drop a.toNatClampNeg with | [] => .inl 99 | f :: _ => fk_put (fk_need f) k')) = fk_bind (fk_bind (fk_tk 0 k) (fk_jump (D.2.2.1 f) 27 a.toNatClampNeg)) (fk_put (fk_need fr)) := by
      cases h1 : fk_tk 0 k with
      | inl c => rfl
      | inr k1 =>
        simp only [fk_bind]
        rw [hds _ h1]
    rw [hres]
    generalize fmD_take_f I 0 = t at t2 t3 ⊢
    by_cases h22 : fr.1 = 22
    · have hnd : fk_need fr = 4 := by unfold fk_need; rw [if_pos h22]
      refine ⟨⟨fun _ => ⟨fun _ => t1, fun q => absurd rfl q⟩, fun q => absurd h22 q⟩, ?_⟩
      rw [if_pos h22, if_pos rfl, fk_lE]
      have h3 : fk_T I0 t.2 (fk_bind (fk_tk 0 k) (fk_tk (fk_need fr))) := by
        rw [hnd]
        cases h1 : fk_tk 0 k with
        | inl c => rw [h1] at t3; exact t3
        | inr k1 => rw [h1] at t3; simp only [fk_bind]; rw [fk_tkk (w := 4)]; exact t3
      have h4 := fk_jumpb_T (nl := D.2.2.1 f) (op := 27) hds h3
      rw [hnd]
      cases h5 : fk_bind (fk_tk 0 k) (fk_jump (D.2.2.1 f) 27 a.toNatClampNeg) with
      | inl c => rw [h5] at h4; exact h4
      | inr k1 => rw [h5] at h4; exact h4
    · have hnd : fk_need fr = fr.2.1 := by unfold fk_need; rw [if_neg h22]
      rw [if_neg h22, if_pos rfl]
      by_cases h4 : fr.2.1 = 4
      · refine ⟨⟨fun q => absurd q h22, fun _ => ⟨hov, fun _ => ⟨t1, fk_letI ⟨fun _ => trivial, fun q => absurd h4 q⟩⟩, fun q => absurd rfl q⟩⟩, ?_⟩
        rw [fk_lE, if_pos h4]
        have h3 : fk_T I0 t.2 (fk_bind (fk_tk 0 k) (fk_tk (fk_need fr))) := by
          rw [hnd, h4]
          cases h1 : fk_tk 0 k with
          | inl c => rw [h1] at t3; exact t3
          | inr k1 => rw [h1] at t3; simp only [fk_bind]; rw [fk_tkk (w := 4)]; exact t3
        have h5 := fk_jumpb_T (nl := D.2.2.1 f) (op := 27) hds h3
        rw [hnd, h4]
        cases h6 : fk_bind (fk_tk 0 k) (fk_jump (D.2.2.1 f) 27 a.toNatClampNeg) with
        | inl c => rw [h6] at h5; exact h5
        | inr k1 => rw [h6] at h5; exact h5
      · obtain ⟨u1, u2, -⟩ := fk_take_T h4 t3
        have h3 : fk_T I0 (fmD_take_f t.2 fr.2.1).2 (fk_bind (fk_tk 0 k) (fk_tk (fk_need fr))) := by rw [hnd]; exact u2
        have h5 := fk_jumpb_T (nl := D.2.2.1 f) (op := 27) hds h3
        rw [hnd]
        obtain ⟨c1, c2⟩ := fk_put_T h4 h5
        refine ⟨⟨fun q => absurd q h22, fun _ => ⟨hov, fun _ => ⟨t1, fk_letI ⟨fun q => absurd q h4, fun _ => ⟨u1, fk_letI c1⟩⟩⟩, fun q => absurd rfl q⟩⟩, ?_⟩
        rw [fk_lE, if_neg h4, fk_lE, fk_lE]
        exact c2
theorem fk_c28 {I0 I : fm_MI} {D : fk_D} {f : Nat} {k : fk_K} (i : Nat) (a : Int32) (hD : fk_mD I0 D) (hdk : fk_dk D) (hf : f < 4) (ht : D.1 f = true) (J : fm_MJ) (G : fm_MG) (pa pb : Nat × Nat) (hx : fk_T I0 I (.inr k)) (h0 : ∃ fr, k.2.1.drop (k.2.1.length - 1) = [fr] ∧ fr.1 ≠ 22 ∧ fr.2.1 = D.2.2.2.1 f) : fmD_checkOne_p I J G pa pb (Int32.ofNat f) (Int32.ofNat 28) a ∧ fk_T I0 (fmD_checkOne_f I J G pa pb (Int32.ofNat f) (Int32.ofNat 28) a) (fk_stp D f i 28 a k) := by
  obtain ⟨-, hg⟩ := hD f hf
  obtain ⟨g1, g2, g3, g4, g5, g6⟩ := hg ht
  obtain ⟨d1, d2, d3, d4, d5, d6, d7⟩ := hdk f hf ht
  have hcf : (Int32.ofNat f).toNatClampNeg = f := fk_cl (by omega)
  have hvf : vp_in (Int32.ofNat f) 4 := (fk_in (by omega)).mpr hf
  unfold fmD_checkOne_p fmD_checkOne_f
  rw [if_pos (show (4 : Int32) ≤ Int32.ofNat 28 by decide), if_pos (show (7 : Int32) ≤ Int32.ofNat 28 by decide), if_pos (show (9 : Int32) ≤ Int32.ofNat 28 by decide), if_neg (show ¬ Int32.ofNat 28 = 9 by decide), if_neg (show ¬ Int32.ofNat 28 = 10 by decide), if_pos (show (20 : Int32) ≤ Int32.ofNat 28 by decide), if_neg (show ¬ Int32.ofNat 28 = 20 by decide), if_pos (show (26 : Int32) ≤ Int32.ofNat 28 by decide), if_pos (show (28 : Int32) ≤ Int32.ofNat 28 by decide), if_pos (show Int32.ofNat 28 = 28 by decide)]
  refine fk_pq (fun hp => ⟨fun _ => ⟨fun _ => ⟨fun _ => ⟨fun h => absurd h (show ¬ Int32.ofNat 28 = 9 by decide), fun _ => ⟨fun h => absurd h (show ¬ Int32.ofNat 28 = 10 by decide), fun _ => ⟨fun _ => ⟨fun h => absurd h (show ¬ Int32.ofNat 28 = 20 by decide), fun _ => ⟨fun _ => ⟨fun _ => ⟨fun _ => hp, fun h => absurd (show Int32.ofNat 28 = 28 by decide) h⟩, fun h => absurd (show (28 : Int32) ≤ Int32.ofNat 28 by decide) h⟩, fun h => absurd (show (26 : Int32) ≤ Int32.ofNat 28 by decide) h⟩⟩, fun h => absurd (show (20 : Int32) ≤ Int32.ofNat 28 by decide) h⟩⟩⟩, fun h => absurd (show (9 : Int32) ≤ Int32.ofNat 28 by decide) h⟩, fun h => absurd (show (7 : Int32) ≤ Int32.ofNat 28 by decide) h⟩, fun h => absurd (show (4 : Int32) ≤ Int32.ofNat 28 by decide) h⟩) ?_
  have h31 : I 31 0 f = D.2.2.2.1 f := (hx.1 31 0 _ (Or.inl (by decide)) (fun q => absurd q (by decide))).trans g3
  rw [hcf, h31]
  obtain ⟨fr, hd, hk22, hgv⟩ := h0
  have hnd : fk_need fr = D.2.2.2.1 f := by unfold fk_need; rw [if_neg hk22, hgv]
  show _ ∧ fk_T I0 _ (fk_bind (fk_jump (D.2.2.1 f) 26 (k.2.1.length - 1) k) (fun k => .inr (fk_die k)))
  refine fk_pq (fun hp => ⟨hvf, hp⟩) ?_
  by_cases h4 : D.2.2.2.1 f = 4
  · have h3 : fk_T I0 I (fk_tk (fk_need fr) k) := by rw [hnd, h4, fk_tkk (w := 4)]; exact hx
    obtain ⟨d1, d2⟩ := fk_die_T (fk_jump_T (nl := D.2.2.1 f) (op := 26) hd h3)
    refine ⟨⟨fun _ => d1, fun q => absurd h4 q⟩, ?_⟩
    rw [if_pos h4, fk_lE]
    exact d2
  · obtain ⟨t1, t2, -⟩ := fk_take_T h4 hx
    have h3 : fk_T I0 (fmD_take_f I (D.2.2.2.1 f)).2 (fk_tk (fk_need fr) k) := by rw [hnd]; exact t2
    obtain ⟨d1, d2⟩ := fk_die_T (fk_jump_T (nl := D.2.2.1 f) (op := 26) hd h3)
    refine ⟨⟨fun q => absurd q h4, fun _ => ⟨hvf, t1, fk_letI d1⟩⟩, ?_⟩
    rw [if_neg h4, fk_lE, fk_lE]
    exact d2
