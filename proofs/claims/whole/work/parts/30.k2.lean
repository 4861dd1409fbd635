theorem fk_take_o (I : fm_MI) (w : Int32) : (fmC_take_f I w).2 13 0 6 = I 13 0 6 ∧ ∀ i s, (fmC_take_f I w).2 17 i s = I 17 i s := by
  unfold fmC_take_f
  repeat' split
  all_goals (refine ⟨?_, fun i s => ?_⟩ <;> simp [fm_u_if])
theorem fk_row_o (I : fm_MI) (op a : Int32) : (fmC_addRow_f I op a).2 13 0 6 = I 13 0 6 ∧ ∀ i s, (fmC_addRow_f I op a).2 17 i s = I 17 i s := by
  unfold fmC_addRow_f fm_let fmK_add_f
  dsimp only
  repeat' split
  all_goals (refine ⟨?_, fun i s => ?_⟩ <;> simp [fm_u_if])
theorem fk_just_o (I : fm_MI) : (fmC_takeJustWhatIsGiven_f I) 13 0 6 = I 13 0 6 ∧ ∀ i s, (fmC_takeJustWhatIsGiven_f I) 17 i s = I 17 i s := by
  unfold fmC_takeJustWhatIsGiven_f fm_let
  obtain ⟨h1, h2⟩ := fk_take_o I (I 17 ((I 13 0 6).toNatClampNeg) 1)
  generalize fmC_take_f I (I 17 ((I 13 0 6).toNatClampNeg) 1) = r at h1 h2 ⊢
  dsimp only
  repeat' split
  all_goals (refine ⟨?_, fun i s => ?_⟩ <;> simp [fm_u_if, h1, h2])
theorem fk_here_o (I : fm_MI) (f : Nat) (w : Int32) : (fmK_sendHere_f I f w) 13 0 6 = I 13 0 6 ∧ ∀ i s, (fmK_sendHere_f I f w) 17 i s = I 17 i s := by
  unfold fmK_sendHere_f
  split
  all_goals (refine ⟨?_, fun i s => ?_⟩ <;> simp [fm_u_if])
theorem fk_all_o (J : fm_MJ) (G : fm_MG) (pa pb : Nat × Nat) {I0 I : fm_MI} {f n : Nat} (hn : n ≤ 40) (hw : fk_wk I0 I f n) (j : Int32) : (fmK_sendHereAllFor_f I J G pa pb f j) 13 0 6 = I 13 0 6 ∧ ∀ i s, (fmK_sendHereAllFor_f I J G pa pb f j) 17 i s = I 17 i s := by
  obtain ⟨w1, w2, w3, ⟨L0, w4, w5⟩, w6⟩ := hw
  obtain ⟨-, p2⟩ := fk_allL J G pa pb f L0 j (by omega) 41 0 I (by omega) (by omega) w5
  have p2' : ∀ k i s, fmK_sendHereAllFor_f I J G pa pb f j k i s = if (k = 11 ∨ k = 12) ∧ i = f ∧ 0 ≤ s ∧ s < L0 ∧ I 12 f s = j then (if k = 11 then Int32.ofNat L0 else -1) else I k i s := p2
  refine ⟨?_, fun i s => ?_⟩
  · rw [p2']; simp
  · rw [p2']; simp
theorem fk_pop_S {I0 I : fm_MI} {f n : Nat} {x : Int32 ⊕ fk_K} {o : Nat} (hx : fk_S I0 I f n x) (ho : I 13 0 6 = Int32.ofNat (o + 1)) (h8 : o + 1 ≤ 8) : fk_S I0 (fm_u I 13 0 6 (I 13 0 6 - 1)) f n (fk_bind x (fun k => .inr (fk_pop k))) := by
  obtain ⟨hw, hx⟩ := hx
  have e : I 13 0 6 - 1 = Int32.ofNat o := by rw [ho, fk_d (by omega)]; rfl
  rw [e]
  refine ⟨?_, ?_⟩
  · obtain ⟨a, b, c, d, e⟩ := hw
    refine ⟨fun k i s' q1 q2 q3 q4 => (fk_u_ne I _ _ q1).trans (a k i s' q1 q2 q3 q4), ?_, ⟨o, by omega, fk_u_eq I⟩, ?_, ?_⟩
    · rw [fk_u_ns I _ _ (by decide)]; exact b
    · simpa only [fk_u_ne I _ _ (show (6 : Nat) ≠ 13 by decide)] using d
    · simpa only [fk_u_ne I _ _ (show (17 : Nat) ≠ 13 by decide)] using e
  · rcases x with c | ⟨ts, fs, L, R⟩
    · exact ⟨(fk_u_ns I _ _ (by decide)).trans hx.1, hx.2⟩
    · obtain ⟨a1, a2, a3, a4, a5, a6, a7, a8, a9, a10, a12, a11⟩ := hx
      dsimp only at a1 a2 a3 a4 a5 a6 a7 a8 a9 a10 a12 a11
      have hl : fs.length = o + 2 := by
        have := (fk_ie (by omega) (by omega)).mp (ho.symm.trans a7)
        omega
      cases fs with
      | nil => simp at hl
      | cons fr fs =>
        cases fs with
        | nil => simp at hl
        | cons g gs =>
          have hg : gs.length = o := by simpa using hl
          simp only [fk_bind, fk_pop, List.tail_cons]
          refine ⟨(fk_u_ns I _ _ (by decide)).trans a1, (fk_u_ns I _ _ (by decide)).trans a2, a3, fk_stk_c (fun j _ => fk_u_ne I _ _ (by decide)) a4, by simp, by simp; omega, ?_, fk_frm_c (fun j s _ => fk_u_ne I _ _ (by decide)) a8.2, (fk_u_ne I _ _ (by decide)).trans a9, ⟨Nat.le_trans a10.2.1 a10.1, a10.2.2⟩, a12, ?_⟩
          · rw [fk_u_eq]; simp [hg]
          · intro r hr
            obtain ⟨b1, b2, b3, b4, b5, b6⟩ := a11 r hr
            exact ⟨(fk_u_ne I _ _ (by decide)).trans b1, (fk_u_ne I _ _ (by decide)).trans b2, (fk_u_ne I _ _ (by decide)).trans b3, (fk_u_ne I _ _ (by decide)).trans b4, (fk_u_ne I _ _ (by decide)).trans b5, (fk_u_ne I _ _ (by decide)).trans b6⟩
theorem fk_tail (J : fm_MJ) (G : fm_MG) (pa pb : Nat × Nat) {I0 I : fm_MI} {f n : Nat} {x : Int32 ⊕ fk_K} {o : Nat} (hf : f < 4) (hn : n ≤ 40) (hx : fk_S I0 I f n x) (ho : I 13 0 6 = Int32.ofNat (o + 1)) (h8 : o + 1 ≤ 8) :
    fmC_subject_p I ∧ fmK_sendHereAllFor_p I J G pa pb ((I 13 0 1).toNatClampNeg) (I 13 0 6) ∧
    fmC_put_p (fm_u (fmK_sendHereAllFor_f I J G pa pb ((I 13 0 1).toNatClampNeg) (I 13 0 6)) 13 0 6 ((fmK_sendHereAllFor_f I J G pa pb ((I 13 0 1).toNatClampNeg) (I 13 0 6)) 13 0 6 - 1)) ((fmK_sendHereAllFor_f I J G pa pb ((I 13 0 1).toNatClampNeg) (I 13 0 6)) 17 (o + 1) 1) ∧
    fk_S I0 (fmC_put_f (fm_u (fmK_sendHereAllFor_f I J G pa pb ((I 13 0 1).toNatClampNeg) (I 13 0 6)) 13 0 6 ((fmK_sendHereAllFor_f I J G pa pb ((I 13 0 1).toNatClampNeg) (I 13 0 6)) 13 0 6 - 1)) ((fmK_sendHereAllFor_f I J G pa pb ((I 13 0 1).toNatClampNeg) (I 13 0 6)) 17 (o + 1) 1)) f n (fk_bind x (fun k => fk_put (I 17 (o + 1) 1) (fk_pop (fk_all (o + 1) k)))) := by
  obtain ⟨s1, s2⟩ := fk_sub hf hx.1
  rw [s2, ho]
  obtain ⟨a1, a2⟩ := fk_all_S J G pa pb (o + 1) hn hx
  obtain ⟨b1, b2⟩ := fk_all_o J G pa pb hn hx.1 (Int32.ofNat (o + 1))
  rw [b2]
  have c := fk_pop_S a2 (b1.trans ho) h8
  obtain ⟨d1, d2⟩ := fk_put_S (I 17 (o + 1) 1) c
  refine ⟨s1, a1, d1, ?_⟩
  rw [fk_bb, fk_bb] at d2
  exact d2
theorem fk_end_S (J : fm_MJ) (G : fm_MG) (pb : Nat × Nat) {I0 I : fm_MI} {f n : Nat} {k : fk_K} (hf : f < 4) (hn : n ≤ 40) (hx : fk_S I0 I f n (.inr k)) : fmC_closeFrame_p I J G pb ∧ fk_S I0 (fmC_closeFrame_f I J G pb) f n (fk_end k) := by
  obtain ⟨ts, fs, q⟩ := k
  cases fs with
  | nil => exact absurd hx.2.2.2.2.2.1 (by simp)
  | cons fr fs =>
    obtain ⟨o1, o2, o3, o4⟩ := fk_op_C hx.2
    have hk := hx.2.2.2.2.2.2.2.2.1.1
    unfold fmC_closeFrame_p fmC_closeFrame_f fm_let
    cases fs with
    | nil =>
      have h0 : I 13 0 6 = 0 := o1
      rw [if_pos h0]
      refine ⟨⟨fun _ => trivial, fun q => absurd h0 q⟩, ?_⟩
      exact ⟨fk_wk13 hx.1 2 5 (by decide) (by decide), fk_u_eq I, by decide⟩
    | cons g gs =>
      have hg : (g :: gs).length = gs.length + 1 := rfl
      rw [hg] at o1 o2 o4 hk
      have h0 : ¬ I 13 0 6 = 0 := by
        rw [o1]
        exact fun q => absurd ((fk_ie (b := 0) (by omega) (by omega)).mp q) (by omega)
      rw [if_neg h0, o2]
      obtain ⟨j1, j2⟩ := fk_just_S hx
      obtain ⟨j3, j4⟩ := fk_just_o I
      rw [o1] at j3
      simp only [fk_bind] at j2
      dsimp only
      have hv4 : ∀ I', fk_wk I0 I' f n → (I' 17 (gs.length + 1) 4 = -1 ∨ vp_in (I' 17 (gs.length + 1) 4) 40) := fun I' h => h.2.2.2.2 _ (by omega)
      have q0 := hk.1
      have q1 := hk.2.1
      have q4 := hk.2.2.2.2.1
      have e17 := j4
      generalize fmC_takeJustWhatIsGiven_f I = r1 at j1 j2 j3 j4 e17 ⊢
      obtain ⟨s1, s2⟩ := fk_sub hf j2.1
      rw [s2, e17, e17, e17, q0, q1, q4]
      have hv := hv4 r1 j2.1
      rw [e17, q4] at hv
      have A : ∀ I' x, fk_S I0 I' f n x → I' 13 0 6 = Int32.ofNat (gs.length + 1) → (∀ i s, I' 17 i s = I 17 i s) →
          (fmC_subject_p I' ∧ fmK_sendHere_p fr.2.2.2.2.2.2.2 ∧ fmC_subject_p (fmK_sendHere_f I' f fr.2.2.2.2.2.2.2) ∧
          fmK_sendHereAllFor_p (fmK_sendHere_f I' f fr.2.2.2.2.2.2.2) J G (1, 0) pb ((fmK_sendHere_f I' f fr.2.2.2.2.2.2.2) 13 0 1).toNatClampNeg ((fmK_sendHere_f I' f fr.2.2.2.2.2.2.2) 13 0 6) ∧
          fmC_put_p (fm_u (fmK_sendHereAllFor_f (fmK_sendHere_f I' f fr.2.2.2.2.2.2.2) J G (1, 0) pb ((fmK_sendHere_f I' f fr.2.2.2.2.2.2.2) 13 0 1).toNatClampNeg ((fmK_sendHere_f I' f fr.2.2.2.2.2.2.2) 13 0 6)) 13 0 6 ((fmK_sendHereAllFor_f (fmK_sendHere_f I' f fr.2.2.2.2.2.2.2) J G (1, 0) pb ((fmK_sendHere_f I' f fr.2.2.2.2.2.2.2) 13 0 1).toNatClampNeg ((fmK_sendHere_f I' f fr.2.2.2.2.2.2.2) 13 0 6)) 13 0 6 - 1)) ((fmK_sendHereAllFor_f (fmK_sendHere_f I' f fr.2.2.2.2.2.2.2) J G (1, 0) pb ((fmK_sendHere_f I' f fr.2.2.2.2.2.2.2) 13 0 1).toNatClampNeg ((fmK_sendHere_f I' f fr.2.2.2.2.2.2.2) 13 0 6)) 17 (gs.length + 1) 1)) ∧
          fk_S I0 (fmC_put_f (fm_u (fmK_sendHereAllFor_f (fmK_sendHere_f I' f fr.2.2.2.2.2.2.2) J G (1, 0) pb ((fmK_sendHere_f I' f fr.2.2.2.2.2.2.2) 13 0 1).toNatClampNeg ((fmK_sendHere_f I' f fr.2.2.2.2.2.2.2) 13 0 6)) 13 0 6 ((fmK_sendHereAllFor_f (fmK_sendHere_f I' f fr.2.2.2.2.2.2.2) J G (1, 0) pb ((fmK_sendHere_f I' f fr.2.2.2.2.2.2.2) 13 0 1).toNatClampNeg ((fmK_sendHere_f I' f fr.2.2.2.2.2.2.2) 13 0 6)) 13 0 6 - 1)) ((fmK_sendHereAllFor_f (fmK_sendHere_f I' f fr.2.2.2.2.2.2.2) J G (1, 0) pb ((fmK_sendHere_f I' f fr.2.2.2.2.2.2.2) 13 0 1).toNatClampNeg ((fmK_sendHere_f I' f fr.2.2.2.2.2.2.2) 13 0 6)) 17 (gs.length + 1) 1)) f n (fk_bind x (fun k => fk_put fr.2.1 (fk_pop (fk_all (gs.length + 1) (fk_here fr.2.2.2.2.2.2.2 k))))) := by
        intro I' x' h1 h2 h3
        obtain ⟨c1, c2⟩ := fk_here_S fr.2.2.2.2.2.2.2 hv h1
        obtain ⟨c3, c4⟩ := fk_here_o I' f fr.2.2.2.2.2.2.2
        obtain ⟨t1, t2, t3, t4⟩ := fk_tail J G (1, 0) pb (o := gs.length) hf hn c2 (c3.trans h2) o4
        rw [c4, h3, q1, fk_bb] at t4
        exact ⟨⟨(fk_sub hf h1.1).1, c1, t1, t2, t3⟩, t4⟩
      by_cases hf0 : r1 13 0 2 = 0
      · rw [if_pos hf0]
        cases hjj : fk_just (ts, fr :: g :: gs, q) with
        | inl c => rw [hjj] at j2; exact absurd (j2.2.1.symm.trans hf0) j2.2.2
        | inr k' =>
          rw [hjj] at j2
          have hend : fk_end (ts, fr :: g :: gs, q) = if fr.1 = 23 ∧ fr.2.1 ≠ 4 then .inl 6 else fk_put fr.2.1 (fk_pop (fk_all (gs.length + 1) (if fr.1 = 23 then fk_here fr.2.2.2.2.2.2.2 k' else k'))) := by
            simp only [fk_end, hjj, fk_bind]
          rw [hend]
          by_cases h23 : fr.1 = 23
          · rw [if_pos h23, if_pos h23]
            by_cases h4 : fr.2.1 = 4
            · rw [if_pos h4, if_neg (fun z => z.2 h4)]
              obtain ⟨p1, p2⟩ := A r1 _ j2 j3 e17
              exact ⟨⟨fun q => absurd q h0, fun _ => ⟨o3, j1, fun _ => ⟨fun _ => ⟨fun _ => p1, fun q => absurd h4 q⟩, fun q => absurd h23 q⟩, fun q => absurd hf0 q⟩⟩, p2⟩
            · rw [if_neg h4, if_pos ⟨h23, h4⟩]
              have hx6 : fk_S I0 (fm_u r1 13 0 2 6) f n (.inl 6) := ⟨fk_wk13 j2.1 2 6 (by decide) (by decide), fk_u_eq _, by decide⟩
              rw [(fk_sub hf hx6.1).2]
              obtain ⟨p1, p2⟩ := A _ _ hx6 ((fk_u_ns _ _ _ (by decide)).trans j3) (fun i s => (fk_u_ne _ _ _ (by decide)).trans (e17 i s))
              exact ⟨⟨fun q => absurd q h0, fun _ => ⟨o3, j1, fun _ => ⟨fun _ => ⟨fun q => absurd q h4, fun _ => p1⟩, fun q => absurd h23 q⟩, fun q => absurd hf0 q⟩⟩, p2⟩
          · rw [if_neg h23, if_neg (fun z => h23 z.1), if_neg h23]
            obtain ⟨t1, t2, t3, t4⟩ := fk_tail J G (1, 0) pb (o := gs.length) hf hn j2 j3 o4
            rw [e17, q1] at t4
            rw [s2] at t2 t3 t4
            exact ⟨⟨fun q => absurd q h0, fun _ => ⟨o3, j1, fun _ => ⟨fun q => absurd q h23, fun _ => ⟨t1, t2, t3⟩⟩, fun q => absurd hf0 q⟩⟩, t4⟩
      · rw [if_neg hf0]
        cases hjj : fk_just (ts, fr :: g :: gs, q) with
        | inr c => rw [hjj] at j2; exact absurd j2.2.1 hf0
        | inl c =>
          rw [hjj] at j2
          have hend : fk_end (ts, fr :: g :: gs, q) = .inl c := by
            simp only [fk_end, hjj, fk_bind]
          rw [hend]
          by_cases h23 : fr.1 = 23
          · rw [if_pos h23]
            obtain ⟨p1, p2⟩ := A r1 _ j2 j3 e17
            exact ⟨⟨fun q => absurd q h0, fun _ => ⟨o3, j1, fun q => absurd q hf0, fun _ => ⟨fun _ => p1, fun q => absurd h23 q⟩⟩⟩, p2⟩
          · rw [if_neg h23]
            obtain ⟨t1, t2, t3, t4⟩ := fk_tail J G (1, 0) pb (o := gs.length) hf hn j2 j3 o4
            rw [s2] at t2 t3 t4
            exact ⟨⟨fun q => absurd q h0, fun _ => ⟨o3, j1, fun q => absurd q hf0, fun _ => ⟨fun q => absurd q h23, fun _ => ⟨t1, t2, t3⟩⟩⟩⟩, t4⟩
theorem fk_frm_at {F : Nat → Nat → Int32} : ∀ {l : List fk_F} {a : Nat} {fr : fk_F} {fs : List fk_F}, fk_frm F l → l.drop a = fr :: fs → F fs.length 0 = fr.1 ∧ F fs.length 1 = fr.2.1 ∧ F fs.length 2 = Int32.ofNat fr.2.2.1 ∧ F fs.length 3 = Int32.ofNat fr.2.2.2.2.2.2.1
  | [], a, fr, fs, _, h => by simp at h
  | x :: r, 0, fr, fs, hF, h => by
    simp at h
    obtain ⟨rfl, rfl⟩ := h
    exact ⟨hF.1.1, hF.1.2.1, hF.1.2.2.1, hF.1.2.2.2.1⟩
  | x :: r, a + 1, fr, fs, hF, h => fk_frm_at hF.2 (by simpa using h)
theorem fk_w11_fs (s : Nat) (y : Int32) (k : fk_K) : (fk_w11 s y k).1 = k.1 ∧ (fk_w11 s y k).2.1 = k.2.1 := ⟨rfl, rfl⟩
theorem fk_jump_S {I0 I : fm_MI} {f n nl a o : Nat} {x : Int32 ⊕ fk_K} (op : Int32) (hf : f < 4) (hn : n < 40) (hl : I0 2 f 2 = Int32.ofNat nl) (hx : fk_S I0 I f n x) (h8 : o ≤ 8) (hk : ∀ k, x = .inr k → k.2.1.length = a + o + 1) :
    fmC_jump_p I op (Int32.ofNat o) ∧ fk_S I0 (fmC_jump_f I op (Int32.ofNat o)) f (n + 1) (fk_bind x (fk_jump nl op a)) ∧ (fmC_jump_f I op (Int32.ofNat o)) 13 0 6 = I 13 0 6 ∧ ∀ i s, (fmC_jump_f I op (Int32.ofNat o)) 17 i s = I 17 i s := by
  unfold fmC_jump_p fmC_jump_f fm_let
  dsimp only
  rw [fk_cl (show o < 2147483648 by omega)]
  generalize hnd : fmR_neededByJump_f I o = w
  obtain ⟨t1, t2, -⟩ := fk_take_S w hx
  obtain ⟨to1, to2⟩ := fk_take_o I w
  generalize fmC_take_f I w = r2 at t2 to1 to2 ⊢
  obtain ⟨b1, b2, b3, b4⟩ := fk_row_S (nl := nl) op 0 hf hn hl t2
  obtain ⟨bo1, bo2⟩ := fk_row_o r2.2 op 0
  generalize fmC_addRow_f r2.2 op 0 = r3 at b2 b3 b4 bo1 bo2 ⊢
  obtain ⟨s1, s2⟩ := fk_sub hf b2.1
  rw [s2]
  have hvo : vp_in (Int32.ofNat o) 9 := (fk_in (by omega)).mpr (by omega)
  have hE : ∀ i s, r3.2 17 i s = I 17 i s := fun i s => (bo2 i s).trans (to2 i s)
  have hO : r3.2 13 0 6 = I 13 0 6 := bo1.trans to1
  have h2f : r3.2 2 f 2 = Int32.ofNat nl := (b2.1.1 2 f 2 (by decide) (by decide) (by decide) (fun q => absurd q (by decide))).trans hl
  refine ⟨⟨hvo, t1, b1, fun _ => trivial, fun hm => ?_⟩, ?_, ?_⟩
  · have hvr := b4.resolve_left hm
    exact ⟨s1, fun _ => ⟨fun _ => hvr, fun _ => hvr⟩, fun _ => ⟨s1, hvr, fun _ => hvr, fun _ => hvr⟩⟩
  · rcases x with c | k
    ·
      simp only [fk_bind] at b2 ⊢
      split
      · exact b2
      · split
        · split
          · exact fk_w11_S b2 _ _
          · exact fk_w12_S b2 _ _
        · split
          · exact fk_w11_S (fk_w10_S b2 _ _) _ _
          · exact fk_w12_S (fk_w10_S b2 _ _) _ _
    · have hlen := hk _ rfl
      obtain ⟨ts, fs, L, R⟩ := k
      dsimp only at hlen
      obtain ⟨fr, gs, hd⟩ : ∃ fr gs, fs.drop a = fr :: gs := by
        cases hd : fs.drop a with
        | nil =>
          have := congrArg List.length hd
          simp at this; omega
        | cons fr gs => exact ⟨fr, gs, rfl⟩
      have hgs : gs.length = o := by
        have := congrArg List.length hd
        simp at this; omega
      have hfr := fk_frm_at hx.2.2.2.2.2.2.2.2.1 hd
      rw [hgs] at hfr
      obtain ⟨f1, f2, f3, f4⟩ := hfr
      have hw : w = fk_need fr := by
        rw [← hnd]
        unfold fmR_neededByJump_f fk_need
        rw [f1, f2]
      subst hw
      have hL40 := hx.2.2.2.2.2.2.2.2.2.2.2.1
      dsimp only at hL40
      simp only [fk_bind, fk_jump, hd] at b2 ⊢
      rw [hE, hE, hE, f1, f3, f4, h2f]
      cases htk : fk_tk (fk_need fr) (ts, fs, L, R) with
      | inl c =>
        rw [htk] at b2
        dsimp only
        split
        · exact b2
        · split
          · split
            · exact fk_w11_S b2 _ _
            · exact fk_w12_S b2 _ _
          · split
            · exact fk_w11_S (fk_w10_S b2 _ _) _ _
            · exact fk_w12_S (fk_w10_S b2 _ _) _ _
      | inr k' =>
        rw [htk] at b2
        obtain ⟨ts', fs', L', R'⟩ := k'
        obtain ⟨z1, z2, -⟩ := fk_tk_i htk
        subst z1
        cases z2
        have b3' := b3 _ (show fk_bind (Sum.inr (ts, fs', L, R)) (fk_tk (fk_need fr)) = _ from htk)
        dsimp only at b2 b3' ⊢
        cases hlv : fk_lv fs' with
        | false =>
          rw [hlv, if_neg (by decide)] at b3'
          rw [if_pos b3']
          simp only [fk_jmz, hlv, Bool.false_eq_true, if_false]
          obtain ⟨r1, r2', r3', r4, r5, r6⟩ := R
          simpa only [fk_row, hlv, Bool.false_eq_true, if_false] using b2
        | true =>
          rw [hlv, if_pos rfl] at b3'
          have hm : ¬ r3.1 = -1 := by rw [b3']; exact fk_m1 (by omega)
          have hr1 : r3.1.toNatClampNeg = L := by rw [b3']; exact fk_cl (by omega)
          rw [if_neg hm, hr1]
          simp only [fk_jmz, hlv, if_true, hgs]
          have hadd : Int32.ofNat nl + Int32.ofNat fr.2.2.1 = Int32.ofNat (nl + fr.2.2.1) := (Int32.ofNat_add _ _).symm
          rw [hadd]
          by_cases h4 : fk_need fr = 4
          · rw [if_pos h4, if_pos h4]
            by_cases h22 : fr.1 = 22
            · rw [if_pos h22, if_pos h22]
              exact fk_w11_S b2 _ _
            · rw [if_neg h22, if_neg h22]
              exact fk_w12_S b2 _ _
          · rw [if_neg h4, if_neg h4]
            by_cases h22 : fr.1 = 22
            · rw [if_pos h22, if_pos h22]
              exact fk_w11_S (fk_w10_S b2 _ _) _ _
            · rw [if_neg h22, if_neg h22]
              exact fk_w12_S (fk_w10_S b2 _ _) _ _
  · repeat' split
    all_goals (refine ⟨?_, fun i s => ?_⟩ <;> simp [fm_u_if, hO, hE])
theorem fk_pars_S (J : fm_MJ) (G : fm_MG) (pb : Nat × Nat) {I0 : fm_MI} {f n nl g : Nat} (a : Int32) {ty : Nat → Int32} {rs : Int32} (hf : f < 4) (hn : n < 40) (hl : I0 2 f 2 = Int32.ofNat nl) (hr : I0 2 g 3 = rs) :
    ∀ (m q : Nat) (I : fm_MI) (x : Int32 ⊕ fk_K), m < q → m ≤ 6 → (∀ j, j < m → I0 3 g j = ty j) → fk_S I0 I f n x →
    fmC_callFunction_L14_p q I J G pb a g (Int32.ofNat m - 1) ∧ fk_S I0 (fmC_callFunction_L14_f q I J G pb a g (Int32.ofNat m - 1)) f (n + 1) (fk_bind x (fun k => fk_bind (fk_pars ty m k) (fun k => fk_put rs (fk_row nl 29 a k))))
  | _, 0, _, _, h, _, _, _ => by omega
  | 0, q + 1, I, x, _, _, ht, hx => by
    unfold fmC_callFunction_L14_p fmC_callFunction_L14_f fm_let
    have h0 : Int32.ofNat 0 - 1 < 0 := by decide
    rw [if_pos h0]
    obtain ⟨b1, b2, b3, b4⟩ := fk_row_S (nl := nl) 29 a hf hn hl hx
    have h2 : (fmC_addRow_f I 29 a).2 2 g 3 = rs := (b2.1.1 2 g 3 (by decide) (by decide) (by decide) (fun q => absurd q (by decide))).trans hr
    obtain ⟨c1, c2⟩ := fk_put_S rs b2
    dsimp only
    rw [h2]
    refine ⟨⟨fun _ => ⟨b1, c1⟩, fun q => absurd h0 q⟩, ?_⟩
    rw [fk_bb] at c2
    exact c2
  | m + 1, q + 1, I, x, h1, h6, ht, hx => by
    unfold fmC_callFunction_L14_p fmC_callFunction_L14_f fm_let
    have e : Int32.ofNat (m + 1) - 1 = Int32.ofNat m := by rw [fk_d (by omega)]; rfl
    have e2 : Int32.ofNat m + (-1) = Int32.ofNat m - 1 := by rw [Int32.sub_eq_add_neg]
    have h0 : ¬ Int32.ofNat m < 0 := fk_nn (by omega)
    rw [e, if_neg h0, e2, fk_cl (show m < 2147483648 by omega)]
    have h3 : I 3 g m = ty m := (hx.1.1 3 g m (by decide) (by decide) (by decide) (fun q => absurd q (by decide))).trans (ht m (by omega))
    rw [h3]
    obtain ⟨t1, t2, -⟩ := fk_take_S (ty m) hx
    obtain ⟨p1, p2⟩ := fk_pars_S J G pb a hf hn hl hr m q (fmC_take_f I (ty m)).2 _ (by omega) (by omega) (fun j hj => ht j (by omega)) t2
    refine ⟨⟨fun q => absurd q h0, fun _ => ⟨(fk_in (by omega)).mpr (by omega), t1, p1⟩⟩, ?_⟩
    rw [fk_bb] at p2
    have : (fun k => fk_bind (fk_pars ty (m + 1) k) (fun k => fk_put rs (fk_row nl 29 a k))) = (fun k => fk_bind (fk_tk (ty m) k) (fun k => fk_bind (fk_pars ty m k) (fun k => fk_put rs (fk_row nl 29 a k)))) := by
      funext k
      rw [fk_pars, fk_bb]
    rw [this]
    exact p2
theorem fk_isw (a : Int32) {m : Nat} (h : m < 1000) : fmF_isWithin_f a (Int32.ofNat m - 1) = fk_b (fk_wb a m) := by
  unfold fmF_isWithin_f fk_wb
  by_cases h0 : a < 0
  · rw [if_pos h0]
    simp [h0, fk_b]
  · rw [if_neg h0]
    have ha : (0 : Int) ≤ a.toInt := by
      rw [Int32.lt_iff_toInt_lt] at h0
      simpa using h0
    have hc : (a.toNatClampNeg : Int) = a.toInt := by
      unfold Int32.toNatClampNeg
      omega
    cases m with
    | zero =>
      have : Int32.ofNat 0 - 1 < a := by
        rw [Int32.lt_iff_toInt_lt]
        have : (Int32.ofNat 0 - 1).toInt = -1 := by decide
        omega
      rw [if_pos this]
      simp [fk_b]
    | succ m =>
      have e : Int32.ofNat (m + 1) - 1 = Int32.ofNat m := by rw [fk_d (by omega)]; rfl
      have hi : (Int32.ofNat m).toInt = m := Int32.toInt_ofNat_of_lt (by simp; omega)
      rw [e]
      by_cases hl : Int32.ofNat m < a
      · rw [if_pos hl]
        rw [Int32.lt_iff_toInt_lt, hi] at hl
        have : ¬ a.toNatClampNeg < m + 1 := by omega
        simp [this, fk_b]
      · rw [if_neg hl]
        rw [Int32.lt_iff_toInt_lt, hi] at hl
        have : a.toNatClampNeg < m + 1 := by omega
        simp [this, h0, fk_b]
theorem fk_b01 (b : Bool) : fk_b b = 0 ∨ fk_b b = 1 := by cases b <;> simp [fk_b]
theorem fk_wbi {a : Int32} {m : Nat} (h : fk_wb a m = true) : vp_in a m ∧ a.toNatClampNeg < m := by
  unfold fk_wb at h
  simp only [Bool.and_eq_true, decide_eq_true_eq] at h
  exact ⟨fun q => q.elim h.1 (fun q => absurd h.2 (by omega)), h.2⟩
theorem fk_as0 {I0 I : fm_MI} {D : fk_D} {f n : Nat} {k : fk_K} (a : Int32) (hD : fk_mC I0 D) (hf : f < 4) (ht : D.1 f = true) (hx : fk_S I0 I f n (.inr k)) : fmC_isAsSaid_p I (Int32.ofNat 0) a ∧ fmC_isAsSaid_f I (Int32.ofNat 0) a = fk_b (fk_okn D f 0 a k.2.1.length) := by
  obtain ⟨s1, s2⟩ := fk_sub hf hx.1
  refine ⟨⟨fun h => absurd h (show ¬ Int32.ofNat 0 = 4 by decide), fun _ => ⟨fun h => absurd h (show ¬ Int32.ofNat 0 = 5 by decide), fun _ => ⟨fun h => absurd h (show ¬ Int32.ofNat 0 = 6 by decide), fun _ => ⟨fun h => absurd h (show ¬ Int32.ofNat 0 = 7 by decide), fun _ => ⟨fun h => absurd h (show ¬ Int32.ofNat 0 = 8 by decide), fun _ => ⟨fun h => absurd h (show ¬ Int32.ofNat 0 = 9 by decide), fun _ => ⟨fun h => absurd h (show ¬ Int32.ofNat 0 = 10 by decide), fun _ => ⟨fun h => absurd h (show ¬ Int32.ofNat 0 = 11 by decide), fun _ => ⟨fun h => absurd h (show ¬ Int32.ofNat 0 = 12 by decide), fun _ => ⟨fun h => absurd h (show ¬ Int32.ofNat 0 = 13 by decide), fun _ => ⟨fun h => absurd h (show ¬ Int32.ofNat 0 = 14 by decide), fun _ => ⟨fun h => absurd h (show ¬ Int32.ofNat 0 = 15 by decide), fun _ => ⟨fun h => absurd h (show ¬ Int32.ofNat 0 = 16 by decide), fun _ => ⟨fun h => absurd h (show ¬ Int32.ofNat 0 = 17 by decide), fun _ => ⟨fun h => absurd h (show ¬ Int32.ofNat 0 = 18 by decide), fun _ => ⟨fun h => absurd h (show ¬ Int32.ofNat 0 = 19 by decide), fun _ => ⟨fun h => absurd h (show ¬ Int32.ofNat 0 = 20 by decide), fun _ => ⟨fun h => absurd h (show ¬ Int32.ofNat 0 = 21 by decide), fun _ => ⟨fun h => absurd h (show ¬ Int32.ofNat 0 = 22 by decide), fun _ => ⟨fun h => absurd h (show ¬ Int32.ofNat 0 = 23 by decide), fun _ => ⟨fun h => absurd h (show ¬ Int32.ofNat 0 = 24 by decide), fun _ => ⟨fun h => absurd h (show ¬ Int32.ofNat 0 = 25 by decide), fun _ => ⟨fun h => absurd h (show ¬ Int32.ofNat 0 = 26 by decide), fun _ => ⟨fun h => absurd h (show ¬ Int32.ofNat 0 = 27 by decide), fun _ => ⟨fun h => absurd h (show ¬ Int32.ofNat 0 = 28 by decide), fun _ => ⟨fun h => absurd h (show ¬ Int32.ofNat 0 = 29 by decide), fun _ => trivial⟩⟩⟩⟩⟩⟩⟩⟩⟩⟩⟩⟩⟩⟩⟩⟩⟩⟩⟩⟩⟩⟩⟩⟩⟩⟩, ?_⟩
  · unfold fmC_isAsSaid_f fm_let
    rw [if_neg (show ¬ Int32.ofNat 0 = 4 by decide), if_neg (show ¬ Int32.ofNat 0 = 5 by decide), if_neg (show ¬ Int32.ofNat 0 = 6 by decide), if_neg (show ¬ Int32.ofNat 0 = 7 by decide), if_neg (show ¬ Int32.ofNat 0 = 8 by decide), if_neg (show ¬ Int32.ofNat 0 = 9 by decide), if_neg (show ¬ Int32.ofNat 0 = 10 by decide), if_neg (show ¬ Int32.ofNat 0 = 11 by decide), if_neg (show ¬ Int32.ofNat 0 = 12 by decide), if_neg (show ¬ Int32.ofNat 0 = 13 by decide), if_neg (show ¬ Int32.ofNat 0 = 14 by decide), if_neg (show ¬ Int32.ofNat 0 = 15 by decide), if_neg (show ¬ Int32.ofNat 0 = 16 by decide), if_neg (show ¬ Int32.ofNat 0 = 17 by decide), if_neg (show ¬ Int32.ofNat 0 = 18 by decide), if_neg (show ¬ Int32.ofNat 0 = 19 by decide), if_neg (show ¬ Int32.ofNat 0 = 20 by decide), if_neg (show ¬ Int32.ofNat 0 = 21 by decide), if_neg (show ¬ Int32.ofNat 0 = 22 by decide), if_neg (show ¬ Int32.ofNat 0 = 23 by decide), if_neg (show ¬ Int32.ofNat 0 = 24 by decide), if_neg (show ¬ Int32.ofNat 0 = 25 by decide), if_neg (show ¬ Int32.ofNat 0 = 26 by decide), if_neg (show ¬ Int32.ofNat 0 = 27 by decide), if_neg (show ¬ Int32.ofNat 0 = 28 by decide), if_neg (show ¬ Int32.ofNat 0 = 29 by decide)]
    rfl
theorem fk_as1 {I0 I : fm_MI} {D : fk_D} {f n : Nat} {k : fk_K} (a : Int32) (hD : fk_mC I0 D) (hf : f < 4) (ht : D.1 f = true) (hx : fk_S I0 I f n (.inr k)) : fmC_isAsSaid_p I (Int32.ofNat 1) a ∧ fmC_isAsSaid_f I (Int32.ofNat 1) a = fk_b (fk_okn D f 1 a k.2.1.length) := by
  obtain ⟨s1, s2⟩ := fk_sub hf hx.1
  refine ⟨⟨fun h => absurd h (show ¬ Int32.ofNat 1 = 4 by decide), fun _ => ⟨fun h => absurd h (show ¬ Int32.ofNat 1 = 5 by decide), fun _ => ⟨fun h => absurd h (show ¬ Int32.ofNat 1 = 6 by decide), fun _ => ⟨fun h => absurd h (show ¬ Int32.ofNat 1 = 7 by decide), fun _ => ⟨fun h => absurd h (show ¬ Int32.ofNat 1 = 8 by decide), fun _ => ⟨fun h => absurd h (show ¬ Int32.ofNat 1 = 9 by decide), fun _ => ⟨fun h => absurd h (show ¬ Int32.ofNat 1 = 10 by decide), fun _ => ⟨fun h => absurd h (show ¬ Int32.ofNat 1 = 11 by decide), fun _ => ⟨fun h => absurd h (show ¬ Int32.ofNat 1 = 12 by decide), fun _ => ⟨fun h => absurd h (show ¬ Int32.ofNat 1 = 13 by decide), fun _ => ⟨fun h => absurd h (show ¬ Int32.ofNat 1 = 14 by decide), fun _ => ⟨fun h => absurd h (show ¬ Int32.ofNat 1 = 15 by decide), fun _ => ⟨fun h => absurd h (show ¬ Int32.ofNat 1 = 16 by decide), fun _ => ⟨fun h => absurd h (show ¬ Int32.ofNat 1 = 17 by decide), fun _ => ⟨fun h => absurd h (show ¬ Int32.ofNat 1 = 18 by decide), fun _ => ⟨fun h => absurd h (show ¬ Int32.ofNat 1 = 19 by decide), fun _ => ⟨fun h => absurd h (show ¬ Int32.ofNat 1 = 20 by decide), fun _ => ⟨fun h => absurd h (show ¬ Int32.ofNat 1 = 21 by decide), fun _ => ⟨fun h => absurd h (show ¬ Int32.ofNat 1 = 22 by decide), fun _ => ⟨fun h => absurd h (show ¬ Int32.ofNat 1 = 23 by decide), fun _ => ⟨fun h => absurd h (show ¬ Int32.ofNat 1 = 24 by decide), fun _ => ⟨fun h => absurd h (show ¬ Int32.ofNat 1 = 25 by decide), fun _ => ⟨fun h => absurd h (show ¬ Int32.ofNat 1 = 26 by decide), fun _ => ⟨fun h => absurd h (show ¬ Int32.ofNat 1 = 27 by decide), fun _ => ⟨fun h => absurd h (show ¬ Int32.ofNat 1 = 28 by decide), fun _ => ⟨fun h => absurd h (show ¬ Int32.ofNat 1 = 29 by decide), fun _ => trivial⟩⟩⟩⟩⟩⟩⟩⟩⟩⟩⟩⟩⟩⟩⟩⟩⟩⟩⟩⟩⟩⟩⟩⟩⟩⟩, ?_⟩
  · unfold fmC_isAsSaid_f fm_let
    rw [if_neg (show ¬ Int32.ofNat 1 = 4 by decide), if_neg (show ¬ Int32.ofNat 1 = 5 by decide), if_neg (show ¬ Int32.ofNat 1 = 6 by decide), if_neg (show ¬ Int32.ofNat 1 = 7 by decide), if_neg (show ¬ Int32.ofNat 1 = 8 by decide), if_neg (show ¬ Int32.ofNat 1 = 9 by decide), if_neg (show ¬ Int32.ofNat 1 = 10 by decide), if_neg (show ¬ Int32.ofNat 1 = 11 by decide), if_neg (show ¬ Int32.ofNat 1 = 12 by decide), if_neg (show ¬ Int32.ofNat 1 = 13 by decide), if_neg (show ¬ Int32.ofNat 1 = 14 by decide), if_neg (show ¬ Int32.ofNat 1 = 15 by decide), if_neg (show ¬ Int32.ofNat 1 = 16 by decide), if_neg (show ¬ Int32.ofNat 1 = 17 by decide), if_neg (show ¬ Int32.ofNat 1 = 18 by decide), if_neg (show ¬ Int32.ofNat 1 = 19 by decide), if_neg (show ¬ Int32.ofNat 1 = 20 by decide), if_neg (show ¬ Int32.ofNat 1 = 21 by decide), if_neg (show ¬ Int32.ofNat 1 = 22 by decide), if_neg (show ¬ Int32.ofNat 1 = 23 by decide), if_neg (show ¬ Int32.ofNat 1 = 24 by decide), if_neg (show ¬ Int32.ofNat 1 = 25 by decide), if_neg (show ¬ Int32.ofNat 1 = 26 by decide), if_neg (show ¬ Int32.ofNat 1 = 27 by decide), if_neg (show ¬ Int32.ofNat 1 = 28 by decide), if_neg (show ¬ Int32.ofNat 1 = 29 by decide)]
    rfl
theorem fk_as2 {I0 I : fm_MI} {D : fk_D} {f n : Nat} {k : fk_K} (a : Int32) (hD : fk_mC I0 D) (hf : f < 4) (ht : D.1 f = true) (hx : fk_S I0 I f n (.inr k)) : fmC_isAsSaid_p I (Int32.ofNat 2) a ∧ fmC_isAsSaid_f I (Int32.ofNat 2) a = fk_b (fk_okn D f 2 a k.2.1.length) := by
  obtain ⟨s1, s2⟩ := fk_sub hf hx.1
  refine ⟨⟨fun h => absurd h (show ¬ Int32.ofNat 2 = 4 by decide), fun _ => ⟨fun h => absurd h (show ¬ Int32.ofNat 2 = 5 by decide), fun _ => ⟨fun h => absurd h (show ¬ Int32.ofNat 2 = 6 by decide), fun _ => ⟨fun h => absurd h (show ¬ Int32.ofNat 2 = 7 by decide), fun _ => ⟨fun h => absurd h (show ¬ Int32.ofNat 2 = 8 by decide), fun _ => ⟨fun h => absurd h (show ¬ Int32.ofNat 2 = 9 by decide), fun _ => ⟨fun h => absurd h (show ¬ Int32.ofNat 2 = 10 by decide), fun _ => ⟨fun h => absurd h (show ¬ Int32.ofNat 2 = 11 by decide), fun _ => ⟨fun h => absurd h (show ¬ Int32.ofNat 2 = 12 by decide), fun _ => ⟨fun h => absurd h (show ¬ Int32.ofNat 2 = 13 by decide), fun _ => ⟨fun h => absurd h (show ¬ Int32.ofNat 2 = 14 by decide), fun _ => ⟨fun h => absurd h (show ¬ Int32.ofNat 2 = 15 by decide), fun _ => ⟨fun h => absurd h (show ¬ Int32.ofNat 2 = 16 by decide), fun _ => ⟨fun h => absurd h (show ¬ Int32.ofNat 2 = 17 by decide), fun _ => ⟨fun h => absurd h (show ¬ Int32.ofNat 2 = 18 by decide), fun _ => ⟨fun h => absurd h (show ¬ Int32.ofNat 2 = 19 by decide), fun _ => ⟨fun h => absurd h (show ¬ Int32.ofNat 2 = 20 by decide), fun _ => ⟨fun h => absurd h (show ¬ Int32.ofNat 2 = 21 by decide), fun _ => ⟨fun h => absurd h (show ¬ Int32.ofNat 2 = 22 by decide), fun _ => ⟨fun h => absurd h (show ¬ Int32.ofNat 2 = 23 by decide), fun _ => ⟨fun h => absurd h (show ¬ Int32.ofNat 2 = 24 by decide), fun _ => ⟨fun h => absurd h (show ¬ Int32.ofNat 2 = 25 by decide), fun _ => ⟨fun h => absurd h (show ¬ Int32.ofNat 2 = 26 by decide), fun _ => ⟨fun h => absurd h (show ¬ Int32.ofNat 2 = 27 by decide), fun _ => ⟨fun h => absurd h (show ¬ Int32.ofNat 2 = 28 by decide), fun _ => ⟨fun h => absurd h (show ¬ Int32.ofNat 2 = 29 by decide), fun _ => trivial⟩⟩⟩⟩⟩⟩⟩⟩⟩⟩⟩⟩⟩⟩⟩⟩⟩⟩⟩⟩⟩⟩⟩⟩⟩⟩, ?_⟩
  · unfold fmC_isAsSaid_f fm_let
    rw [if_neg (show ¬ Int32.ofNat 2 = 4 by decide), if_neg (show ¬ Int32.ofNat 2 = 5 by decide), if_neg (show ¬ Int32.ofNat 2 = 6 by decide), if_neg (show ¬ Int32.ofNat 2 = 7 by decide), if_neg (show ¬ Int32.ofNat 2 = 8 by decide), if_neg (show ¬ Int32.ofNat 2 = 9 by decide), if_neg (show ¬ Int32.ofNat 2 = 10 by decide), if_neg (show ¬ Int32.ofNat 2 = 11 by decide), if_neg (show ¬ Int32.ofNat 2 = 12 by decide), if_neg (show ¬ Int32.ofNat 2 = 13 by decide), if_neg (show ¬ Int32.ofNat 2 = 14 by decide), if_neg (show ¬ Int32.ofNat 2 = 15 by decide), if_neg (show ¬ Int32.ofNat 2 = 16 by decide), if_neg (show ¬ Int32.ofNat 2 = 17 by decide), if_neg (show ¬ Int32.ofNat 2 = 18 by decide), if_neg (show ¬ Int32.ofNat 2 = 19 by decide), if_neg (show ¬ Int32.ofNat 2 = 20 by decide), if_neg (show ¬ Int32.ofNat 2 = 21 by decide), if_neg (show ¬ Int32.ofNat 2 = 22 by decide), if_neg (show ¬ Int32.ofNat 2 = 23 by decide), if_neg (show ¬ Int32.ofNat 2 = 24 by decide), if_neg (show ¬ Int32.ofNat 2 = 25 by decide), if_neg (show ¬ Int32.ofNat 2 = 26 by decide), if_neg (show ¬ Int32.ofNat 2 = 27 by decide), if_neg (show ¬ Int32.ofNat 2 = 28 by decide), if_neg (show ¬ Int32.ofNat 2 = 29 by decide)]
    rfl
theorem fk_as3 {I0 I : fm_MI} {D : fk_D} {f n : Nat} {k : fk_K} (a : Int32) (hD : fk_mC I0 D) (hf : f < 4) (ht : D.1 f = true) (hx : fk_S I0 I f n (.inr k)) : fmC_isAsSaid_p I (Int32.ofNat 3) a ∧ fmC_isAsSaid_f I (Int32.ofNat 3) a = fk_b (fk_okn D f 3 a k.2.1.length) := by
  obtain ⟨s1, s2⟩ := fk_sub hf hx.1
  refine ⟨⟨fun h => absurd h (show ¬ Int32.ofNat 3 = 4 by decide), fun _ => ⟨fun h => absurd h (show ¬ Int32.ofNat 3 = 5 by decide), fun _ => ⟨fun h => absurd h (show ¬ Int32.ofNat 3 = 6 by decide), fun _ => ⟨fun h => absurd h (show ¬ Int32.ofNat 3 = 7 by decide), fun _ => ⟨fun h => absurd h (show ¬ Int32.ofNat 3 = 8 by decide), fun _ => ⟨fun h => absurd h (show ¬ Int32.ofNat 3 = 9 by decide), fun _ => ⟨fun h => absurd h (show ¬ Int32.ofNat 3 = 10 by decide), fun _ => ⟨fun h => absurd h (show ¬ Int32.ofNat 3 = 11 by decide), fun _ => ⟨fun h => absurd h (show ¬ Int32.ofNat 3 = 12 by decide), fun _ => ⟨fun h => absurd h (show ¬ Int32.ofNat 3 = 13 by decide), fun _ => ⟨fun h => absurd h (show ¬ Int32.ofNat 3 = 14 by decide), fun _ => ⟨fun h => absurd h (show ¬ Int32.ofNat 3 = 15 by decide), fun _ => ⟨fun h => absurd h (show ¬ Int32.ofNat 3 = 16 by decide), fun _ => ⟨fun h => absurd h (show ¬ Int32.ofNat 3 = 17 by decide), fun _ => ⟨fun h => absurd h (show ¬ Int32.ofNat 3 = 18 by decide), fun _ => ⟨fun h => absurd h (show ¬ Int32.ofNat 3 = 19 by decide), fun _ => ⟨fun h => absurd h (show ¬ Int32.ofNat 3 = 20 by decide), fun _ => ⟨fun h => absurd h (show ¬ Int32.ofNat 3 = 21 by decide), fun _ => ⟨fun h => absurd h (show ¬ Int32.ofNat 3 = 22 by decide), fun _ => ⟨fun h => absurd h (show ¬ Int32.ofNat 3 = 23 by decide), fun _ => ⟨fun h => absurd h (show ¬ Int32.ofNat 3 = 24 by decide), fun _ => ⟨fun h => absurd h (show ¬ Int32.ofNat 3 = 25 by decide), fun _ => ⟨fun h => absurd h (show ¬ Int32.ofNat 3 = 26 by decide), fun _ => ⟨fun h => absurd h (show ¬ Int32.ofNat 3 = 27 by decide), fun _ => ⟨fun h => absurd h (show ¬ Int32.ofNat 3 = 28 by decide), fun _ => ⟨fun h => absurd h (show ¬ Int32.ofNat 3 = 29 by decide), fun _ => trivial⟩⟩⟩⟩⟩⟩⟩⟩⟩⟩⟩⟩⟩⟩⟩⟩⟩⟩⟩⟩⟩⟩⟩⟩⟩⟩, ?_⟩
  · unfold fmC_isAsSaid_f fm_let
    rw [if_neg (show ¬ Int32.ofNat 3 = 4 by decide), if_neg (show ¬ Int32.ofNat 3 = 5 by decide), if_neg (show ¬ Int32.ofNat 3 = 6 by decide), if_neg (show ¬ Int32.ofNat 3 = 7 by decide), if_neg (show ¬ Int32.ofNat 3 = 8 by decide), if_neg (show ¬ Int32.ofNat 3 = 9 by decide), if_neg (show ¬ Int32.ofNat 3 = 10 by decide), if_neg (show ¬ Int32.ofNat 3 = 11 by decide), if_neg (show ¬ Int32.ofNat 3 = 12 by decide), if_neg (show ¬ Int32.ofNat 3 = 13 by decide), if_neg (show ¬ Int32.ofNat 3 = 14 by decide), if_neg (show ¬ Int32.ofNat 3 = 15 by decide), if_neg (show ¬ Int32.ofNat 3 = 16 by decide), if_neg (show ¬ Int32.ofNat 3 = 17 by decide), if_neg (show ¬ Int32.ofNat 3 = 18 by decide), if_neg (show ¬ Int32.ofNat 3 = 19 by decide), if_neg (show ¬ Int32.ofNat 3 = 20 by decide), if_neg (show ¬ Int32.ofNat 3 = 21 by decide), if_neg (show ¬ Int32.ofNat 3 = 22 by decide), if_neg (show ¬ Int32.ofNat 3 = 23 by decide), if_neg (show ¬ Int32.ofNat 3 = 24 by decide), if_neg (show ¬ Int32.ofNat 3 = 25 by decide), if_neg (show ¬ Int32.ofNat 3 = 26 by decide), if_neg (show ¬ Int32.ofNat 3 = 27 by decide), if_neg (show ¬ Int32.ofNat 3 = 28 by decide), if_neg (show ¬ Int32.ofNat 3 = 29 by decide)]
    rfl
theorem fk_as4 {I0 I : fm_MI} {D : fk_D} {f n : Nat} {k : fk_K} (a : Int32) (hD : fk_mC I0 D) (hf : f < 4) (ht : D.1 f = true) (hx : fk_S I0 I f n (.inr k)) : fmC_isAsSaid_p I (Int32.ofNat 4) a ∧ fmC_isAsSaid_f I (Int32.ofNat 4) a = fk_b (fk_okn D f 4 a k.2.1.length) := by
  obtain ⟨s1, s2⟩ := fk_sub hf hx.1
  obtain ⟨-, -, hg⟩ := hD f hf
  obtain ⟨-, -, hl, -, hl6, -⟩ := hg ht
  have h2 : I 2 f 2 = Int32.ofNat (D.2.2.1 f) := (hx.1.1 2 f 2 (by decide) (by decide) (by decide) (fun q => absurd q (by decide))).trans hl
  have hw := fk_isw a (m := D.2.2.1 f) (by omega)
  refine ⟨⟨fun _ => ⟨s1, (show fmF_isWithin_f a (I 2 ((I 13 0 1).toNatClampNeg) 2 - 1) = 0 ∨ fmF_isWithin_f a (I 2 ((I 13 0 1).toNatClampNeg) 2 - 1) = 1 from by rw [s2, h2, hw]; exact fk_b01 _)⟩, fun h => absurd (show Int32.ofNat 4 = 4 by decide) h⟩, ?_⟩
  · unfold fmC_isAsSaid_f fm_let
    rw [if_pos (show Int32.ofNat 4 = 4 by decide)]
    rw [s2, h2]
    exact hw
theorem fk_as5 {I0 I : fm_MI} {D : fk_D} {f n : Nat} {k : fk_K} (a : Int32) (hD : fk_mC I0 D) (hf : f < 4) (ht : D.1 f = true) (hx : fk_S I0 I f n (.inr k)) : fmC_isAsSaid_p I (Int32.ofNat 5) a ∧ fmC_isAsSaid_f I (Int32.ofNat 5) a = fk_b (fk_okn D f 5 a k.2.1.length) := by
  obtain ⟨s1, s2⟩ := fk_sub hf hx.1
  obtain ⟨-, -, hg⟩ := hD f hf
  obtain ⟨-, -, hl, -, hl6, -⟩ := hg ht
  have h2 : I 2 f 2 = Int32.ofNat (D.2.2.1 f) := (hx.1.1 2 f 2 (by decide) (by decide) (by decide) (fun q => absurd q (by decide))).trans hl
  have hw := fk_isw a (m := D.2.2.1 f) (by omega)
  refine ⟨⟨fun h => absurd h (show ¬ Int32.ofNat 5 = 4 by decide), fun _ => ⟨fun _ => ⟨s1, (show fmF_isWithin_f a (I 2 ((I 13 0 1).toNatClampNeg) 2 - 1) = 0 ∨ fmF_isWithin_f a (I 2 ((I 13 0 1).toNatClampNeg) 2 - 1) = 1 from by rw [s2, h2, hw]; exact fk_b01 _)⟩, fun h => absurd (show Int32.ofNat 5 = 5 by decide) h⟩⟩, ?_⟩
  · unfold fmC_isAsSaid_f fm_let
    rw [if_neg (show ¬ Int32.ofNat 5 = 4 by decide), if_pos (show Int32.ofNat 5 = 5 by decide)]
    rw [s2, h2]
    exact hw
theorem fk_as6 {I0 I : fm_MI} {D : fk_D} {f n : Nat} {k : fk_K} (a : Int32) (hD : fk_mC I0 D) (hf : f < 4) (ht : D.1 f = true) (hx : fk_S I0 I f n (.inr k)) : fmC_isAsSaid_p I (Int32.ofNat 6) a ∧ fmC_isAsSaid_f I (Int32.ofNat 6) a = fk_b (fk_okn D f 6 a k.2.1.length) := by
  obtain ⟨s1, s2⟩ := fk_sub hf hx.1
  obtain ⟨-, -, hg⟩ := hD f hf
  obtain ⟨-, -, hl, -, hl6, -⟩ := hg ht
  have h2 : I 2 f 2 = Int32.ofNat (D.2.2.1 f) := (hx.1.1 2 f 2 (by decide) (by decide) (by decide) (fun q => absurd q (by decide))).trans hl
  have hw := fk_isw a (m := D.2.2.1 f) (by omega)
  refine ⟨⟨fun h => absurd h (show ¬ Int32.ofNat 6 = 4 by decide), fun _ => ⟨fun h => absurd h (show ¬ Int32.ofNat 6 = 5 by decide), fun _ => ⟨fun _ => ⟨s1, (show fmF_isWithin_f a (I 2 ((I 13 0 1).toNatClampNeg) 2 - 1) = 0 ∨ fmF_isWithin_f a (I 2 ((I 13 0 1).toNatClampNeg) 2 - 1) = 1 from by rw [s2, h2, hw]; exact fk_b01 _)⟩, fun h => absurd (show Int32.ofNat 6 = 6 by decide) h⟩⟩⟩, ?_⟩
  · unfold fmC_isAsSaid_f fm_let
    rw [if_neg (show ¬ Int32.ofNat 6 = 4 by decide), if_neg (show ¬ Int32.ofNat 6 = 5 by decide), if_pos (show Int32.ofNat 6 = 6 by decide)]
    rw [s2, h2]
    exact hw
theorem fk_as7 {I0 I : fm_MI} {D : fk_D} {f n : Nat} {k : fk_K} (a : Int32) (hD : fk_mC I0 D) (hf : f < 4) (ht : D.1 f = true) (hx : fk_S I0 I f n (.inr k)) : fmC_isAsSaid_p I (Int32.ofNat 7) a ∧ fmC_isAsSaid_f I (Int32.ofNat 7) a = fk_b (fk_okn D f 7 a k.2.1.length) := by
  obtain ⟨s1, s2⟩ := fk_sub hf hx.1
  have hw : fmF_isWithin_f a 3 = fk_b (fk_wb a 4) := fk_isw a (m := 4) (by omega)
  refine ⟨⟨fun h => absurd h (show ¬ Int32.ofNat 7 = 4 by decide), fun _ => ⟨fun h => absurd h (show ¬ Int32.ofNat 7 = 5 by decide), fun _ => ⟨fun h => absurd h (show ¬ Int32.ofNat 7 = 6 by decide), fun _ => ⟨fun _ => (show fmF_isWithin_f a 3 = 0 ∨ fmF_isWithin_f a 3 = 1 from by rw [hw]; exact fk_b01 _), fun h => absurd (show Int32.ofNat 7 = 7 by decide) h⟩⟩⟩⟩, ?_⟩
  · unfold fmC_isAsSaid_f fm_let
    rw [if_neg (show ¬ Int32.ofNat 7 = 4 by decide), if_neg (show ¬ Int32.ofNat 7 = 5 by decide), if_neg (show ¬ Int32.ofNat 7 = 6 by decide), if_pos (show Int32.ofNat 7 = 7 by decide)]
    exact hw
theorem fk_as8 {I0 I : fm_MI} {D : fk_D} {f n : Nat} {k : fk_K} (a : Int32) (hD : fk_mC I0 D) (hf : f < 4) (ht : D.1 f = true) (hx : fk_S I0 I f n (.inr k)) : fmC_isAsSaid_p I (Int32.ofNat 8) a ∧ fmC_isAsSaid_f I (Int32.ofNat 8) a = fk_b (fk_okn D f 8 a k.2.1.length) := by
  obtain ⟨s1, s2⟩ := fk_sub hf hx.1
  have hw : fmF_isWithin_f a 3 = fk_b (fk_wb a 4) := fk_isw a (m := 4) (by omega)
  refine ⟨⟨fun h => absurd h (show ¬ Int32.ofNat 8 = 4 by decide), fun _ => ⟨fun h => absurd h (show ¬ Int32.ofNat 8 = 5 by decide), fun _ => ⟨fun h => absurd h (show ¬ Int32.ofNat 8 = 6 by decide), fun _ => ⟨fun h => absurd h (show ¬ Int32.ofNat 8 = 7 by decide), fun _ => ⟨fun _ => (show fmF_isWithin_f a 3 = 0 ∨ fmF_isWithin_f a 3 = 1 from by rw [hw]; exact fk_b01 _), fun h => absurd (show Int32.ofNat 8 = 8 by decide) h⟩⟩⟩⟩⟩, ?_⟩
  · unfold fmC_isAsSaid_f fm_let
    rw [if_neg (show ¬ Int32.ofNat 8 = 4 by decide), if_neg (show ¬ Int32.ofNat 8 = 5 by decide), if_neg (show ¬ Int32.ofNat 8 = 6 by decide), if_neg (show ¬ Int32.ofNat 8 = 7 by decide), if_pos (show Int32.ofNat 8 = 8 by decide)]
    exact hw
theorem fk_as9 {I0 I : fm_MI} {D : fk_D} {f n : Nat} {k : fk_K} (a : Int32) (hD : fk_mC I0 D) (hf : f < 4) (ht : D.1 f = true) (hx : fk_S I0 I f n (.inr k)) : fmC_isAsSaid_p I (Int32.ofNat 9) a ∧ fmC_isAsSaid_f I (Int32.ofNat 9) a = fk_b (fk_okn D f 9 a k.2.1.length) := by
  obtain ⟨s1, s2⟩ := fk_sub hf hx.1
  refine ⟨⟨fun h => absurd h (show ¬ Int32.ofNat 9 = 4 by decide), fun _ => ⟨fun h => absurd h (show ¬ Int32.ofNat 9 = 5 by decide), fun _ => ⟨fun h => absurd h (show ¬ Int32.ofNat 9 = 6 by decide), fun _ => ⟨fun h => absurd h (show ¬ Int32.ofNat 9 = 7 by decide), fun _ => ⟨fun h => absurd h (show ¬ Int32.ofNat 9 = 8 by decide), fun _ => ⟨fun _ => trivial, fun h => absurd (show Int32.ofNat 9 = 9 by decide) h⟩⟩⟩⟩⟩⟩, ?_⟩
  · unfold fmC_isAsSaid_f fm_let
    rw [if_neg (show ¬ Int32.ofNat 9 = 4 by decide), if_neg (show ¬ Int32.ofNat 9 = 5 by decide), if_neg (show ¬ Int32.ofNat 9 = 6 by decide), if_neg (show ¬ Int32.ofNat 9 = 7 by decide), if_neg (show ¬ Int32.ofNat 9 = 8 by decide), if_pos (show Int32.ofNat 9 = 9 by decide)]
    rfl
theorem fk_as10 {I0 I : fm_MI} {D : fk_D} {f n : Nat} {k : fk_K} (a : Int32) (hD : fk_mC I0 D) (hf : f < 4) (ht : D.1 f = true) (hx : fk_S I0 I f n (.inr k)) : fmC_isAsSaid_p I (Int32.ofNat 10) a ∧ fmC_isAsSaid_f I (Int32.ofNat 10) a = fk_b (fk_okn D f 10 a k.2.1.length) := by
  obtain ⟨s1, s2⟩ := fk_sub hf hx.1
  refine ⟨⟨fun h => absurd h (show ¬ Int32.ofNat 10 = 4 by decide), fun _ => ⟨fun h => absurd h (show ¬ Int32.ofNat 10 = 5 by decide), fun _ => ⟨fun h => absurd h (show ¬ Int32.ofNat 10 = 6 by decide), fun _ => ⟨fun h => absurd h (show ¬ Int32.ofNat 10 = 7 by decide), fun _ => ⟨fun h => absurd h (show ¬ Int32.ofNat 10 = 8 by decide), fun _ => ⟨fun h => absurd h (show ¬ Int32.ofNat 10 = 9 by decide), fun _ => ⟨fun _ => trivial, fun h => absurd (show Int32.ofNat 10 = 10 by decide) h⟩⟩⟩⟩⟩⟩⟩, ?_⟩
  · unfold fmC_isAsSaid_f fm_let
    rw [if_neg (show ¬ Int32.ofNat 10 = 4 by decide), if_neg (show ¬ Int32.ofNat 10 = 5 by decide), if_neg (show ¬ Int32.ofNat 10 = 6 by decide), if_neg (show ¬ Int32.ofNat 10 = 7 by decide), if_neg (show ¬ Int32.ofNat 10 = 8 by decide), if_neg (show ¬ Int32.ofNat 10 = 9 by decide), if_pos (show Int32.ofNat 10 = 10 by decide)]
    rfl
theorem fk_as11 {I0 I : fm_MI} {D : fk_D} {f n : Nat} {k : fk_K} (a : Int32) (hD : fk_mC I0 D) (hf : f < 4) (ht : D.1 f = true) (hx : fk_S I0 I f n (.inr k)) : fmC_isAsSaid_p I (Int32.ofNat 11) a ∧ fmC_isAsSaid_f I (Int32.ofNat 11) a = fk_b (fk_okn D f 11 a k.2.1.length) := by
  obtain ⟨s1, s2⟩ := fk_sub hf hx.1
  have hw : fmF_isWithin_f a 3 = fk_b (fk_wb a 4) := fk_isw a (m := 4) (by omega)
  refine ⟨⟨fun h => absurd h (show ¬ Int32.ofNat 11 = 4 by decide), fun _ => ⟨fun h => absurd h (show ¬ Int32.ofNat 11 = 5 by decide), fun _ => ⟨fun h => absurd h (show ¬ Int32.ofNat 11 = 6 by decide), fun _ => ⟨fun h => absurd h (show ¬ Int32.ofNat 11 = 7 by decide), fun _ => ⟨fun h => absurd h (show ¬ Int32.ofNat 11 = 8 by decide), fun _ => ⟨fun h => absurd h (show ¬ Int32.ofNat 11 = 9 by decide), fun _ => ⟨fun h => absurd h (show ¬ Int32.ofNat 11 = 10 by decide), fun _ => ⟨fun _ => (show fmF_isWithin_f a 3 = 0 ∨ fmF_isWithin_f a 3 = 1 from by rw [hw]; exact fk_b01 _), fun h => absurd (show Int32.ofNat 11 = 11 by decide) h⟩⟩⟩⟩⟩⟩⟩⟩, ?_⟩
  · unfold fmC_isAsSaid_f fm_let
    rw [if_neg (show ¬ Int32.ofNat 11 = 4 by decide), if_neg (show ¬ Int32.ofNat 11 = 5 by decide), if_neg (show ¬ Int32.ofNat 11 = 6 by decide), if_neg (show ¬ Int32.ofNat 11 = 7 by decide), if_neg (show ¬ Int32.ofNat 11 = 8 by decide), if_neg (show ¬ Int32.ofNat 11 = 9 by decide), if_neg (show ¬ Int32.ofNat 11 = 10 by decide), if_pos (show Int32.ofNat 11 = 11 by decide)]
    exact hw
theorem fk_as12 {I0 I : fm_MI} {D : fk_D} {f n : Nat} {k : fk_K} (a : Int32) (hD : fk_mC I0 D) (hf : f < 4) (ht : D.1 f = true) (hx : fk_S I0 I f n (.inr k)) : fmC_isAsSaid_p I (Int32.ofNat 12) a ∧ fmC_isAsSaid_f I (Int32.ofNat 12) a = fk_b (fk_okn D f 12 a k.2.1.length) := by
  obtain ⟨s1, s2⟩ := fk_sub hf hx.1
  have hw : fmF_isWithin_f a 3 = fk_b (fk_wb a 4) := fk_isw a (m := 4) (by omega)
  refine ⟨⟨fun h => absurd h (show ¬ Int32.ofNat 12 = 4 by decide), fun _ => ⟨fun h => absurd h (show ¬ Int32.ofNat 12 = 5 by decide), fun _ => ⟨fun h => absurd h (show ¬ Int32.ofNat 12 = 6 by decide), fun _ => ⟨fun h => absurd h (show ¬ Int32.ofNat 12 = 7 by decide), fun _ => ⟨fun h => absurd h (show ¬ Int32.ofNat 12 = 8 by decide), fun _ => ⟨fun h => absurd h (show ¬ Int32.ofNat 12 = 9 by decide), fun _ => ⟨fun h => absurd h (show ¬ Int32.ofNat 12 = 10 by decide), fun _ => ⟨fun h => absurd h (show ¬ Int32.ofNat 12 = 11 by decide), fun _ => ⟨fun _ => (show fmF_isWithin_f a 3 = 0 ∨ fmF_isWithin_f a 3 = 1 from by rw [hw]; exact fk_b01 _), fun h => absurd (show Int32.ofNat 12 = 12 by decide) h⟩⟩⟩⟩⟩⟩⟩⟩⟩, ?_⟩
  · unfold fmC_isAsSaid_f fm_let
    rw [if_neg (show ¬ Int32.ofNat 12 = 4 by decide), if_neg (show ¬ Int32.ofNat 12 = 5 by decide), if_neg (show ¬ Int32.ofNat 12 = 6 by decide), if_neg (show ¬ Int32.ofNat 12 = 7 by decide), if_neg (show ¬ Int32.ofNat 12 = 8 by decide), if_neg (show ¬ Int32.ofNat 12 = 9 by decide), if_neg (show ¬ Int32.ofNat 12 = 10 by decide), if_neg (show ¬ Int32.ofNat 12 = 11 by decide), if_pos (show Int32.ofNat 12 = 12 by decide)]
    exact hw
theorem fk_as13 {I0 I : fm_MI} {D : fk_D} {f n : Nat} {k : fk_K} (a : Int32) (hD : fk_mC I0 D) (hf : f < 4) (ht : D.1 f = true) (hx : fk_S I0 I f n (.inr k)) : fmC_isAsSaid_p I (Int32.ofNat 13) a ∧ fmC_isAsSaid_f I (Int32.ofNat 13) a = fk_b (fk_okn D f 13 a k.2.1.length) := by
  obtain ⟨s1, s2⟩ := fk_sub hf hx.1
  have hw : fmF_isWithin_f a 3 = fk_b (fk_wb a 4) := fk_isw a (m := 4) (by omega)
  refine ⟨⟨fun h => absurd h (show ¬ Int32.ofNat 13 = 4 by decide), fun _ => ⟨fun h => absurd h (show ¬ Int32.ofNat 13 = 5 by decide), fun _ => ⟨fun h => absurd h (show ¬ Int32.ofNat 13 = 6 by decide), fun _ => ⟨fun h => absurd h (show ¬ Int32.ofNat 13 = 7 by decide), fun _ => ⟨fun h => absurd h (show ¬ Int32.ofNat 13 = 8 by decide), fun _ => ⟨fun h => absurd h (show ¬ Int32.ofNat 13 = 9 by decide), fun _ => ⟨fun h => absurd h (show ¬ Int32.ofNat 13 = 10 by decide), fun _ => ⟨fun h => absurd h (show ¬ Int32.ofNat 13 = 11 by decide), fun _ => ⟨fun h => absurd h (show ¬ Int32.ofNat 13 = 12 by decide), fun _ => ⟨fun _ => (show fmF_isWithin_f a 3 = 0 ∨ fmF_isWithin_f a 3 = 1 from by rw [hw]; exact fk_b01 _), fun h => absurd (show Int32.ofNat 13 = 13 by decide) h⟩⟩⟩⟩⟩⟩⟩⟩⟩⟩, ?_⟩
  · unfold fmC_isAsSaid_f fm_let
    rw [if_neg (show ¬ Int32.ofNat 13 = 4 by decide), if_neg (show ¬ Int32.ofNat 13 = 5 by decide), if_neg (show ¬ Int32.ofNat 13 = 6 by decide), if_neg (show ¬ Int32.ofNat 13 = 7 by decide), if_neg (show ¬ Int32.ofNat 13 = 8 by decide), if_neg (show ¬ Int32.ofNat 13 = 9 by decide), if_neg (show ¬ Int32.ofNat 13 = 10 by decide), if_neg (show ¬ Int32.ofNat 13 = 11 by decide), if_neg (show ¬ Int32.ofNat 13 = 12 by decide), if_pos (show Int32.ofNat 13 = 13 by decide)]
    exact hw
theorem fk_as14 {I0 I : fm_MI} {D : fk_D} {f n : Nat} {k : fk_K} (a : Int32) (hD : fk_mC I0 D) (hf : f < 4) (ht : D.1 f = true) (hx : fk_S I0 I f n (.inr k)) : fmC_isAsSaid_p I (Int32.ofNat 14) a ∧ fmC_isAsSaid_f I (Int32.ofNat 14) a = fk_b (fk_okn D f 14 a k.2.1.length) := by
  obtain ⟨s1, s2⟩ := fk_sub hf hx.1
  have hw : fmF_isWithin_f a 3 = fk_b (fk_wb a 4) := fk_isw a (m := 4) (by omega)
  refine ⟨⟨fun h => absurd h (show ¬ Int32.ofNat 14 = 4 by decide), fun _ => ⟨fun h => absurd h (show ¬ Int32.ofNat 14 = 5 by decide), fun _ => ⟨fun h => absurd h (show ¬ Int32.ofNat 14 = 6 by decide), fun _ => ⟨fun h => absurd h (show ¬ Int32.ofNat 14 = 7 by decide), fun _ => ⟨fun h => absurd h (show ¬ Int32.ofNat 14 = 8 by decide), fun _ => ⟨fun h => absurd h (show ¬ Int32.ofNat 14 = 9 by decide), fun _ => ⟨fun h => absurd h (show ¬ Int32.ofNat 14 = 10 by decide), fun _ => ⟨fun h => absurd h (show ¬ Int32.ofNat 14 = 11 by decide), fun _ => ⟨fun h => absurd h (show ¬ Int32.ofNat 14 = 12 by decide), fun _ => ⟨fun h => absurd h (show ¬ Int32.ofNat 14 = 13 by decide), fun _ => ⟨fun _ => (show fmF_isWithin_f a 3 = 0 ∨ fmF_isWithin_f a 3 = 1 from by rw [hw]; exact fk_b01 _), fun h => absurd (show Int32.ofNat 14 = 14 by decide) h⟩⟩⟩⟩⟩⟩⟩⟩⟩⟩⟩, ?_⟩
  · unfold fmC_isAsSaid_f fm_let
    rw [if_neg (show ¬ Int32.ofNat 14 = 4 by decide), if_neg (show ¬ Int32.ofNat 14 = 5 by decide), if_neg (show ¬ Int32.ofNat 14 = 6 by decide), if_neg (show ¬ Int32.ofNat 14 = 7 by decide), if_neg (show ¬ Int32.ofNat 14 = 8 by decide), if_neg (show ¬ Int32.ofNat 14 = 9 by decide), if_neg (show ¬ Int32.ofNat 14 = 10 by decide), if_neg (show ¬ Int32.ofNat 14 = 11 by decide), if_neg (show ¬ Int32.ofNat 14 = 12 by decide), if_neg (show ¬ Int32.ofNat 14 = 13 by decide), if_pos (show Int32.ofNat 14 = 14 by decide)]
    exact hw
theorem fk_as15 {I0 I : fm_MI} {D : fk_D} {f n : Nat} {k : fk_K} (a : Int32) (hD : fk_mC I0 D) (hf : f < 4) (ht : D.1 f = true) (hx : fk_S I0 I f n (.inr k)) : fmC_isAsSaid_p I (Int32.ofNat 15) a ∧ fmC_isAsSaid_f I (Int32.ofNat 15) a = fk_b (fk_okn D f 15 a k.2.1.length) := by
  obtain ⟨s1, s2⟩ := fk_sub hf hx.1
  have hw : fmF_isWithin_f a 1 = fk_b (fk_wb a 2) := fk_isw a (m := 2) (by omega)
  refine ⟨⟨fun h => absurd h (show ¬ Int32.ofNat 15 = 4 by decide), fun _ => ⟨fun h => absurd h (show ¬ Int32.ofNat 15 = 5 by decide), fun _ => ⟨fun h => absurd h (show ¬ Int32.ofNat 15 = 6 by decide), fun _ => ⟨fun h => absurd h (show ¬ Int32.ofNat 15 = 7 by decide), fun _ => ⟨fun h => absurd h (show ¬ Int32.ofNat 15 = 8 by decide), fun _ => ⟨fun h => absurd h (show ¬ Int32.ofNat 15 = 9 by decide), fun _ => ⟨fun h => absurd h (show ¬ Int32.ofNat 15 = 10 by decide), fun _ => ⟨fun h => absurd h (show ¬ Int32.ofNat 15 = 11 by decide), fun _ => ⟨fun h => absurd h (show ¬ Int32.ofNat 15 = 12 by decide), fun _ => ⟨fun h => absurd h (show ¬ Int32.ofNat 15 = 13 by decide), fun _ => ⟨fun h => absurd h (show ¬ Int32.ofNat 15 = 14 by decide), fun _ => ⟨fun _ => (show fmF_isWithin_f a 1 = 0 ∨ fmF_isWithin_f a 1 = 1 from by rw [hw]; exact fk_b01 _), fun h => absurd (show Int32.ofNat 15 = 15 by decide) h⟩⟩⟩⟩⟩⟩⟩⟩⟩⟩⟩⟩, ?_⟩
  · unfold fmC_isAsSaid_f fm_let
    rw [if_neg (show ¬ Int32.ofNat 15 = 4 by decide), if_neg (show ¬ Int32.ofNat 15 = 5 by decide), if_neg (show ¬ Int32.ofNat 15 = 6 by decide), if_neg (show ¬ Int32.ofNat 15 = 7 by decide), if_neg (show ¬ Int32.ofNat 15 = 8 by decide), if_neg (show ¬ Int32.ofNat 15 = 9 by decide), if_neg (show ¬ Int32.ofNat 15 = 10 by decide), if_neg (show ¬ Int32.ofNat 15 = 11 by decide), if_neg (show ¬ Int32.ofNat 15 = 12 by decide), if_neg (show ¬ Int32.ofNat 15 = 13 by decide), if_neg (show ¬ Int32.ofNat 15 = 14 by decide), if_pos (show Int32.ofNat 15 = 15 by decide)]
    exact hw
theorem fk_as16 {I0 I : fm_MI} {D : fk_D} {f n : Nat} {k : fk_K} (a : Int32) (hD : fk_mC I0 D) (hf : f < 4) (ht : D.1 f = true) (hx : fk_S I0 I f n (.inr k)) : fmC_isAsSaid_p I (Int32.ofNat 16) a ∧ fmC_isAsSaid_f I (Int32.ofNat 16) a = fk_b (fk_okn D f 16 a k.2.1.length) := by
  obtain ⟨s1, s2⟩ := fk_sub hf hx.1
  have hw : fmF_isWithin_f a 1 = fk_b (fk_wb a 2) := fk_isw a (m := 2) (by omega)
  refine ⟨⟨fun h => absurd h (show ¬ Int32.ofNat 16 = 4 by decide), fun _ => ⟨fun h => absurd h (show ¬ Int32.ofNat 16 = 5 by decide), fun _ => ⟨fun h => absurd h (show ¬ Int32.ofNat 16 = 6 by decide), fun _ => ⟨fun h => absurd h (show ¬ Int32.ofNat 16 = 7 by decide), fun _ => ⟨fun h => absurd h (show ¬ Int32.ofNat 16 = 8 by decide), fun _ => ⟨fun h => absurd h (show ¬ Int32.ofNat 16 = 9 by decide), fun _ => ⟨fun h => absurd h (show ¬ Int32.ofNat 16 = 10 by decide), fun _ => ⟨fun h => absurd h (show ¬ Int32.ofNat 16 = 11 by decide), fun _ => ⟨fun h => absurd h (show ¬ Int32.ofNat 16 = 12 by decide), fun _ => ⟨fun h => absurd h (show ¬ Int32.ofNat 16 = 13 by decide), fun _ => ⟨fun h => absurd h (show ¬ Int32.ofNat 16 = 14 by decide), fun _ => ⟨fun h => absurd h (show ¬ Int32.ofNat 16 = 15 by decide), fun _ => ⟨fun _ => (show fmF_isWithin_f a 1 = 0 ∨ fmF_isWithin_f a 1 = 1 from by rw [hw]; exact fk_b01 _), fun h => absurd (show Int32.ofNat 16 = 16 by decide) h⟩⟩⟩⟩⟩⟩⟩⟩⟩⟩⟩⟩⟩, ?_⟩
  · unfold fmC_isAsSaid_f fm_let
    rw [if_neg (show ¬ Int32.ofNat 16 = 4 by decide), if_neg (show ¬ Int32.ofNat 16 = 5 by decide), if_neg (show ¬ Int32.ofNat 16 = 6 by decide), if_neg (show ¬ Int32.ofNat 16 = 7 by decide), if_neg (show ¬ Int32.ofNat 16 = 8 by decide), if_neg (show ¬ Int32.ofNat 16 = 9 by decide), if_neg (show ¬ Int32.ofNat 16 = 10 by decide), if_neg (show ¬ Int32.ofNat 16 = 11 by decide), if_neg (show ¬ Int32.ofNat 16 = 12 by decide), if_neg (show ¬ Int32.ofNat 16 = 13 by decide), if_neg (show ¬ Int32.ofNat 16 = 14 by decide), if_neg (show ¬ Int32.ofNat 16 = 15 by decide), if_pos (show Int32.ofNat 16 = 16 by decide)]
    exact hw
theorem fk_as17 {I0 I : fm_MI} {D : fk_D} {f n : Nat} {k : fk_K} (a : Int32) (hD : fk_mC I0 D) (hf : f < 4) (ht : D.1 f = true) (hx : fk_S I0 I f n (.inr k)) : fmC_isAsSaid_p I (Int32.ofNat 17) a ∧ fmC_isAsSaid_f I (Int32.ofNat 17) a = fk_b (fk_okn D f 17 a k.2.1.length) := by
  obtain ⟨s1, s2⟩ := fk_sub hf hx.1
  have hw : fmF_isWithin_f a 1 = fk_b (fk_wb a 2) := fk_isw a (m := 2) (by omega)
  refine ⟨⟨fun h => absurd h (show ¬ Int32.ofNat 17 = 4 by decide), fun _ => ⟨fun h => absurd h (show ¬ Int32.ofNat 17 = 5 by decide), fun _ => ⟨fun h => absurd h (show ¬ Int32.ofNat 17 = 6 by decide), fun _ => ⟨fun h => absurd h (show ¬ Int32.ofNat 17 = 7 by decide), fun _ => ⟨fun h => absurd h (show ¬ Int32.ofNat 17 = 8 by decide), fun _ => ⟨fun h => absurd h (show ¬ Int32.ofNat 17 = 9 by decide), fun _ => ⟨fun h => absurd h (show ¬ Int32.ofNat 17 = 10 by decide), fun _ => ⟨fun h => absurd h (show ¬ Int32.ofNat 17 = 11 by decide), fun _ => ⟨fun h => absurd h (show ¬ Int32.ofNat 17 = 12 by decide), fun _ => ⟨fun h => absurd h (show ¬ Int32.ofNat 17 = 13 by decide), fun _ => ⟨fun h => absurd h (show ¬ Int32.ofNat 17 = 14 by decide), fun _ => ⟨fun h => absurd h (show ¬ Int32.ofNat 17 = 15 by decide), fun _ => ⟨fun h => absurd h (show ¬ Int32.ofNat 17 = 16 by decide), fun _ => ⟨fun _ => (show fmF_isWithin_f a 1 = 0 ∨ fmF_isWithin_f a 1 = 1 from by rw [hw]; exact fk_b01 _), fun h => absurd (show Int32.ofNat 17 = 17 by decide) h⟩⟩⟩⟩⟩⟩⟩⟩⟩⟩⟩⟩⟩⟩, ?_⟩
  · unfold fmC_isAsSaid_f fm_let
    rw [if_neg (show ¬ Int32.ofNat 17 = 4 by decide), if_neg (show ¬ Int32.ofNat 17 = 5 by decide), if_neg (show ¬ Int32.ofNat 17 = 6 by decide), if_neg (show ¬ Int32.ofNat 17 = 7 by decide), if_neg (show ¬ Int32.ofNat 17 = 8 by decide), if_neg (show ¬ Int32.ofNat 17 = 9 by decide), if_neg (show ¬ Int32.ofNat 17 = 10 by decide), if_neg (show ¬ Int32.ofNat 17 = 11 by decide), if_neg (show ¬ Int32.ofNat 17 = 12 by decide), if_neg (show ¬ Int32.ofNat 17 = 13 by decide), if_neg (show ¬ Int32.ofNat 17 = 14 by decide), if_neg (show ¬ Int32.ofNat 17 = 15 by decide), if_neg (show ¬ Int32.ofNat 17 = 16 by decide), if_pos (show Int32.ofNat 17 = 17 by decide)]
    exact hw
theorem fk_as18 {I0 I : fm_MI} {D : fk_D} {f n : Nat} {k : fk_K} (a : Int32) (hD : fk_mC I0 D) (hf : f < 4) (ht : D.1 f = true) (hx : fk_S I0 I f n (.inr k)) : fmC_isAsSaid_p I (Int32.ofNat 18) a ∧ fmC_isAsSaid_f I (Int32.ofNat 18) a = fk_b (fk_okn D f 18 a k.2.1.length) := by
  obtain ⟨s1, s2⟩ := fk_sub hf hx.1
  have hw : fmF_isWithin_f a 3 = fk_b (fk_wb a 4) := fk_isw a (m := 4) (by omega)
  refine ⟨⟨fun h => absurd h (show ¬ Int32.ofNat 18 = 4 by decide), fun _ => ⟨fun h => absurd h (show ¬ Int32.ofNat 18 = 5 by decide), fun _ => ⟨fun h => absurd h (show ¬ Int32.ofNat 18 = 6 by decide), fun _ => ⟨fun h => absurd h (show ¬ Int32.ofNat 18 = 7 by decide), fun _ => ⟨fun h => absurd h (show ¬ Int32.ofNat 18 = 8 by decide), fun _ => ⟨fun h => absurd h (show ¬ Int32.ofNat 18 = 9 by decide), fun _ => ⟨fun h => absurd h (show ¬ Int32.ofNat 18 = 10 by decide), fun _ => ⟨fun h => absurd h (show ¬ Int32.ofNat 18 = 11 by decide), fun _ => ⟨fun h => absurd h (show ¬ Int32.ofNat 18 = 12 by decide), fun _ => ⟨fun h => absurd h (show ¬ Int32.ofNat 18 = 13 by decide), fun _ => ⟨fun h => absurd h (show ¬ Int32.ofNat 18 = 14 by decide), fun _ => ⟨fun h => absurd h (show ¬ Int32.ofNat 18 = 15 by decide), fun _ => ⟨fun h => absurd h (show ¬ Int32.ofNat 18 = 16 by decide), fun _ => ⟨fun h => absurd h (show ¬ Int32.ofNat 18 = 17 by decide), fun _ => ⟨fun _ => (show fmF_isWithin_f a 3 = 0 ∨ fmF_isWithin_f a 3 = 1 from by rw [hw]; exact fk_b01 _), fun h => absurd (show Int32.ofNat 18 = 18 by decide) h⟩⟩⟩⟩⟩⟩⟩⟩⟩⟩⟩⟩⟩⟩⟩, ?_⟩
  · unfold fmC_isAsSaid_f fm_let
    rw [if_neg (show ¬ Int32.ofNat 18 = 4 by decide), if_neg (show ¬ Int32.ofNat 18 = 5 by decide), if_neg (show ¬ Int32.ofNat 18 = 6 by decide), if_neg (show ¬ Int32.ofNat 18 = 7 by decide), if_neg (show ¬ Int32.ofNat 18 = 8 by decide), if_neg (show ¬ Int32.ofNat 18 = 9 by decide), if_neg (show ¬ Int32.ofNat 18 = 10 by decide), if_neg (show ¬ Int32.ofNat 18 = 11 by decide), if_neg (show ¬ Int32.ofNat 18 = 12 by decide), if_neg (show ¬ Int32.ofNat 18 = 13 by decide), if_neg (show ¬ Int32.ofNat 18 = 14 by decide), if_neg (show ¬ Int32.ofNat 18 = 15 by decide), if_neg (show ¬ Int32.ofNat 18 = 16 by decide), if_neg (show ¬ Int32.ofNat 18 = 17 by decide), if_pos (show Int32.ofNat 18 = 18 by decide)]
    exact hw
theorem fk_as19 {I0 I : fm_MI} {D : fk_D} {f n : Nat} {k : fk_K} (a : Int32) (hD : fk_mC I0 D) (hf : f < 4) (ht : D.1 f = true) (hx : fk_S I0 I f n (.inr k)) : fmC_isAsSaid_p I (Int32.ofNat 19) a ∧ fmC_isAsSaid_f I (Int32.ofNat 19) a = fk_b (fk_okn D f 19 a k.2.1.length) := by
  obtain ⟨s1, s2⟩ := fk_sub hf hx.1
  have hw : fmF_isWithin_f a 3 = fk_b (fk_wb a 4) := fk_isw a (m := 4) (by omega)
  refine ⟨⟨fun h => absurd h (show ¬ Int32.ofNat 19 = 4 by decide), fun _ => ⟨fun h => absurd h (show ¬ Int32.ofNat 19 = 5 by decide), fun _ => ⟨fun h => absurd h (show ¬ Int32.ofNat 19 = 6 by decide), fun _ => ⟨fun h => absurd h (show ¬ Int32.ofNat 19 = 7 by decide), fun _ => ⟨fun h => absurd h (show ¬ Int32.ofNat 19 = 8 by decide), fun _ => ⟨fun h => absurd h (show ¬ Int32.ofNat 19 = 9 by decide), fun _ => ⟨fun h => absurd h (show ¬ Int32.ofNat 19 = 10 by decide), fun _ => ⟨fun h => absurd h (show ¬ Int32.ofNat 19 = 11 by decide), fun _ => ⟨fun h => absurd h (show ¬ Int32.ofNat 19 = 12 by decide), fun _ => ⟨fun h => absurd h (show ¬ Int32.ofNat 19 = 13 by decide), fun _ => ⟨fun h => absurd h (show ¬ Int32.ofNat 19 = 14 by decide), fun _ => ⟨fun h => absurd h (show ¬ Int32.ofNat 19 = 15 by decide), fun _ => ⟨fun h => absurd h (show ¬ Int32.ofNat 19 = 16 by decide), fun _ => ⟨fun h => absurd h (show ¬ Int32.ofNat 19 = 17 by decide), fun _ => ⟨fun h => absurd h (show ¬ Int32.ofNat 19 = 18 by decide), fun _ => ⟨fun _ => (show fmF_isWithin_f a 3 = 0 ∨ fmF_isWithin_f a 3 = 1 from by rw [hw]; exact fk_b01 _), fun h => absurd (show Int32.ofNat 19 = 19 by decide) h⟩⟩⟩⟩⟩⟩⟩⟩⟩⟩⟩⟩⟩⟩⟩⟩, ?_⟩
  · unfold fmC_isAsSaid_f fm_let
    rw [if_neg (show ¬ Int32.ofNat 19 = 4 by decide), if_neg (show ¬ Int32.ofNat 19 = 5 by decide), if_neg (show ¬ Int32.ofNat 19 = 6 by decide), if_neg (show ¬ Int32.ofNat 19 = 7 by decide), if_neg (show ¬ Int32.ofNat 19 = 8 by decide), if_neg (show ¬ Int32.ofNat 19 = 9 by decide), if_neg (show ¬ Int32.ofNat 19 = 10 by decide), if_neg (show ¬ Int32.ofNat 19 = 11 by decide), if_neg (show ¬ Int32.ofNat 19 = 12 by decide), if_neg (show ¬ Int32.ofNat 19 = 13 by decide), if_neg (show ¬ Int32.ofNat 19 = 14 by decide), if_neg (show ¬ Int32.ofNat 19 = 15 by decide), if_neg (show ¬ Int32.ofNat 19 = 16 by decide), if_neg (show ¬ Int32.ofNat 19 = 17 by decide), if_neg (show ¬ Int32.ofNat 19 = 18 by decide), if_pos (show Int32.ofNat 19 = 19 by decide)]
    exact hw
theorem fk_as20 {I0 I : fm_MI} {D : fk_D} {f n : Nat} {k : fk_K} (a : Int32) (hD : fk_mC I0 D) (hf : f < 4) (ht : D.1 f = true) (hx : fk_S I0 I f n (.inr k)) : fmC_isAsSaid_p I (Int32.ofNat 20) a ∧ fmC_isAsSaid_f I (Int32.ofNat 20) a = fk_b (fk_okn D f 20 a k.2.1.length) := by
  obtain ⟨s1, s2⟩ := fk_sub hf hx.1
  have hw : fmF_isWithin_f a 15 = fk_b (fk_wb a 16) := fk_isw a (m := 16) (by omega)
  refine ⟨⟨fun h => absurd h (show ¬ Int32.ofNat 20 = 4 by decide), fun _ => ⟨fun h => absurd h (show ¬ Int32.ofNat 20 = 5 by decide), fun _ => ⟨fun h => absurd h (show ¬ Int32.ofNat 20 = 6 by decide), fun _ => ⟨fun h => absurd h (show ¬ Int32.ofNat 20 = 7 by decide), fun _ => ⟨fun h => absurd h (show ¬ Int32.ofNat 20 = 8 by decide), fun _ => ⟨fun h => absurd h (show ¬ Int32.ofNat 20 = 9 by decide), fun _ => ⟨fun h => absurd h (show ¬ Int32.ofNat 20 = 10 by decide), fun _ => ⟨fun h => absurd h (show ¬ Int32.ofNat 20 = 11 by decide), fun _ => ⟨fun h => absurd h (show ¬ Int32.ofNat 20 = 12 by decide), fun _ => ⟨fun h => absurd h (show ¬ Int32.ofNat 20 = 13 by decide), fun _ => ⟨fun h => absurd h (show ¬ Int32.ofNat 20 = 14 by decide), fun _ => ⟨fun h => absurd h (show ¬ Int32.ofNat 20 = 15 by decide), fun _ => ⟨fun h => absurd h (show ¬ Int32.ofNat 20 = 16 by decide), fun _ => ⟨fun h => absurd h (show ¬ Int32.ofNat 20 = 17 by decide), fun _ => ⟨fun h => absurd h (show ¬ Int32.ofNat 20 = 18 by decide), fun _ => ⟨fun h => absurd h (show ¬ Int32.ofNat 20 = 19 by decide), fun _ => ⟨fun _ => (show fmF_isWithin_f a 15 = 0 ∨ fmF_isWithin_f a 15 = 1 from by rw [hw]; exact fk_b01 _), fun h => absurd (show Int32.ofNat 20 = 20 by decide) h⟩⟩⟩⟩⟩⟩⟩⟩⟩⟩⟩⟩⟩⟩⟩⟩⟩, ?_⟩
  · unfold fmC_isAsSaid_f fm_let
    rw [if_neg (show ¬ Int32.ofNat 20 = 4 by decide), if_neg (show ¬ Int32.ofNat 20 = 5 by decide), if_neg (show ¬ Int32.ofNat 20 = 6 by decide), if_neg (show ¬ Int32.ofNat 20 = 7 by decide), if_neg (show ¬ Int32.ofNat 20 = 8 by decide), if_neg (show ¬ Int32.ofNat 20 = 9 by decide), if_neg (show ¬ Int32.ofNat 20 = 10 by decide), if_neg (show ¬ Int32.ofNat 20 = 11 by decide), if_neg (show ¬ Int32.ofNat 20 = 12 by decide), if_neg (show ¬ Int32.ofNat 20 = 13 by decide), if_neg (show ¬ Int32.ofNat 20 = 14 by decide), if_neg (show ¬ Int32.ofNat 20 = 15 by decide), if_neg (show ¬ Int32.ofNat 20 = 16 by decide), if_neg (show ¬ Int32.ofNat 20 = 17 by decide), if_neg (show ¬ Int32.ofNat 20 = 18 by decide), if_neg (show ¬ Int32.ofNat 20 = 19 by decide), if_pos (show Int32.ofNat 20 = 20 by decide)]
    exact hw
theorem fk_as21 {I0 I : fm_MI} {D : fk_D} {f n : Nat} {k : fk_K} (a : Int32) (hD : fk_mC I0 D) (hf : f < 4) (ht : D.1 f = true) (hx : fk_S I0 I f n (.inr k)) : fmC_isAsSaid_p I (Int32.ofNat 21) a ∧ fmC_isAsSaid_f I (Int32.ofNat 21) a = fk_b (fk_okn D f 21 a k.2.1.length) := by
  obtain ⟨s1, s2⟩ := fk_sub hf hx.1
  have hw : fmF_isWithin_f a 4 = fk_b (fk_wb a 5) := fk_isw a (m := 5) (by omega)
  refine ⟨⟨fun h => absurd h (show ¬ Int32.ofNat 21 = 4 by decide), fun _ => ⟨fun h => absurd h (show ¬ Int32.ofNat 21 = 5 by decide), fun _ => ⟨fun h => absurd h (show ¬ Int32.ofNat 21 = 6 by decide), fun _ => ⟨fun h => absurd h (show ¬ Int32.ofNat 21 = 7 by decide), fun _ => ⟨fun h => absurd h (show ¬ Int32.ofNat 21 = 8 by decide), fun _ => ⟨fun h => absurd h (show ¬ Int32.ofNat 21 = 9 by decide), fun _ => ⟨fun h => absurd h (show ¬ Int32.ofNat 21 = 10 by decide), fun _ => ⟨fun h => absurd h (show ¬ Int32.ofNat 21 = 11 by decide), fun _ => ⟨fun h => absurd h (show ¬ Int32.ofNat 21 = 12 by decide), fun _ => ⟨fun h => absurd h (show ¬ Int32.ofNat 21 = 13 by decide), fun _ => ⟨fun h => absurd h (show ¬ Int32.ofNat 21 = 14 by decide), fun _ => ⟨fun h => absurd h (show ¬ Int32.ofNat 21 = 15 by decide), fun _ => ⟨fun h => absurd h (show ¬ Int32.ofNat 21 = 16 by decide), fun _ => ⟨fun h => absurd h (show ¬ Int32.ofNat 21 = 17 by decide), fun _ => ⟨fun h => absurd h (show ¬ Int32.ofNat 21 = 18 by decide), fun _ => ⟨fun h => absurd h (show ¬ Int32.ofNat 21 = 19 by decide), fun _ => ⟨fun h => absurd h (show ¬ Int32.ofNat 21 = 20 by decide), fun _ => ⟨fun _ => (show fmF_isWithin_f a 4 = 0 ∨ fmF_isWithin_f a 4 = 1 from by rw [hw]; exact fk_b01 _), fun h => absurd (show Int32.ofNat 21 = 21 by decide) h⟩⟩⟩⟩⟩⟩⟩⟩⟩⟩⟩⟩⟩⟩⟩⟩⟩⟩, ?_⟩
  · unfold fmC_isAsSaid_f fm_let
    rw [if_neg (show ¬ Int32.ofNat 21 = 4 by decide), if_neg (show ¬ Int32.ofNat 21 = 5 by decide), if_neg (show ¬ Int32.ofNat 21 = 6 by decide), if_neg (show ¬ Int32.ofNat 21 = 7 by decide), if_neg (show ¬ Int32.ofNat 21 = 8 by decide), if_neg (show ¬ Int32.ofNat 21 = 9 by decide), if_neg (show ¬ Int32.ofNat 21 = 10 by decide), if_neg (show ¬ Int32.ofNat 21 = 11 by decide), if_neg (show ¬ Int32.ofNat 21 = 12 by decide), if_neg (show ¬ Int32.ofNat 21 = 13 by decide), if_neg (show ¬ Int32.ofNat 21 = 14 by decide), if_neg (show ¬ Int32.ofNat 21 = 15 by decide), if_neg (show ¬ Int32.ofNat 21 = 16 by decide), if_neg (show ¬ Int32.ofNat 21 = 17 by decide), if_neg (show ¬ Int32.ofNat 21 = 18 by decide), if_neg (show ¬ Int32.ofNat 21 = 19 by decide), if_neg (show ¬ Int32.ofNat 21 = 20 by decide), if_pos (show Int32.ofNat 21 = 21 by decide)]
    exact hw
theorem fk_as22 {I0 I : fm_MI} {D : fk_D} {f n : Nat} {k : fk_K} (a : Int32) (hD : fk_mC I0 D) (hf : f < 4) (ht : D.1 f = true) (hx : fk_S I0 I f n (.inr k)) : fmC_isAsSaid_p I (Int32.ofNat 22) a ∧ fmC_isAsSaid_f I (Int32.ofNat 22) a = fk_b (fk_okn D f 22 a k.2.1.length) := by
  obtain ⟨s1, s2⟩ := fk_sub hf hx.1
  have hw : fmF_isWithin_f a 4 = fk_b (fk_wb a 5) := fk_isw a (m := 5) (by omega)
  refine ⟨⟨fun h => absurd h (show ¬ Int32.ofNat 22 = 4 by decide), fun _ => ⟨fun h => absurd h (show ¬ Int32.ofNat 22 = 5 by decide), fun _ => ⟨fun h => absurd h (show ¬ Int32.ofNat 22 = 6 by decide), fun _ => ⟨fun h => absurd h (show ¬ Int32.ofNat 22 = 7 by decide), fun _ => ⟨fun h => absurd h (show ¬ Int32.ofNat 22 = 8 by decide), fun _ => ⟨fun h => absurd h (show ¬ Int32.ofNat 22 = 9 by decide), fun _ => ⟨fun h => absurd h (show ¬ Int32.ofNat 22 = 10 by decide), fun _ => ⟨fun h => absurd h (show ¬ Int32.ofNat 22 = 11 by decide), fun _ => ⟨fun h => absurd h (show ¬ Int32.ofNat 22 = 12 by decide), fun _ => ⟨fun h => absurd h (show ¬ Int32.ofNat 22 = 13 by decide), fun _ => ⟨fun h => absurd h (show ¬ Int32.ofNat 22 = 14 by decide), fun _ => ⟨fun h => absurd h (show ¬ Int32.ofNat 22 = 15 by decide), fun _ => ⟨fun h => absurd h (show ¬ Int32.ofNat 22 = 16 by decide), fun _ => ⟨fun h => absurd h (show ¬ Int32.ofNat 22 = 17 by decide), fun _ => ⟨fun h => absurd h (show ¬ Int32.ofNat 22 = 18 by decide), fun _ => ⟨fun h => absurd h (show ¬ Int32.ofNat 22 = 19 by decide), fun _ => ⟨fun h => absurd h (show ¬ Int32.ofNat 22 = 20 by decide), fun _ => ⟨fun h => absurd h (show ¬ Int32.ofNat 22 = 21 by decide), fun _ => ⟨fun _ => (show fmF_isWithin_f a 4 = 0 ∨ fmF_isWithin_f a 4 = 1 from by rw [hw]; exact fk_b01 _), fun h => absurd (show Int32.ofNat 22 = 22 by decide) h⟩⟩⟩⟩⟩⟩⟩⟩⟩⟩⟩⟩⟩⟩⟩⟩⟩⟩⟩, ?_⟩
  · unfold fmC_isAsSaid_f fm_let
    rw [if_neg (show ¬ Int32.ofNat 22 = 4 by decide), if_neg (show ¬ Int32.ofNat 22 = 5 by decide), if_neg (show ¬ Int32.ofNat 22 = 6 by decide), if_neg (show ¬ Int32.ofNat 22 = 7 by decide), if_neg (show ¬ Int32.ofNat 22 = 8 by decide), if_neg (show ¬ Int32.ofNat 22 = 9 by decide), if_neg (show ¬ Int32.ofNat 22 = 10 by decide), if_neg (show ¬ Int32.ofNat 22 = 11 by decide), if_neg (show ¬ Int32.ofNat 22 = 12 by decide), if_neg (show ¬ Int32.ofNat 22 = 13 by decide), if_neg (show ¬ Int32.ofNat 22 = 14 by decide), if_neg (show ¬ Int32.ofNat 22 = 15 by decide), if_neg (show ¬ Int32.ofNat 22 = 16 by decide), if_neg (show ¬ Int32.ofNat 22 = 17 by decide), if_neg (show ¬ Int32.ofNat 22 = 18 by decide), if_neg (show ¬ Int32.ofNat 22 = 19 by decide), if_neg (show ¬ Int32.ofNat 22 = 20 by decide), if_neg (show ¬ Int32.ofNat 22 = 21 by decide), if_pos (show Int32.ofNat 22 = 22 by decide)]
    exact hw
theorem fk_as23 {I0 I : fm_MI} {D : fk_D} {f n : Nat} {k : fk_K} (a : Int32) (hD : fk_mC I0 D) (hf : f < 4) (ht : D.1 f = true) (hx : fk_S I0 I f n (.inr k)) : fmC_isAsSaid_p I (Int32.ofNat 23) a ∧ fmC_isAsSaid_f I (Int32.ofNat 23) a = fk_b (fk_okn D f 23 a k.2.1.length) := by
  obtain ⟨s1, s2⟩ := fk_sub hf hx.1
  have hw : fmF_isWithin_f a 4 = fk_b (fk_wb a 5) := fk_isw a (m := 5) (by omega)
  refine ⟨⟨fun h => absurd h (show ¬ Int32.ofNat 23 = 4 by decide), fun _ => ⟨fun h => absurd h (show ¬ Int32.ofNat 23 = 5 by decide), fun _ => ⟨fun h => absurd h (show ¬ Int32.ofNat 23 = 6 by decide), fun _ => ⟨fun h => absurd h (show ¬ Int32.ofNat 23 = 7 by decide), fun _ => ⟨fun h => absurd h (show ¬ Int32.ofNat 23 = 8 by decide), fun _ => ⟨fun h => absurd h (show ¬ Int32.ofNat 23 = 9 by decide), fun _ => ⟨fun h => absurd h (show ¬ Int32.ofNat 23 = 10 by decide), fun _ => ⟨fun h => absurd h (show ¬ Int32.ofNat 23 = 11 by decide), fun _ => ⟨fun h => absurd h (show ¬ Int32.ofNat 23 = 12 by decide), fun _ => ⟨fun h => absurd h (show ¬ Int32.ofNat 23 = 13 by decide), fun _ => ⟨fun h => absurd h (show ¬ Int32.ofNat 23 = 14 by decide), fun _ => ⟨fun h => absurd h (show ¬ Int32.ofNat 23 = 15 by decide), fun _ => ⟨fun h => absurd h (show ¬ Int32.ofNat 23 = 16 by decide), fun _ => ⟨fun h => absurd h (show ¬ Int32.ofNat 23 = 17 by decide), fun _ => ⟨fun h => absurd h (show ¬ Int32.ofNat 23 = 18 by decide), fun _ => ⟨fun h => absurd h (show ¬ Int32.ofNat 23 = 19 by decide), fun _ => ⟨fun h => absurd h (show ¬ Int32.ofNat 23 = 20 by decide), fun _ => ⟨fun h => absurd h (show ¬ Int32.ofNat 23 = 21 by decide), fun _ => ⟨fun h => absurd h (show ¬ Int32.ofNat 23 = 22 by decide), fun _ => ⟨fun _ => (show fmF_isWithin_f a 4 = 0 ∨ fmF_isWithin_f a 4 = 1 from by rw [hw]; exact fk_b01 _), fun h => absurd (show Int32.ofNat 23 = 23 by decide) h⟩⟩⟩⟩⟩⟩⟩⟩⟩⟩⟩⟩⟩⟩⟩⟩⟩⟩⟩⟩, ?_⟩
  · unfold fmC_isAsSaid_f fm_let
    rw [if_neg (show ¬ Int32.ofNat 23 = 4 by decide), if_neg (show ¬ Int32.ofNat 23 = 5 by decide), if_neg (show ¬ Int32.ofNat 23 = 6 by decide), if_neg (show ¬ Int32.ofNat 23 = 7 by decide), if_neg (show ¬ Int32.ofNat 23 = 8 by decide), if_neg (show ¬ Int32.ofNat 23 = 9 by decide), if_neg (show ¬ Int32.ofNat 23 = 10 by decide), if_neg (show ¬ Int32.ofNat 23 = 11 by decide), if_neg (show ¬ Int32.ofNat 23 = 12 by decide), if_neg (show ¬ Int32.ofNat 23 = 13 by decide), if_neg (show ¬ Int32.ofNat 23 = 14 by decide), if_neg (show ¬ Int32.ofNat 23 = 15 by decide), if_neg (show ¬ Int32.ofNat 23 = 16 by decide), if_neg (show ¬ Int32.ofNat 23 = 17 by decide), if_neg (show ¬ Int32.ofNat 23 = 18 by decide), if_neg (show ¬ Int32.ofNat 23 = 19 by decide), if_neg (show ¬ Int32.ofNat 23 = 20 by decide), if_neg (show ¬ Int32.ofNat 23 = 21 by decide), if_neg (show ¬ Int32.ofNat 23 = 22 by decide), if_pos (show Int32.ofNat 23 = 23 by decide)]
    exact hw
theorem fk_as24 {I0 I : fm_MI} {D : fk_D} {f n : Nat} {k : fk_K} (a : Int32) (hD : fk_mC I0 D) (hf : f < 4) (ht : D.1 f = true) (hx : fk_S I0 I f n (.inr k)) : fmC_isAsSaid_p I (Int32.ofNat 24) a ∧ fmC_isAsSaid_f I (Int32.ofNat 24) a = fk_b (fk_okn D f 24 a k.2.1.length) := by
  obtain ⟨s1, s2⟩ := fk_sub hf hx.1
  refine ⟨⟨fun h => absurd h (show ¬ Int32.ofNat 24 = 4 by decide), fun _ => ⟨fun h => absurd h (show ¬ Int32.ofNat 24 = 5 by decide), fun _ => ⟨fun h => absurd h (show ¬ Int32.ofNat 24 = 6 by decide), fun _ => ⟨fun h => absurd h (show ¬ Int32.ofNat 24 = 7 by decide), fun _ => ⟨fun h => absurd h (show ¬ Int32.ofNat 24 = 8 by decide), fun _ => ⟨fun h => absurd h (show ¬ Int32.ofNat 24 = 9 by decide), fun _ => ⟨fun h => absurd h (show ¬ Int32.ofNat 24 = 10 by decide), fun _ => ⟨fun h => absurd h (show ¬ Int32.ofNat 24 = 11 by decide), fun _ => ⟨fun h => absurd h (show ¬ Int32.ofNat 24 = 12 by decide), fun _ => ⟨fun h => absurd h (show ¬ Int32.ofNat 24 = 13 by decide), fun _ => ⟨fun h => absurd h (show ¬ Int32.ofNat 24 = 14 by decide), fun _ => ⟨fun h => absurd h (show ¬ Int32.ofNat 24 = 15 by decide), fun _ => ⟨fun h => absurd h (show ¬ Int32.ofNat 24 = 16 by decide), fun _ => ⟨fun h => absurd h (show ¬ Int32.ofNat 24 = 17 by decide), fun _ => ⟨fun h => absurd h (show ¬ Int32.ofNat 24 = 18 by decide), fun _ => ⟨fun h => absurd h (show ¬ Int32.ofNat 24 = 19 by decide), fun _ => ⟨fun h => absurd h (show ¬ Int32.ofNat 24 = 20 by decide), fun _ => ⟨fun h => absurd h (show ¬ Int32.ofNat 24 = 21 by decide), fun _ => ⟨fun h => absurd h (show ¬ Int32.ofNat 24 = 22 by decide), fun _ => ⟨fun h => absurd h (show ¬ Int32.ofNat 24 = 23 by decide), fun _ => ⟨fun _ => trivial, fun h => absurd (show Int32.ofNat 24 = 24 by decide) h⟩⟩⟩⟩⟩⟩⟩⟩⟩⟩⟩⟩⟩⟩⟩⟩⟩⟩⟩⟩⟩, ?_⟩
  · unfold fmC_isAsSaid_f fm_let
    rw [if_neg (show ¬ Int32.ofNat 24 = 4 by decide), if_neg (show ¬ Int32.ofNat 24 = 5 by decide), if_neg (show ¬ Int32.ofNat 24 = 6 by decide), if_neg (show ¬ Int32.ofNat 24 = 7 by decide), if_neg (show ¬ Int32.ofNat 24 = 8 by decide), if_neg (show ¬ Int32.ofNat 24 = 9 by decide), if_neg (show ¬ Int32.ofNat 24 = 10 by decide), if_neg (show ¬ Int32.ofNat 24 = 11 by decide), if_neg (show ¬ Int32.ofNat 24 = 12 by decide), if_neg (show ¬ Int32.ofNat 24 = 13 by decide), if_neg (show ¬ Int32.ofNat 24 = 14 by decide), if_neg (show ¬ Int32.ofNat 24 = 15 by decide), if_neg (show ¬ Int32.ofNat 24 = 16 by decide), if_neg (show ¬ Int32.ofNat 24 = 17 by decide), if_neg (show ¬ Int32.ofNat 24 = 18 by decide), if_neg (show ¬ Int32.ofNat 24 = 19 by decide), if_neg (show ¬ Int32.ofNat 24 = 20 by decide), if_neg (show ¬ Int32.ofNat 24 = 21 by decide), if_neg (show ¬ Int32.ofNat 24 = 22 by decide), if_neg (show ¬ Int32.ofNat 24 = 23 by decide), if_pos (show Int32.ofNat 24 = 24 by decide)]
    rfl
theorem fk_as25 {I0 I : fm_MI} {D : fk_D} {f n : Nat} {k : fk_K} (a : Int32) (hD : fk_mC I0 D) (hf : f < 4) (ht : D.1 f = true) (hx : fk_S I0 I f n (.inr k)) : fmC_isAsSaid_p I (Int32.ofNat 25) a ∧ fmC_isAsSaid_f I (Int32.ofNat 25) a = fk_b (fk_okn D f 25 a k.2.1.length) := by
  obtain ⟨s1, s2⟩ := fk_sub hf hx.1
  refine ⟨⟨fun h => absurd h (show ¬ Int32.ofNat 25 = 4 by decide), fun _ => ⟨fun h => absurd h (show ¬ Int32.ofNat 25 = 5 by decide), fun _ => ⟨fun h => absurd h (show ¬ Int32.ofNat 25 = 6 by decide), fun _ => ⟨fun h => absurd h (show ¬ Int32.ofNat 25 = 7 by decide), fun _ => ⟨fun h => absurd h (show ¬ Int32.ofNat 25 = 8 by decide), fun _ => ⟨fun h => absurd h (show ¬ Int32.ofNat 25 = 9 by decide), fun _ => ⟨fun h => absurd h (show ¬ Int32.ofNat 25 = 10 by decide), fun _ => ⟨fun h => absurd h (show ¬ Int32.ofNat 25 = 11 by decide), fun _ => ⟨fun h => absurd h (show ¬ Int32.ofNat 25 = 12 by decide), fun _ => ⟨fun h => absurd h (show ¬ Int32.ofNat 25 = 13 by decide), fun _ => ⟨fun h => absurd h (show ¬ Int32.ofNat 25 = 14 by decide), fun _ => ⟨fun h => absurd h (show ¬ Int32.ofNat 25 = 15 by decide), fun _ => ⟨fun h => absurd h (show ¬ Int32.ofNat 25 = 16 by decide), fun _ => ⟨fun h => absurd h (show ¬ Int32.ofNat 25 = 17 by decide), fun _ => ⟨fun h => absurd h (show ¬ Int32.ofNat 25 = 18 by decide), fun _ => ⟨fun h => absurd h (show ¬ Int32.ofNat 25 = 19 by decide), fun _ => ⟨fun h => absurd h (show ¬ Int32.ofNat 25 = 20 by decide), fun _ => ⟨fun h => absurd h (show ¬ Int32.ofNat 25 = 21 by decide), fun _ => ⟨fun h => absurd h (show ¬ Int32.ofNat 25 = 22 by decide), fun _ => ⟨fun h => absurd h (show ¬ Int32.ofNat 25 = 23 by decide), fun _ => ⟨fun h => absurd h (show ¬ Int32.ofNat 25 = 24 by decide), fun _ => ⟨fun _ => trivial, fun h => absurd (show Int32.ofNat 25 = 25 by decide) h⟩⟩⟩⟩⟩⟩⟩⟩⟩⟩⟩⟩⟩⟩⟩⟩⟩⟩⟩⟩⟩⟩, ?_⟩
  · unfold fmC_isAsSaid_f fm_let
    rw [if_neg (show ¬ Int32.ofNat 25 = 4 by decide), if_neg (show ¬ Int32.ofNat 25 = 5 by decide), if_neg (show ¬ Int32.ofNat 25 = 6 by decide), if_neg (show ¬ Int32.ofNat 25 = 7 by decide), if_neg (show ¬ Int32.ofNat 25 = 8 by decide), if_neg (show ¬ Int32.ofNat 25 = 9 by decide), if_neg (show ¬ Int32.ofNat 25 = 10 by decide), if_neg (show ¬ Int32.ofNat 25 = 11 by decide), if_neg (show ¬ Int32.ofNat 25 = 12 by decide), if_neg (show ¬ Int32.ofNat 25 = 13 by decide), if_neg (show ¬ Int32.ofNat 25 = 14 by decide), if_neg (show ¬ Int32.ofNat 25 = 15 by decide), if_neg (show ¬ Int32.ofNat 25 = 16 by decide), if_neg (show ¬ Int32.ofNat 25 = 17 by decide), if_neg (show ¬ Int32.ofNat 25 = 18 by decide), if_neg (show ¬ Int32.ofNat 25 = 19 by decide), if_neg (show ¬ Int32.ofNat 25 = 20 by decide), if_neg (show ¬ Int32.ofNat 25 = 21 by decide), if_neg (show ¬ Int32.ofNat 25 = 22 by decide), if_neg (show ¬ Int32.ofNat 25 = 23 by decide), if_neg (show ¬ Int32.ofNat 25 = 24 by decide), if_pos (show Int32.ofNat 25 = 25 by decide)]
    rfl
theorem fk_as26 {I0 I : fm_MI} {D : fk_D} {f n : Nat} {k : fk_K} (a : Int32) (hD : fk_mC I0 D) (hf : f < 4) (ht : D.1 f = true) (hx : fk_S I0 I f n (.inr k)) : fmC_isAsSaid_p I (Int32.ofNat 26) a ∧ fmC_isAsSaid_f I (Int32.ofNat 26) a = fk_b (fk_okn D f 26 a k.2.1.length) := by
  obtain ⟨s1, s2⟩ := fk_sub hf hx.1
  have hk6 := hx.2.2.2.2.2.2.2.1
  have hk5 := hx.2.2.2.2.2.1
  have hk9 := hx.2.2.2.2.2.2.1
  have ho : I 13 0 6 = Int32.ofNat k.2.1.length - 1 := by rw [hk6, fk_d (by omega)]
  have hw := fk_isw a (m := k.2.1.length) (by omega)
  refine ⟨⟨fun h => absurd h (show ¬ Int32.ofNat 26 = 4 by decide), fun _ => ⟨fun h => absurd h (show ¬ Int32.ofNat 26 = 5 by decide), fun _ => ⟨fun h => absurd h (show ¬ Int32.ofNat 26 = 6 by decide), fun _ => ⟨fun h => absurd h (show ¬ Int32.ofNat 26 = 7 by decide), fun _ => ⟨fun h => absurd h (show ¬ Int32.ofNat 26 = 8 by decide), fun _ => ⟨fun h => absurd h (show ¬ Int32.ofNat 26 = 9 by decide), fun _ => ⟨fun h => absurd h (show ¬ Int32.ofNat 26 = 10 by decide), fun _ => ⟨fun h => absurd h (show ¬ Int32.ofNat 26 = 11 by decide), fun _ => ⟨fun h => absurd h (show ¬ Int32.ofNat 26 = 12 by decide), fun _ => ⟨fun h => absurd h (show ¬ Int32.ofNat 26 = 13 by decide), fun _ => ⟨fun h => absurd h (show ¬ Int32.ofNat 26 = 14 by decide), fun _ => ⟨fun h => absurd h (show ¬ Int32.ofNat 26 = 15 by decide), fun _ => ⟨fun h => absurd h (show ¬ Int32.ofNat 26 = 16 by decide), fun _ => ⟨fun h => absurd h (show ¬ Int32.ofNat 26 = 17 by decide), fun _ => ⟨fun h => absurd h (show ¬ Int32.ofNat 26 = 18 by decide), fun _ => ⟨fun h => absurd h (show ¬ Int32.ofNat 26 = 19 by decide), fun _ => ⟨fun h => absurd h (show ¬ Int32.ofNat 26 = 20 by decide), fun _ => ⟨fun h => absurd h (show ¬ Int32.ofNat 26 = 21 by decide), fun _ => ⟨fun h => absurd h (show ¬ Int32.ofNat 26 = 22 by decide), fun _ => ⟨fun h => absurd h (show ¬ Int32.ofNat 26 = 23 by decide), fun _ => ⟨fun h => absurd h (show ¬ Int32.ofNat 26 = 24 by decide), fun _ => ⟨fun h => absurd h (show ¬ Int32.ofNat 26 = 25 by decide), fun _ => ⟨fun _ => (show fmF_isWithin_f a (I 13 0 6) = 0 ∨ fmF_isWithin_f a (I 13 0 6) = 1 from by rw [ho, hw]; exact fk_b01 _), fun h => absurd (show Int32.ofNat 26 = 26 by decide) h⟩⟩⟩⟩⟩⟩⟩⟩⟩⟩⟩⟩⟩⟩⟩⟩⟩⟩⟩⟩⟩⟩⟩, ?_⟩
  · unfold fmC_isAsSaid_f fm_let
    rw [if_neg (show ¬ Int32.ofNat 26 = 4 by decide), if_neg (show ¬ Int32.ofNat 26 = 5 by decide), if_neg (show ¬ Int32.ofNat 26 = 6 by decide), if_neg (show ¬ Int32.ofNat 26 = 7 by decide), if_neg (show ¬ Int32.ofNat 26 = 8 by decide), if_neg (show ¬ Int32.ofNat 26 = 9 by decide), if_neg (show ¬ Int32.ofNat 26 = 10 by decide), if_neg (show ¬ Int32.ofNat 26 = 11 by decide), if_neg (show ¬ Int32.ofNat 26 = 12 by decide), if_neg (show ¬ Int32.ofNat 26 = 13 by decide), if_neg (show ¬ Int32.ofNat 26 = 14 by decide), if_neg (show ¬ Int32.ofNat 26 = 15 by decide), if_neg (show ¬ Int32.ofNat 26 = 16 by decide), if_neg (show ¬ Int32.ofNat 26 = 17 by decide), if_neg (show ¬ Int32.ofNat 26 = 18 by decide), if_neg (show ¬ Int32.ofNat 26 = 19 by decide), if_neg (show ¬ Int32.ofNat 26 = 20 by decide), if_neg (show ¬ Int32.ofNat 26 = 21 by decide), if_neg (show ¬ Int32.ofNat 26 = 22 by decide), if_neg (show ¬ Int32.ofNat 26 = 23 by decide), if_neg (show ¬ Int32.ofNat 26 = 24 by decide), if_neg (show ¬ Int32.ofNat 26 = 25 by decide), if_pos (show Int32.ofNat 26 = 26 by decide)]
    rw [ho]
    exact hw
theorem fk_as27 {I0 I : fm_MI} {D : fk_D} {f n : Nat} {k : fk_K} (a : Int32) (hD : fk_mC I0 D) (hf : f < 4) (ht : D.1 f = true) (hx : fk_S I0 I f n (.inr k)) : fmC_isAsSaid_p I (Int32.ofNat 27) a ∧ fmC_isAsSaid_f I (Int32.ofNat 27) a = fk_b (fk_okn D f 27 a k.2.1.length) := by
  obtain ⟨s1, s2⟩ := fk_sub hf hx.1
  have hk6 := hx.2.2.2.2.2.2.2.1
  have hk5 := hx.2.2.2.2.2.1
  have hk9 := hx.2.2.2.2.2.2.1
  have ho : I 13 0 6 = Int32.ofNat k.2.1.length - 1 := by rw [hk6, fk_d (by omega)]
  have hw := fk_isw a (m := k.2.1.length) (by omega)
  refine ⟨⟨fun h => absurd h (show ¬ Int32.ofNat 27 = 4 by decide), fun _ => ⟨fun h => absurd h (show ¬ Int32.ofNat 27 = 5 by decide), fun _ => ⟨fun h => absurd h (show ¬ Int32.ofNat 27 = 6 by decide), fun _ => ⟨fun h => absurd h (show ¬ Int32.ofNat 27 = 7 by decide), fun _ => ⟨fun h => absurd h (show ¬ Int32.ofNat 27 = 8 by decide), fun _ => ⟨fun h => absurd h (show ¬ Int32.ofNat 27 = 9 by decide), fun _ => ⟨fun h => absurd h (show ¬ Int32.ofNat 27 = 10 by decide), fun _ => ⟨fun h => absurd h (show ¬ Int32.ofNat 27 = 11 by decide), fun _ => ⟨fun h => absurd h (show ¬ Int32.ofNat 27 = 12 by decide), fun _ => ⟨fun h => absurd h (show ¬ Int32.ofNat 27 = 13 by decide), fun _ => ⟨fun h => absurd h (show ¬ Int32.ofNat 27 = 14 by decide), fun _ => ⟨fun h => absurd h (show ¬ Int32.ofNat 27 = 15 by decide), fun _ => ⟨fun h => absurd h (show ¬ Int32.ofNat 27 = 16 by decide), fun _ => ⟨fun h => absurd h (show ¬ Int32.ofNat 27 = 17 by decide), fun _ => ⟨fun h => absurd h (show ¬ Int32.ofNat 27 = 18 by decide), fun _ => ⟨fun h => absurd h (show ¬ Int32.ofNat 27 = 19 by decide), fun _ => ⟨fun h => absurd h (show ¬ Int32.ofNat 27 = 20 by decide), fun _ => ⟨fun h => absurd h (show ¬ Int32.ofNat 27 = 21 by decide), fun _ => ⟨fun h => absurd h (show ¬ Int32.ofNat 27 = 22 by decide), fun _ => ⟨fun h => absurd h (show ¬ Int32.ofNat 27 = 23 by decide), fun _ => ⟨fun h => absurd h (show ¬ Int32.ofNat 27 = 24 by decide), fun _ => ⟨fun h => absurd h (show ¬ Int32.ofNat 27 = 25 by decide), fun _ => ⟨fun h => absurd h (show ¬ Int32.ofNat 27 = 26 by decide), fun _ => ⟨fun _ => (show fmF_isWithin_f a (I 13 0 6) = 0 ∨ fmF_isWithin_f a (I 13 0 6) = 1 from by rw [ho, hw]; exact fk_b01 _), fun h => absurd (show Int32.ofNat 27 = 27 by decide) h⟩⟩⟩⟩⟩⟩⟩⟩⟩⟩⟩⟩⟩⟩⟩⟩⟩⟩⟩⟩⟩⟩⟩⟩, ?_⟩
  · unfold fmC_isAsSaid_f fm_let
    rw [if_neg (show ¬ Int32.ofNat 27 = 4 by decide), if_neg (show ¬ Int32.ofNat 27 = 5 by decide), if_neg (show ¬ Int32.ofNat 27 = 6 by decide), if_neg (show ¬ Int32.ofNat 27 = 7 by decide), if_neg (show ¬ Int32.ofNat 27 = 8 by decide), if_neg (show ¬ Int32.ofNat 27 = 9 by decide), if_neg (show ¬ Int32.ofNat 27 = 10 by decide), if_neg (show ¬ Int32.ofNat 27 = 11 by decide), if_neg (show ¬ Int32.ofNat 27 = 12 by decide), if_neg (show ¬ Int32.ofNat 27 = 13 by decide), if_neg (show ¬ Int32.ofNat 27 = 14 by decide), if_neg (show ¬ Int32.ofNat 27 = 15 by decide), if_neg (show ¬ Int32.ofNat 27 = 16 by decide), if_neg (show ¬ Int32.ofNat 27 = 17 by decide), if_neg (show ¬ Int32.ofNat 27 = 18 by decide), if_neg (show ¬ Int32.ofNat 27 = 19 by decide), if_neg (show ¬ Int32.ofNat 27 = 20 by decide), if_neg (show ¬ Int32.ofNat 27 = 21 by decide), if_neg (show ¬ Int32.ofNat 27 = 22 by decide), if_neg (show ¬ Int32.ofNat 27 = 23 by decide), if_neg (show ¬ Int32.ofNat 27 = 24 by decide), if_neg (show ¬ Int32.ofNat 27 = 25 by decide), if_neg (show ¬ Int32.ofNat 27 = 26 by decide), if_pos (show Int32.ofNat 27 = 27 by decide)]
    rw [ho]
    exact hw
theorem fk_as28 {I0 I : fm_MI} {D : fk_D} {f n : Nat} {k : fk_K} (a : Int32) (hD : fk_mC I0 D) (hf : f < 4) (ht : D.1 f = true) (hx : fk_S I0 I f n (.inr k)) : fmC_isAsSaid_p I (Int32.ofNat 28) a ∧ fmC_isAsSaid_f I (Int32.ofNat 28) a = fk_b (fk_okn D f 28 a k.2.1.length) := by
  obtain ⟨s1, s2⟩ := fk_sub hf hx.1
  refine ⟨⟨fun h => absurd h (show ¬ Int32.ofNat 28 = 4 by decide), fun _ => ⟨fun h => absurd h (show ¬ Int32.ofNat 28 = 5 by decide), fun _ => ⟨fun h => absurd h (show ¬ Int32.ofNat 28 = 6 by decide), fun _ => ⟨fun h => absurd h (show ¬ Int32.ofNat 28 = 7 by decide), fun _ => ⟨fun h => absurd h (show ¬ Int32.ofNat 28 = 8 by decide), fun _ => ⟨fun h => absurd h (show ¬ Int32.ofNat 28 = 9 by decide), fun _ => ⟨fun h => absurd h (show ¬ Int32.ofNat 28 = 10 by decide), fun _ => ⟨fun h => absurd h (show ¬ Int32.ofNat 28 = 11 by decide), fun _ => ⟨fun h => absurd h (show ¬ Int32.ofNat 28 = 12 by decide), fun _ => ⟨fun h => absurd h (show ¬ Int32.ofNat 28 = 13 by decide), fun _ => ⟨fun h => absurd h (show ¬ Int32.ofNat 28 = 14 by decide), fun _ => ⟨fun h => absurd h (show ¬ Int32.ofNat 28 = 15 by decide), fun _ => ⟨fun h => absurd h (show ¬ Int32.ofNat 28 = 16 by decide), fun _ => ⟨fun h => absurd h (show ¬ Int32.ofNat 28 = 17 by decide), fun _ => ⟨fun h => absurd h (show ¬ Int32.ofNat 28 = 18 by decide), fun _ => ⟨fun h => absurd h (show ¬ Int32.ofNat 28 = 19 by decide), fun _ => ⟨fun h => absurd h (show ¬ Int32.ofNat 28 = 20 by decide), fun _ => ⟨fun h => absurd h (show ¬ Int32.ofNat 28 = 21 by decide), fun _ => ⟨fun h => absurd h (show ¬ Int32.ofNat 28 = 22 by decide), fun _ => ⟨fun h => absurd h (show ¬ Int32.ofNat 28 = 23 by decide), fun _ => ⟨fun h => absurd h (show ¬ Int32.ofNat 28 = 24 by decide), fun _ => ⟨fun h => absurd h (show ¬ Int32.ofNat 28 = 25 by decide), fun _ => ⟨fun h => absurd h (show ¬ Int32.ofNat 28 = 26 by decide), fun _ => ⟨fun h => absurd h (show ¬ Int32.ofNat 28 = 27 by decide), fun _ => ⟨fun _ => trivial, fun h => absurd (show Int32.ofNat 28 = 28 by decide) h⟩⟩⟩⟩⟩⟩⟩⟩⟩⟩⟩⟩⟩⟩⟩⟩⟩⟩⟩⟩⟩⟩⟩⟩⟩, ?_⟩
  · unfold fmC_isAsSaid_f fm_let
    rw [if_neg (show ¬ Int32.ofNat 28 = 4 by decide), if_neg (show ¬ Int32.ofNat 28 = 5 by decide), if_neg (show ¬ Int32.ofNat 28 = 6 by decide), if_neg (show ¬ Int32.ofNat 28 = 7 by decide), if_neg (show ¬ Int32.ofNat 28 = 8 by decide), if_neg (show ¬ Int32.ofNat 28 = 9 by decide), if_neg (show ¬ Int32.ofNat 28 = 10 by decide), if_neg (show ¬ Int32.ofNat 28 = 11 by decide), if_neg (show ¬ Int32.ofNat 28 = 12 by decide), if_neg (show ¬ Int32.ofNat 28 = 13 by decide), if_neg (show ¬ Int32.ofNat 28 = 14 by decide), if_neg (show ¬ Int32.ofNat 28 = 15 by decide), if_neg (show ¬ Int32.ofNat 28 = 16 by decide), if_neg (show ¬ Int32.ofNat 28 = 17 by decide), if_neg (show ¬ Int32.ofNat 28 = 18 by decide), if_neg (show ¬ Int32.ofNat 28 = 19 by decide), if_neg (show ¬ Int32.ofNat 28 = 20 by decide), if_neg (show ¬ Int32.ofNat 28 = 21 by decide), if_neg (show ¬ Int32.ofNat 28 = 22 by decide), if_neg (show ¬ Int32.ofNat 28 = 23 by decide), if_neg (show ¬ Int32.ofNat 28 = 24 by decide), if_neg (show ¬ Int32.ofNat 28 = 25 by decide), if_neg (show ¬ Int32.ofNat 28 = 26 by decide), if_neg (show ¬ Int32.ofNat 28 = 27 by decide), if_pos (show Int32.ofNat 28 = 28 by decide)]
    rfl
theorem fk_as29 {I0 I : fm_MI} {D : fk_D} {f n : Nat} {k : fk_K} (a : Int32) (hD : fk_mC I0 D) (hf : f < 4) (ht : D.1 f = true) (hx : fk_S I0 I f n (.inr k)) : fmC_isAsSaid_p I (Int32.ofNat 29) a ∧ fmC_isAsSaid_f I (Int32.ofNat 29) a = fk_b (fk_okn D f 29 a k.2.1.length) := by
  obtain ⟨s1, s2⟩ := fk_sub hf hx.1
  have hw : fmF_isWithin_f a (Int32.ofNat 4 - 1) = fk_b (fk_wb a 4) := fk_isw a (m := 4) (by omega)
  refine ⟨⟨fun h => absurd h (show ¬ Int32.ofNat 29 = 4 by decide), fun _ => ⟨fun h => absurd h (show ¬ Int32.ofNat 29 = 5 by decide), fun _ => ⟨fun h => absurd h (show ¬ Int32.ofNat 29 = 6 by decide), fun _ => ⟨fun h => absurd h (show ¬ Int32.ofNat 29 = 7 by decide), fun _ => ⟨fun h => absurd h (show ¬ Int32.ofNat 29 = 8 by decide), fun _ => ⟨fun h => absurd h (show ¬ Int32.ofNat 29 = 9 by decide), fun _ => ⟨fun h => absurd h (show ¬ Int32.ofNat 29 = 10 by decide), fun _ => ⟨fun h => absurd h (show ¬ Int32.ofNat 29 = 11 by decide), fun _ => ⟨fun h => absurd h (show ¬ Int32.ofNat 29 = 12 by decide), fun _ => ⟨fun h => absurd h (show ¬ Int32.ofNat 29 = 13 by decide), fun _ => ⟨fun h => absurd h (show ¬ Int32.ofNat 29 = 14 by decide), fun _ => ⟨fun h => absurd h (show ¬ Int32.ofNat 29 = 15 by decide), fun _ => ⟨fun h => absurd h (show ¬ Int32.ofNat 29 = 16 by decide), fun _ => ⟨fun h => absurd h (show ¬ Int32.ofNat 29 = 17 by decide), fun _ => ⟨fun h => absurd h (show ¬ Int32.ofNat 29 = 18 by decide), fun _ => ⟨fun h => absurd h (show ¬ Int32.ofNat 29 = 19 by decide), fun _ => ⟨fun h => absurd h (show ¬ Int32.ofNat 29 = 20 by decide), fun _ => ⟨fun h => absurd h (show ¬ Int32.ofNat 29 = 21 by decide), fun _ => ⟨fun h => absurd h (show ¬ Int32.ofNat 29 = 22 by decide), fun _ => ⟨fun h => absurd h (show ¬ Int32.ofNat 29 = 23 by decide), fun _ => ⟨fun h => absurd h (show ¬ Int32.ofNat 29 = 24 by decide), fun _ => ⟨fun h => absurd h (show ¬ Int32.ofNat 29 = 25 by decide), fun _ => ⟨fun h => absurd h (show ¬ Int32.ofNat 29 = 26 by decide), fun _ => ⟨fun h => absurd h (show ¬ Int32.ofNat 29 = 27 by decide), fun _ => ⟨fun h => absurd h (show ¬ Int32.ofNat 29 = 28 by decide), fun _ => ⟨fun _ => (show (fmF_isWithin_f a (Int32.ofNat 4 - 1) = 0 → True) ∧ (¬ fmF_isWithin_f a (Int32.ofNat 4 - 1) = 0 → vp_in a 4) from by
      rw [hw]
      refine ⟨fun _ => trivial, fun q => ?_⟩
      cases hb : fk_wb a 4 with
      | false => rw [hb] at q; exact absurd rfl q
      | true => exact (fk_wbi hb).1), fun h => absurd (show Int32.ofNat 29 = 29 by decide) h⟩⟩⟩⟩⟩⟩⟩⟩⟩⟩⟩⟩⟩⟩⟩⟩⟩⟩⟩⟩⟩⟩⟩⟩⟩⟩, ?_⟩
  · unfold fmC_isAsSaid_f fm_let
    rw [if_neg (show ¬ Int32.ofNat 29 = 4 by decide), if_neg (show ¬ Int32.ofNat 29 = 5 by decide), if_neg (show ¬ Int32.ofNat 29 = 6 by decide), if_neg (show ¬ Int32.ofNat 29 = 7 by decide), if_neg (show ¬ Int32.ofNat 29 = 8 by decide), if_neg (show ¬ Int32.ofNat 29 = 9 by decide), if_neg (show ¬ Int32.ofNat 29 = 10 by decide), if_neg (show ¬ Int32.ofNat 29 = 11 by decide), if_neg (show ¬ Int32.ofNat 29 = 12 by decide), if_neg (show ¬ Int32.ofNat 29 = 13 by decide), if_neg (show ¬ Int32.ofNat 29 = 14 by decide), if_neg (show ¬ Int32.ofNat 29 = 15 by decide), if_neg (show ¬ Int32.ofNat 29 = 16 by decide), if_neg (show ¬ Int32.ofNat 29 = 17 by decide), if_neg (show ¬ Int32.ofNat 29 = 18 by decide), if_neg (show ¬ Int32.ofNat 29 = 19 by decide), if_neg (show ¬ Int32.ofNat 29 = 20 by decide), if_neg (show ¬ Int32.ofNat 29 = 21 by decide), if_neg (show ¬ Int32.ofNat 29 = 22 by decide), if_neg (show ¬ Int32.ofNat 29 = 23 by decide), if_neg (show ¬ Int32.ofNat 29 = 24 by decide), if_neg (show ¬ Int32.ofNat 29 = 25 by decide), if_neg (show ¬ Int32.ofNat 29 = 26 by decide), if_neg (show ¬ Int32.ofNat 29 = 27 by decide), if_neg (show ¬ Int32.ofNat 29 = 28 by decide), if_pos (show Int32.ofNat 29 = 29 by decide)]
    rw [hw]
    cases hb : fk_wb a 4 with
    | false => simp [fk_b, fk_okn, hb]
    | true =>
      have h2 : I 2 a.toNatClampNeg 0 = fk_b (D.1 a.toNatClampNeg) := (hx.1.1 2 _ 0 (by decide) (by decide) (by decide) (fun q => absurd q (by decide))).trans (hD _ (fk_wbi hb).2).1
      rw [h2]
      cases hc : D.1 a.toNatClampNeg <;> simp [fk_b, fk_okn, hb, hc]
theorem fk_as30 {I0 I : fm_MI} {D : fk_D} {f n : Nat} {k : fk_K} (a : Int32) (hD : fk_mC I0 D) (hf : f < 4) (ht : D.1 f = true) (hx : fk_S I0 I f n (.inr k)) : fmC_isAsSaid_p I (Int32.ofNat 30) a ∧ fmC_isAsSaid_f I (Int32.ofNat 30) a = fk_b (fk_okn D f 30 a k.2.1.length) := by
  obtain ⟨s1, s2⟩ := fk_sub hf hx.1
  refine ⟨⟨fun h => absurd h (show ¬ Int32.ofNat 30 = 4 by decide), fun _ => ⟨fun h => absurd h (show ¬ Int32.ofNat 30 = 5 by decide), fun _ => ⟨fun h => absurd h (show ¬ Int32.ofNat 30 = 6 by decide), fun _ => ⟨fun h => absurd h (show ¬ Int32.ofNat 30 = 7 by decide), fun _ => ⟨fun h => absurd h (show ¬ Int32.ofNat 30 = 8 by decide), fun _ => ⟨fun h => absurd h (show ¬ Int32.ofNat 30 = 9 by decide), fun _ => ⟨fun h => absurd h (show ¬ Int32.ofNat 30 = 10 by decide), fun _ => ⟨fun h => absurd h (show ¬ Int32.ofNat 30 = 11 by decide), fun _ => ⟨fun h => absurd h (show ¬ Int32.ofNat 30 = 12 by decide), fun _ => ⟨fun h => absurd h (show ¬ Int32.ofNat 30 = 13 by decide), fun _ => ⟨fun h => absurd h (show ¬ Int32.ofNat 30 = 14 by decide), fun _ => ⟨fun h => absurd h (show ¬ Int32.ofNat 30 = 15 by decide), fun _ => ⟨fun h => absurd h (show ¬ Int32.ofNat 30 = 16 by decide), fun _ => ⟨fun h => absurd h (show ¬ Int32.ofNat 30 = 17 by decide), fun _ => ⟨fun h => absurd h (show ¬ Int32.ofNat 30 = 18 by decide), fun _ => ⟨fun h => absurd h (show ¬ Int32.ofNat 30 = 19 by decide), fun _ => ⟨fun h => absurd h (show ¬ Int32.ofNat 30 = 20 by decide), fun _ => ⟨fun h => absurd h (show ¬ Int32.ofNat 30 = 21 by decide), fun _ => ⟨fun h => absurd h (show ¬ Int32.ofNat 30 = 22 by decide), fun _ => ⟨fun h => absurd h (show ¬ Int32.ofNat 30 = 23 by decide), fun _ => ⟨fun h => absurd h (show ¬ Int32.ofNat 30 = 24 by decide), fun _ => ⟨fun h => absurd h (show ¬ Int32.ofNat 30 = 25 by decide), fun _ => ⟨fun h => absurd h (show ¬ Int32.ofNat 30 = 26 by decide), fun _ => ⟨fun h => absurd h (show ¬ Int32.ofNat 30 = 27 by decide), fun _ => ⟨fun h => absurd h (show ¬ Int32.ofNat 30 = 28 by decide), fun _ => ⟨fun h => absurd h (show ¬ Int32.ofNat 30 = 29 by decide), fun _ => trivial⟩⟩⟩⟩⟩⟩⟩⟩⟩⟩⟩⟩⟩⟩⟩⟩⟩⟩⟩⟩⟩⟩⟩⟩⟩⟩, ?_⟩
  · unfold fmC_isAsSaid_f fm_let
    rw [if_neg (show ¬ Int32.ofNat 30 = 4 by decide), if_neg (show ¬ Int32.ofNat 30 = 5 by decide), if_neg (show ¬ Int32.ofNat 30 = 6 by decide), if_neg (show ¬ Int32.ofNat 30 = 7 by decide), if_neg (show ¬ Int32.ofNat 30 = 8 by decide), if_neg (show ¬ Int32.ofNat 30 = 9 by decide), if_neg (show ¬ Int32.ofNat 30 = 10 by decide), if_neg (show ¬ Int32.ofNat 30 = 11 by decide), if_neg (show ¬ Int32.ofNat 30 = 12 by decide), if_neg (show ¬ Int32.ofNat 30 = 13 by decide), if_neg (show ¬ Int32.ofNat 30 = 14 by decide), if_neg (show ¬ Int32.ofNat 30 = 15 by decide), if_neg (show ¬ Int32.ofNat 30 = 16 by decide), if_neg (show ¬ Int32.ofNat 30 = 17 by decide), if_neg (show ¬ Int32.ofNat 30 = 18 by decide), if_neg (show ¬ Int32.ofNat 30 = 19 by decide), if_neg (show ¬ Int32.ofNat 30 = 20 by decide), if_neg (show ¬ Int32.ofNat 30 = 21 by decide), if_neg (show ¬ Int32.ofNat 30 = 22 by decide), if_neg (show ¬ Int32.ofNat 30 = 23 by decide), if_neg (show ¬ Int32.ofNat 30 = 24 by decide), if_neg (show ¬ Int32.ofNat 30 = 25 by decide), if_neg (show ¬ Int32.ofNat 30 = 26 by decide), if_neg (show ¬ Int32.ofNat 30 = 27 by decide), if_neg (show ¬ Int32.ofNat 30 = 28 by decide), if_neg (show ¬ Int32.ofNat 30 = 29 by decide)]
    rfl
def fk_brx (br : Int32) (k : fk_K) : fk_K :=
  match k with
  | (ts, [], q) => (ts, [], q)
  | (ts, (kd, gv, b, lv, de, ia, st, _) :: fs, q) => (ts, (kd, gv, b, lv, de, ia, st, br) :: fs, q)
theorem fk_br_S {I0 I : fm_MI} {f n : Nat} {x : Int32 ⊕ fk_K} (br : Int32) (hb : br = -1 ∨ vp_in br 40) (hx : fk_S I0 I f n x) : fk_S I0 (fm_u I 17 ((I 13 0 6).toNatClampNeg) 4 br) f n (fk_bind x (fun k => .inr (fk_brx br k))) := by
  obtain ⟨hw, hx⟩ := hx
  refine ⟨fk_wk174 hw _ _ hb, ?_⟩
  rcases x with c | ⟨ts, fs, q⟩
  · exact ⟨(fk_u_ne _ _ _ (by decide)).trans hx.1, hx.2⟩
  · cases fs with
    | nil => exact absurd hx.2.2.2.2.1 (by simp)
    | cons fr fs =>
      obtain ⟨o1, o2, o3, o4⟩ := fk_op_C hx
      rw [o2]
      have c := hx.2.2.2.2.2.2.2.1.1
      obtain ⟨kd, gv, b, lv, de, ia, st, br'⟩ := fr
      simp only [fk_bind, fk_brx]
      refine fk_C17 hx (fun k i s h => ?_) rfl ?_
      · rw [fm_u_if, if_neg]
        rintro ⟨rfl, rfl, rfl⟩
        simp at h
      · obtain ⟨c1, c2, c3, c4, c5, c6, c7⟩ := c
        simp only [fm_u_if]
        simp [c1, c2, c3, c4, c6, c7]
theorem fk_tk_fs {w : Int32} {k k' : fk_K} (h : fk_tk w k = .inr k') : k'.2 = k.2 := by
  obtain ⟨ts, fs, q⟩ := k
  obtain ⟨ts', fs', q'⟩ := k'
  obtain ⟨a, b, -⟩ := fk_tk_i h
  rw [a, b]
theorem fk_in0 {I0 I : fm_MI} {D : fk_D} {f n : Nat} {k : fk_K} (i : Nat) (a : Int32) (hD : fk_mC I0 D) (hf : f < 4) (ht : D.1 f = true) (hn : n < 40) (hk : fk_okn D f 0 a k.2.1.length = true) (J : fm_MJ) (G : fm_MG) (pb : Nat × Nat) (hx : fk_S I0 I f n (.inr k)) : fmC_moveValues_p I (Int32.ofNat 0) a ∧ fk_S I0 (fmC_moveValues_f I (Int32.ofNat 0) a) f (n + 1) (fk_do D f i 0 a k) := by
  obtain ⟨-, -, hg⟩ := hD f hf
  obtain ⟨-, -, hl, -, hl6, -, -, -, -, hty, -⟩ := hg ht
  unfold fmC_moveValues_p fmC_moveValues_f fm_let
  dsimp only
  rw [if_neg (show ¬ Int32.ofNat 0 = 4 by decide), if_neg (show ¬ Int32.ofNat 0 = 5 by decide), if_neg (show ¬ Int32.ofNat 0 = 6 by decide), if_neg (show ¬ Int32.ofNat 0 = 7 by decide), if_neg (show ¬ Int32.ofNat 0 = 8 by decide), if_neg (show ¬ Int32.ofNat 0 = 9 by decide), if_neg (show ¬ Int32.ofNat 0 = 10 by decide)]
  obtain ⟨b1, b2, b3, b4⟩ := fk_row_S (nl := D.2.2.1 f) (Int32.ofNat 0) a hf hn hl hx
  generalize fmC_addRow_f I (Int32.ofNat 0) a = r at b2 b3 b4 ⊢
  obtain ⟨c1, c2⟩ := fk_put_S (Int32.ofNat 0) b2
  exact ⟨⟨fun h => absurd h (show ¬ Int32.ofNat 0 = 4 by decide), fun _ => ⟨fun h => absurd h (show ¬ Int32.ofNat 0 = 5 by decide), fun _ => ⟨fun h => absurd h (show ¬ Int32.ofNat 0 = 6 by decide), fun _ => ⟨fun h => absurd h (show ¬ Int32.ofNat 0 = 7 by decide), fun _ => ⟨fun h => absurd h (show ¬ Int32.ofNat 0 = 8 by decide), fun _ => ⟨fun h => absurd h (show ¬ Int32.ofNat 0 = 9 by decide), fun _ => ⟨fun h => absurd h (show ¬ Int32.ofNat 0 = 10 by decide), fun _ => ⟨b1, c1⟩⟩⟩⟩⟩⟩⟩⟩, c2⟩
theorem fk_in1 {I0 I : fm_MI} {D : fk_D} {f n : Nat} {k : fk_K} (i : Nat) (a : Int32) (hD : fk_mC I0 D) (hf : f < 4) (ht : D.1 f = true) (hn : n < 40) (hk : fk_okn D f 1 a k.2.1.length = true) (J : fm_MJ) (G : fm_MG) (pb : Nat × Nat) (hx : fk_S I0 I f n (.inr k)) : fmC_moveValues_p I (Int32.ofNat 1) a ∧ fk_S I0 (fmC_moveValues_f I (Int32.ofNat 1) a) f (n + 1) (fk_do D f i 1 a k) := by
  obtain ⟨-, -, hg⟩ := hD f hf
  obtain ⟨-, -, hl, -, hl6, -, -, -, -, hty, -⟩ := hg ht
  unfold fmC_moveValues_p fmC_moveValues_f fm_let
  dsimp only
  rw [if_neg (show ¬ Int32.ofNat 1 = 4 by decide), if_neg (show ¬ Int32.ofNat 1 = 5 by decide), if_neg (show ¬ Int32.ofNat 1 = 6 by decide), if_neg (show ¬ Int32.ofNat 1 = 7 by decide), if_neg (show ¬ Int32.ofNat 1 = 8 by decide), if_neg (show ¬ Int32.ofNat 1 = 9 by decide), if_neg (show ¬ Int32.ofNat 1 = 10 by decide)]
  obtain ⟨b1, b2, b3, b4⟩ := fk_row_S (nl := D.2.2.1 f) (Int32.ofNat 1) a hf hn hl hx
  generalize fmC_addRow_f I (Int32.ofNat 1) a = r at b2 b3 b4 ⊢
  obtain ⟨c1, c2⟩ := fk_put_S (Int32.ofNat 1) b2
  exact ⟨⟨fun h => absurd h (show ¬ Int32.ofNat 1 = 4 by decide), fun _ => ⟨fun h => absurd h (show ¬ Int32.ofNat 1 = 5 by decide), fun _ => ⟨fun h => absurd h (show ¬ Int32.ofNat 1 = 6 by decide), fun _ => ⟨fun h => absurd h (show ¬ Int32.ofNat 1 = 7 by decide), fun _ => ⟨fun h => absurd h (show ¬ Int32.ofNat 1 = 8 by decide), fun _ => ⟨fun h => absurd h (show ¬ Int32.ofNat 1 = 9 by decide), fun _ => ⟨fun h => absurd h (show ¬ Int32.ofNat 1 = 10 by decide), fun _ => ⟨b1, c1⟩⟩⟩⟩⟩⟩⟩⟩, c2⟩
theorem fk_in2 {I0 I : fm_MI} {D : fk_D} {f n : Nat} {k : fk_K} (i : Nat) (a : Int32) (hD : fk_mC I0 D) (hf : f < 4) (ht : D.1 f = true) (hn : n < 40) (hk : fk_okn D f 2 a k.2.1.length = true) (J : fm_MJ) (G : fm_MG) (pb : Nat × Nat) (hx : fk_S I0 I f n (.inr k)) : fmC_moveValues_p I (Int32.ofNat 2) a ∧ fk_S I0 (fmC_moveValues_f I (Int32.ofNat 2) a) f (n + 1) (fk_do D f i 2 a k) := by
  obtain ⟨-, -, hg⟩ := hD f hf
  obtain ⟨-, -, hl, -, hl6, -, -, -, -, hty, -⟩ := hg ht
  unfold fmC_moveValues_p fmC_moveValues_f fm_let
  dsimp only
  rw [if_neg (show ¬ Int32.ofNat 2 = 4 by decide), if_neg (show ¬ Int32.ofNat 2 = 5 by decide), if_neg (show ¬ Int32.ofNat 2 = 6 by decide), if_neg (show ¬ Int32.ofNat 2 = 7 by decide), if_neg (show ¬ Int32.ofNat 2 = 8 by decide), if_neg (show ¬ Int32.ofNat 2 = 9 by decide), if_neg (show ¬ Int32.ofNat 2 = 10 by decide)]
  obtain ⟨b1, b2, b3, b4⟩ := fk_row_S (nl := D.2.2.1 f) (Int32.ofNat 2) a hf hn hl hx
  generalize fmC_addRow_f I (Int32.ofNat 2) a = r at b2 b3 b4 ⊢
  obtain ⟨c1, c2⟩ := fk_put_S (Int32.ofNat 2) b2
  exact ⟨⟨fun h => absurd h (show ¬ Int32.ofNat 2 = 4 by decide), fun _ => ⟨fun h => absurd h (show ¬ Int32.ofNat 2 = 5 by decide), fun _ => ⟨fun h => absurd h (show ¬ Int32.ofNat 2 = 6 by decide), fun _ => ⟨fun h => absurd h (show ¬ Int32.ofNat 2 = 7 by decide), fun _ => ⟨fun h => absurd h (show ¬ Int32.ofNat 2 = 8 by decide), fun _ => ⟨fun h => absurd h (show ¬ Int32.ofNat 2 = 9 by decide), fun _ => ⟨fun h => absurd h (show ¬ Int32.ofNat 2 = 10 by decide), fun _ => ⟨b1, c1⟩⟩⟩⟩⟩⟩⟩⟩, c2⟩
theorem fk_in3 {I0 I : fm_MI} {D : fk_D} {f n : Nat} {k : fk_K} (i : Nat) (a : Int32) (hD : fk_mC I0 D) (hf : f < 4) (ht : D.1 f = true) (hn : n < 40) (hk : fk_okn D f 3 a k.2.1.length = true) (J : fm_MJ) (G : fm_MG) (pb : Nat × Nat) (hx : fk_S I0 I f n (.inr k)) : fmC_moveValues_p I (Int32.ofNat 3) a ∧ fk_S I0 (fmC_moveValues_f I (Int32.ofNat 3) a) f (n + 1) (fk_do D f i 3 a k) := by
  obtain ⟨-, -, hg⟩ := hD f hf
  obtain ⟨-, -, hl, -, hl6, -, -, -, -, hty, -⟩ := hg ht
  unfold fmC_moveValues_p fmC_moveValues_f fm_let
  dsimp only
  rw [if_neg (show ¬ Int32.ofNat 3 = 4 by decide), if_neg (show ¬ Int32.ofNat 3 = 5 by decide), if_neg (show ¬ Int32.ofNat 3 = 6 by decide), if_neg (show ¬ Int32.ofNat 3 = 7 by decide), if_neg (show ¬ Int32.ofNat 3 = 8 by decide), if_neg (show ¬ Int32.ofNat 3 = 9 by decide), if_neg (show ¬ Int32.ofNat 3 = 10 by decide)]
  obtain ⟨b1, b2, b3, b4⟩ := fk_row_S (nl := D.2.2.1 f) (Int32.ofNat 3) a hf hn hl hx
  generalize fmC_addRow_f I (Int32.ofNat 3) a = r at b2 b3 b4 ⊢
  obtain ⟨c1, c2⟩ := fk_put_S (Int32.ofNat 3) b2
  exact ⟨⟨fun h => absurd h (show ¬ Int32.ofNat 3 = 4 by decide), fun _ => ⟨fun h => absurd h (show ¬ Int32.ofNat 3 = 5 by decide), fun _ => ⟨fun h => absurd h (show ¬ Int32.ofNat 3 = 6 by decide), fun _ => ⟨fun h => absurd h (show ¬ Int32.ofNat 3 = 7 by decide), fun _ => ⟨fun h => absurd h (show ¬ Int32.ofNat 3 = 8 by decide), fun _ => ⟨fun h => absurd h (show ¬ Int32.ofNat 3 = 9 by decide), fun _ => ⟨fun h => absurd h (show ¬ Int32.ofNat 3 = 10 by decide), fun _ => ⟨b1, c1⟩⟩⟩⟩⟩⟩⟩⟩, c2⟩
theorem fk_in4 {I0 I : fm_MI} {D : fk_D} {f n : Nat} {k : fk_K} (i : Nat) (a : Int32) (hD : fk_mC I0 D) (hf : f < 4) (ht : D.1 f = true) (hn : n < 40) (hk : fk_okn D f 4 a k.2.1.length = true) (J : fm_MJ) (G : fm_MG) (pb : Nat × Nat) (hx : fk_S I0 I f n (.inr k)) : fmC_moveValues_p I (Int32.ofNat 4) a ∧ fk_S I0 (fmC_moveValues_f I (Int32.ofNat 4) a) f (n + 1) (fk_do D f i 4 a k) := by
  obtain ⟨-, -, hg⟩ := hD f hf
  obtain ⟨-, -, hl, -, hl6, -, -, -, -, hty, -⟩ := hg ht
  have hal := (fk_wbi (show fk_wb a (D.2.2.1 f) = true from hk)).2
  have hv6 : vp_in a 6 := by
    have h1 := (fk_wbi (show fk_wb a (D.2.2.1 f) = true from hk)).1
    exact fun q => h1 (q.imp_right (fun z => by omega))
  unfold fmC_moveValues_p fmC_moveValues_f fm_let
  dsimp only
  rw [if_pos (show Int32.ofNat 4 = 4 by decide)]
  obtain ⟨b1, b2, b3, b4⟩ := fk_row_S (nl := D.2.2.1 f) (Int32.ofNat 4) a hf hn hl hx
  generalize fmC_addRow_f I (Int32.ofNat 4) a = r at b2 b3 b4 ⊢
  obtain ⟨s1, s2⟩ := fk_sub hf b2.1
  have er : r.2 3 f a.toNatClampNeg = D.2.2.2.2.1 f a.toNatClampNeg := (b2.1.1 3 f _ (by decide) (by decide) (by decide) (fun q => absurd q (by decide))).trans (hty _ hal).1
  rw [s2, er]
  obtain ⟨c1, c2⟩ := fk_put_S (D.2.2.2.2.1 f a.toNatClampNeg) b2
  exact ⟨⟨fun _ => ⟨b1, s1, hv6, c1⟩, fun h => absurd (show Int32.ofNat 4 = 4 by decide) h⟩, c2⟩
theorem fk_in5 {I0 I : fm_MI} {D : fk_D} {f n : Nat} {k : fk_K} (i : Nat) (a : Int32) (hD : fk_mC I0 D) (hf : f < 4) (ht : D.1 f = true) (hn : n < 40) (hk : fk_okn D f 5 a k.2.1.length = true) (J : fm_MJ) (G : fm_MG) (pb : Nat × Nat) (hx : fk_S I0 I f n (.inr k)) : fmC_moveValues_p I (Int32.ofNat 5) a ∧ fk_S I0 (fmC_moveValues_f I (Int32.ofNat 5) a) f (n + 1) (fk_do D f i 5 a k) := by
  obtain ⟨-, -, hg⟩ := hD f hf
  obtain ⟨-, -, hl, -, hl6, -, -, -, -, hty, -⟩ := hg ht
  have hal := (fk_wbi (show fk_wb a (D.2.2.1 f) = true from hk)).2
  have hv6 : vp_in a 6 := by
    have h1 := (fk_wbi (show fk_wb a (D.2.2.1 f) = true from hk)).1
    exact fun q => h1 (q.imp_right (fun z => by omega))
  unfold fmC_moveValues_p fmC_moveValues_f fm_let
  dsimp only
  rw [if_neg (show ¬ Int32.ofNat 5 = 4 by decide), if_pos (show Int32.ofNat 5 = 5 by decide)]
  obtain ⟨s1, s2⟩ := fk_sub hf hx.1
  have eI : I 3 f a.toNatClampNeg = D.2.2.2.2.1 f a.toNatClampNeg := (hx.1.1 3 f _ (by decide) (by decide) (by decide) (fun q => absurd q (by decide))).trans (hty _ hal).1
  rw [s2, eI]
  obtain ⟨t1, t2, t3⟩ := fk_take_S (D.2.2.2.2.1 f a.toNatClampNeg) hx
  generalize fmC_take_f I (D.2.2.2.2.1 f a.toNatClampNeg) = t at t2 t3 ⊢
  obtain ⟨b1, b2, b3, b4⟩ := fk_row_S (nl := D.2.2.1 f) (Int32.ofNat 5) a hf hn hl t2
  generalize fmC_addRow_f t.2 (Int32.ofNat 5) a = r at b2 b3 b4 ⊢
  exact ⟨⟨fun h => absurd h (show ¬ Int32.ofNat 5 = 4 by decide), fun _ => ⟨fun _ => ⟨s1, hv6, t1, b1⟩, fun h => absurd (show Int32.ofNat 5 = 5 by decide) h⟩⟩, b2⟩
theorem fk_in6 {I0 I : fm_MI} {D : fk_D} {f n : Nat} {k : fk_K} (i : Nat) (a : Int32) (hD : fk_mC I0 D) (hf : f < 4) (ht : D.1 f = true) (hn : n < 40) (hk : fk_okn D f 6 a k.2.1.length = true) (J : fm_MJ) (G : fm_MG) (pb : Nat × Nat) (hx : fk_S I0 I f n (.inr k)) : fmC_moveValues_p I (Int32.ofNat 6) a ∧ fk_S I0 (fmC_moveValues_f I (Int32.ofNat 6) a) f (n + 1) (fk_do D f i 6 a k) := by
  obtain ⟨-, -, hg⟩ := hD f hf
  obtain ⟨-, -, hl, -, hl6, -, -, -, -, hty, -⟩ := hg ht
  have hal := (fk_wbi (show fk_wb a (D.2.2.1 f) = true from hk)).2
  have hv6 : vp_in a 6 := by
    have h1 := (fk_wbi (show fk_wb a (D.2.2.1 f) = true from hk)).1
    exact fun q => h1 (q.imp_right (fun z => by omega))
  unfold fmC_moveValues_p fmC_moveValues_f fm_let
  dsimp only
  rw [if_neg (show ¬ Int32.ofNat 6 = 4 by decide), if_neg (show ¬ Int32.ofNat 6 = 5 by decide), if_pos (show Int32.ofNat 6 = 6 by decide)]
  obtain ⟨s1, s2⟩ := fk_sub hf hx.1
  have eI : I 3 f a.toNatClampNeg = D.2.2.2.2.1 f a.toNatClampNeg := (hx.1.1 3 f _ (by decide) (by decide) (by decide) (fun q => absurd q (by decide))).trans (hty _ hal).1
  rw [s2, eI]
  obtain ⟨t1, t2, t3⟩ := fk_take_S (D.2.2.2.2.1 f a.toNatClampNeg) hx
  generalize fmC_take_f I (D.2.2.2.2.1 f a.toNatClampNeg) = t at t2 t3 ⊢
  obtain ⟨b1, b2, b3, b4⟩ := fk_row_S (nl := D.2.2.1 f) (Int32.ofNat 6) a hf hn hl t2
  generalize fmC_addRow_f t.2 (Int32.ofNat 6) a = r at b2 b3 b4 ⊢
  obtain ⟨s3, s4⟩ := fk_sub hf b2.1
  have er : r.2 3 f a.toNatClampNeg = D.2.2.2.2.1 f a.toNatClampNeg := (b2.1.1 3 f _ (by decide) (by decide) (by decide) (fun q => absurd q (by decide))).trans (hty _ hal).1
  rw [s4, er]
  obtain ⟨c1, c2⟩ := fk_put_S (D.2.2.2.2.1 f a.toNatClampNeg) b2
  rw [fk_bb] at c2
  exact ⟨⟨fun h => absurd h (show ¬ Int32.ofNat 6 = 4 by decide), fun _ => ⟨fun h => absurd h (show ¬ Int32.ofNat 6 = 5 by decide), fun _ => ⟨fun _ => ⟨s1, hv6, t1, b1, s3, hv6, c1⟩, fun h => absurd (show Int32.ofNat 6 = 6 by decide) h⟩⟩⟩, c2⟩
theorem fk_in7 {I0 I : fm_MI} {D : fk_D} {f n : Nat} {k : fk_K} (i : Nat) (a : Int32) (hD : fk_mC I0 D) (hf : f < 4) (ht : D.1 f = true) (hn : n < 40) (hk : fk_okn D f 7 a k.2.1.length = true) (J : fm_MJ) (G : fm_MG) (pb : Nat × Nat) (hx : fk_S I0 I f n (.inr k)) : fmC_moveValues_p I (Int32.ofNat 7) a ∧ fk_S I0 (fmC_moveValues_f I (Int32.ofNat 7) a) f (n + 1) (fk_do D f i 7 a k) := by
  obtain ⟨-, -, hg⟩ := hD f hf
  obtain ⟨-, -, hl, -, hl6, -, -, -, -, hty, -⟩ := hg ht
  unfold fmC_moveValues_p fmC_moveValues_f fm_let
  dsimp only
  rw [if_neg (show ¬ Int32.ofNat 7 = 4 by decide), if_neg (show ¬ Int32.ofNat 7 = 5 by decide), if_neg (show ¬ Int32.ofNat 7 = 6 by decide), if_pos (show Int32.ofNat 7 = 7 by decide)]
  obtain ⟨b1, b2, b3, b4⟩ := fk_row_S (nl := D.2.2.1 f) (Int32.ofNat 7) a hf hn hl hx
  generalize fmC_addRow_f I (Int32.ofNat 7) a = r at b2 b3 b4 ⊢
  obtain ⟨c1, c2⟩ := fk_put_S a b2
  exact ⟨⟨fun h => absurd h (show ¬ Int32.ofNat 7 = 4 by decide), fun _ => ⟨fun h => absurd h (show ¬ Int32.ofNat 7 = 5 by decide), fun _ => ⟨fun h => absurd h (show ¬ Int32.ofNat 7 = 6 by decide), fun _ => ⟨fun _ => ⟨b1, c1⟩, fun h => absurd (show Int32.ofNat 7 = 7 by decide) h⟩⟩⟩⟩, c2⟩
theorem fk_in8 {I0 I : fm_MI} {D : fk_D} {f n : Nat} {k : fk_K} (i : Nat) (a : Int32) (hD : fk_mC I0 D) (hf : f < 4) (ht : D.1 f = true) (hn : n < 40) (hk : fk_okn D f 8 a k.2.1.length = true) (J : fm_MJ) (G : fm_MG) (pb : Nat × Nat) (hx : fk_S I0 I f n (.inr k)) : fmC_moveValues_p I (Int32.ofNat 8) a ∧ fk_S I0 (fmC_moveValues_f I (Int32.ofNat 8) a) f (n + 1) (fk_do D f i 8 a k) := by
  obtain ⟨-, -, hg⟩ := hD f hf
  obtain ⟨-, -, hl, -, hl6, -, -, -, -, hty, -⟩ := hg ht
  unfold fmC_moveValues_p fmC_moveValues_f fm_let
  dsimp only
  rw [if_neg (show ¬ Int32.ofNat 8 = 4 by decide), if_neg (show ¬ Int32.ofNat 8 = 5 by decide), if_neg (show ¬ Int32.ofNat 8 = 6 by decide), if_neg (show ¬ Int32.ofNat 8 = 7 by decide), if_pos (show Int32.ofNat 8 = 8 by decide)]
  obtain ⟨t1, t2, t3⟩ := fk_take_S (a) hx
  generalize fmC_take_f I (a) = t at t2 t3 ⊢
  obtain ⟨b1, b2, b3, b4⟩ := fk_row_S (nl := D.2.2.1 f) (Int32.ofNat 8) a hf hn hl t2
  generalize fmC_addRow_f t.2 (Int32.ofNat 8) a = r at b2 b3 b4 ⊢
  exact ⟨⟨fun h => absurd h (show ¬ Int32.ofNat 8 = 4 by decide), fun _ => ⟨fun h => absurd h (show ¬ Int32.ofNat 8 = 5 by decide), fun _ => ⟨fun h => absurd h (show ¬ Int32.ofNat 8 = 6 by decide), fun _ => ⟨fun h => absurd h (show ¬ Int32.ofNat 8 = 7 by decide), fun _ => ⟨fun _ => ⟨t1, b1⟩, fun h => absurd (show Int32.ofNat 8 = 8 by decide) h⟩⟩⟩⟩⟩, b2⟩
theorem fk_in9 {I0 I : fm_MI} {D : fk_D} {f n : Nat} {k : fk_K} (i : Nat) (a : Int32) (hD : fk_mC I0 D) (hf : f < 4) (ht : D.1 f = true) (hn : n < 40) (hk : fk_okn D f 9 a k.2.1.length = true) (J : fm_MJ) (G : fm_MG) (pb : Nat × Nat) (hx : fk_S I0 I f n (.inr k)) : fmC_moveValues_p I (Int32.ofNat 9) a ∧ fk_S I0 (fmC_moveValues_f I (Int32.ofNat 9) a) f (n + 1) (fk_do D f i 9 a k) := by
  obtain ⟨-, -, hg⟩ := hD f hf
  obtain ⟨-, -, hl, -, hl6, -, -, -, -, hty, -⟩ := hg ht
  unfold fmC_moveValues_p fmC_moveValues_f fm_let
  dsimp only
  rw [if_neg (show ¬ Int32.ofNat 9 = 4 by decide), if_neg (show ¬ Int32.ofNat 9 = 5 by decide), if_neg (show ¬ Int32.ofNat 9 = 6 by decide), if_neg (show ¬ Int32.ofNat 9 = 7 by decide), if_neg (show ¬ Int32.ofNat 9 = 8 by decide), if_pos (show Int32.ofNat 9 = 9 by decide)]
  obtain ⟨t1, t2, t3⟩ := fk_take_S (5) hx
  generalize fmC_take_f I (5) = t at t2 t3 ⊢
  obtain ⟨b1, b2, b3, b4⟩ := fk_row_S (nl := D.2.2.1 f) (Int32.ofNat 9) a hf hn hl t2
  generalize fmC_addRow_f t.2 (Int32.ofNat 9) a = r at b2 b3 b4 ⊢
  exact ⟨⟨fun h => absurd h (show ¬ Int32.ofNat 9 = 4 by decide), fun _ => ⟨fun h => absurd h (show ¬ Int32.ofNat 9 = 5 by decide), fun _ => ⟨fun h => absurd h (show ¬ Int32.ofNat 9 = 6 by decide), fun _ => ⟨fun h => absurd h (show ¬ Int32.ofNat 9 = 7 by decide), fun _ => ⟨fun h => absurd h (show ¬ Int32.ofNat 9 = 8 by decide), fun _ => ⟨fun _ => ⟨t1, b1⟩, fun h => absurd (show Int32.ofNat 9 = 9 by decide) h⟩⟩⟩⟩⟩⟩, b2⟩
theorem fk_in10 {I0 I : fm_MI} {D : fk_D} {f n : Nat} {k : fk_K} (i : Nat) (a : Int32) (hD : fk_mC I0 D) (hf : f < 4) (ht : D.1 f = true) (hn : n < 40) (hk : fk_okn D f 10 a k.2.1.length = true) (J : fm_MJ) (G : fm_MG) (pb : Nat × Nat) (hx : fk_S I0 I f n (.inr k)) : fmC_moveValues_p I (Int32.ofNat 10) a ∧ fk_S I0 (fmC_moveValues_f I (Int32.ofNat 10) a) f (n + 1) (fk_do D f i 10 a k) := by
  obtain ⟨-, -, hg⟩ := hD f hf
  obtain ⟨-, -, hl, -, hl6, -, -, -, -, hty, -⟩ := hg ht
  unfold fmC_moveValues_p fmC_moveValues_f fm_let
  dsimp only
  rw [if_neg (show ¬ Int32.ofNat 10 = 4 by decide), if_neg (show ¬ Int32.ofNat 10 = 5 by decide), if_neg (show ¬ Int32.ofNat 10 = 6 by decide), if_neg (show ¬ Int32.ofNat 10 = 7 by decide), if_neg (show ¬ Int32.ofNat 10 = 8 by decide), if_neg (show ¬ Int32.ofNat 10 = 9 by decide), if_pos (show Int32.ofNat 10 = 10 by decide)]
  obtain ⟨t1, t2, t3⟩ := fk_take_S (0) hx
  generalize fmC_take_f I (0) = t at t2 t3 ⊢
  obtain ⟨u1, u2, u3⟩ := fk_take_S (5) t2
  generalize fmC_take_f t.2 (5) = u at u2 u3 ⊢
  obtain ⟨v1, v2, v3⟩ := fk_take_S (u.1) u2
  generalize fmC_take_f u.2 (u.1) = v at v2 v3 ⊢
  obtain ⟨b1, b2, b3, b4⟩ := fk_row_S (nl := D.2.2.1 f) (Int32.ofNat 10) a hf hn hl v2
  generalize fmC_addRow_f v.2 (Int32.ofNat 10) a = r at b2 b3 b4 ⊢
  obtain ⟨c1, c2⟩ := fk_put_S v.1 b2
  refine ⟨⟨fun h => absurd h (show ¬ Int32.ofNat 10 = 4 by decide), fun _ => ⟨fun h => absurd h (show ¬ Int32.ofNat 10 = 5 by decide), fun _ => ⟨fun h => absurd h (show ¬ Int32.ofNat 10 = 6 by decide), fun _ => ⟨fun h => absurd h (show ¬ Int32.ofNat 10 = 7 by decide), fun _ => ⟨fun h => absurd h (show ¬ Int32.ofNat 10 = 8 by decide), fun _ => ⟨fun h => absurd h (show ¬ Int32.ofNat 10 = 9 by decide), fun _ => ⟨fun _ => ⟨t1, u1, v1, b1, c1⟩, fun h => absurd (show Int32.ofNat 10 = 10 by decide) h⟩⟩⟩⟩⟩⟩⟩, ?_⟩
  have hdo : fk_do D f i 10 a k = fk_bind (fk_tk 0 k) (fun k => fk_bind (fk_take 5 k) (fun q => fk_bind (fk_take q.1 q.2) (fun p => fk_put p.1 (fk_row (D.2.2.1 f) (Int32.ofNat 10) a p.2)))) := rfl
  rw [hdo]
  simp only [fk_bind] at t2 u2 u3 v2 v3 c2 ⊢
  cases h1 : fk_tk 0 k with
  | inl c => rw [h1] at c2; exact c2
  | inr k1 =>
    rw [h1] at c2 u2 u3 v2 v3
    dsimp only at c2 u2 u3 v2 v3 ⊢
    simp only [fk_tk, fk_bind] at c2 u2 v2 v3
    cases h2 : fk_take 5 k1 with
    | inl c => rw [h2] at c2; exact c2
    | inr q1 =>
      obtain ⟨w1, k2⟩ := q1
      have e1 := u3 _ _ _ rfl h2
      rw [h2] at c2 v2 v3
      rw [e1] at c2 v2 v3
      dsimp only at c2 v2 v3 ⊢
      cases h3 : fk_take w1 k2 with
      | inl c => rw [h3] at c2; exact c2
      | inr q2 =>
        obtain ⟨w2, k3⟩ := q2
        have e2 := v3 _ _ _ rfl h3
        rw [h3] at c2
        rw [e2] at c2 ⊢
        exact c2
theorem fk_in11 {I0 I : fm_MI} {D : fk_D} {f n : Nat} {k : fk_K} (i : Nat) (a : Int32) (hD : fk_mC I0 D) (hf : f < 4) (ht : D.1 f = true) (hn : n < 40) (hk : fk_okn D f 11 a k.2.1.length = true) (J : fm_MJ) (G : fm_MG) (pb : Nat × Nat) (hx : fk_S I0 I f n (.inr k)) : fmC_compute_p I (Int32.ofNat 11) a ∧ fk_S I0 (fmC_compute_f I (Int32.ofNat 11) a) f (n + 1) (fk_do D f i 11 a k) := by
  obtain ⟨-, -, hg⟩ := hD f hf
  obtain ⟨-, -, hl, -, hl6, -, -, -, -, hty, -⟩ := hg ht
  unfold fmC_compute_p fmC_compute_f fm_let
  dsimp only
  rw [if_neg (show ¬ Int32.ofNat 11 = 20 by decide)]
  rw [if_neg (show ¬ Int32.ofNat 11 = 18 by decide), if_neg (show ¬ Int32.ofNat 11 = 19 by decide)]
  obtain ⟨t1, t2, t3⟩ := fk_take_S (a) hx
  generalize fmC_take_f I (a) = t at t2 t3 ⊢
  obtain ⟨u1, u2, u3⟩ := fk_take_S (a) t2
  generalize fmC_take_f t.2 (a) = u at u2 u3 ⊢
  obtain ⟨b1, b2, b3, b4⟩ := fk_row_S (nl := D.2.2.1 f) (Int32.ofNat 11) a hf hn hl u2
  generalize fmC_addRow_f u.2 (Int32.ofNat 11) a = r at b2 b3 b4 ⊢
  obtain ⟨c1, c2⟩ := fk_put_S a b2
  rw [fk_bb, fk_bb] at c2
  exact ⟨⟨fun h => absurd h (show ¬ Int32.ofNat 11 = 20 by decide), fun _ => ⟨t1, u1, b1, ⟨fun h => absurd h (show ¬ Int32.ofNat 11 = 18 by decide), fun _ => ⟨fun h => absurd h (show ¬ Int32.ofNat 11 = 19 by decide), fun _ => c1⟩⟩⟩⟩, c2⟩
theorem fk_in12 {I0 I : fm_MI} {D : fk_D} {f n : Nat} {k : fk_K} (i : Nat) (a : Int32) (hD : fk_mC I0 D) (hf : f < 4) (ht : D.1 f = true) (hn : n < 40) (hk : fk_okn D f 12 a k.2.1.length = true) (J : fm_MJ) (G : fm_MG) (pb : Nat × Nat) (hx : fk_S I0 I f n (.inr k)) : fmC_compute_p I (Int32.ofNat 12) a ∧ fk_S I0 (fmC_compute_f I (Int32.ofNat 12) a) f (n + 1) (fk_do D f i 12 a k) := by
  obtain ⟨-, -, hg⟩ := hD f hf
  obtain ⟨-, -, hl, -, hl6, -, -, -, -, hty, -⟩ := hg ht
  unfold fmC_compute_p fmC_compute_f fm_let
  dsimp only
  rw [if_neg (show ¬ Int32.ofNat 12 = 20 by decide)]
  rw [if_neg (show ¬ Int32.ofNat 12 = 18 by decide), if_neg (show ¬ Int32.ofNat 12 = 19 by decide)]
  obtain ⟨t1, t2, t3⟩ := fk_take_S (a) hx
  generalize fmC_take_f I (a) = t at t2 t3 ⊢
  obtain ⟨u1, u2, u3⟩ := fk_take_S (a) t2
  generalize fmC_take_f t.2 (a) = u at u2 u3 ⊢
  obtain ⟨b1, b2, b3, b4⟩ := fk_row_S (nl := D.2.2.1 f) (Int32.ofNat 12) a hf hn hl u2
  generalize fmC_addRow_f u.2 (Int32.ofNat 12) a = r at b2 b3 b4 ⊢
  obtain ⟨c1, c2⟩ := fk_put_S a b2
  rw [fk_bb, fk_bb] at c2
  exact ⟨⟨fun h => absurd h (show ¬ Int32.ofNat 12 = 20 by decide), fun _ => ⟨t1, u1, b1, ⟨fun h => absurd h (show ¬ Int32.ofNat 12 = 18 by decide), fun _ => ⟨fun h => absurd h (show ¬ Int32.ofNat 12 = 19 by decide), fun _ => c1⟩⟩⟩⟩, c2⟩
theorem fk_in13 {I0 I : fm_MI} {D : fk_D} {f n : Nat} {k : fk_K} (i : Nat) (a : Int32) (hD : fk_mC I0 D) (hf : f < 4) (ht : D.1 f = true) (hn : n < 40) (hk : fk_okn D f 13 a k.2.1.length = true) (J : fm_MJ) (G : fm_MG) (pb : Nat × Nat) (hx : fk_S I0 I f n (.inr k)) : fmC_compute_p I (Int32.ofNat 13) a ∧ fk_S I0 (fmC_compute_f I (Int32.ofNat 13) a) f (n + 1) (fk_do D f i 13 a k) := by
  obtain ⟨-, -, hg⟩ := hD f hf
  obtain ⟨-, -, hl, -, hl6, -, -, -, -, hty, -⟩ := hg ht
  unfold fmC_compute_p fmC_compute_f fm_let
  dsimp only
  rw [if_neg (show ¬ Int32.ofNat 13 = 20 by decide)]
  rw [if_neg (show ¬ Int32.ofNat 13 = 18 by decide), if_neg (show ¬ Int32.ofNat 13 = 19 by decide)]
  obtain ⟨t1, t2, t3⟩ := fk_take_S (a) hx
  generalize fmC_take_f I (a) = t at t2 t3 ⊢
  obtain ⟨u1, u2, u3⟩ := fk_take_S (a) t2
  generalize fmC_take_f t.2 (a) = u at u2 u3 ⊢
  obtain ⟨b1, b2, b3, b4⟩ := fk_row_S (nl := D.2.2.1 f) (Int32.ofNat 13) a hf hn hl u2
  generalize fmC_addRow_f u.2 (Int32.ofNat 13) a = r at b2 b3 b4 ⊢
  obtain ⟨c1, c2⟩ := fk_put_S a b2
  rw [fk_bb, fk_bb] at c2
  exact ⟨⟨fun h => absurd h (show ¬ Int32.ofNat 13 = 20 by decide), fun _ => ⟨t1, u1, b1, ⟨fun h => absurd h (show ¬ Int32.ofNat 13 = 18 by decide), fun _ => ⟨fun h => absurd h (show ¬ Int32.ofNat 13 = 19 by decide), fun _ => c1⟩⟩⟩⟩, c2⟩
theorem fk_in14 {I0 I : fm_MI} {D : fk_D} {f n : Nat} {k : fk_K} (i : Nat) (a : Int32) (hD : fk_mC I0 D) (hf : f < 4) (ht : D.1 f = true) (hn : n < 40) (hk : fk_okn D f 14 a k.2.1.length = true) (J : fm_MJ) (G : fm_MG) (pb : Nat × Nat) (hx : fk_S I0 I f n (.inr k)) : fmC_compute_p I (Int32.ofNat 14) a ∧ fk_S I0 (fmC_compute_f I (Int32.ofNat 14) a) f (n + 1) (fk_do D f i 14 a k) := by
  obtain ⟨-, -, hg⟩ := hD f hf
  obtain ⟨-, -, hl, -, hl6, -, -, -, -, hty, -⟩ := hg ht
  unfold fmC_compute_p fmC_compute_f fm_let
  dsimp only
  rw [if_neg (show ¬ Int32.ofNat 14 = 20 by decide)]
  rw [if_neg (show ¬ Int32.ofNat 14 = 18 by decide), if_neg (show ¬ Int32.ofNat 14 = 19 by decide)]
  obtain ⟨t1, t2, t3⟩ := fk_take_S (a) hx
  generalize fmC_take_f I (a) = t at t2 t3 ⊢
  obtain ⟨u1, u2, u3⟩ := fk_take_S (a) t2
  generalize fmC_take_f t.2 (a) = u at u2 u3 ⊢
  obtain ⟨b1, b2, b3, b4⟩ := fk_row_S (nl := D.2.2.1 f) (Int32.ofNat 14) a hf hn hl u2
  generalize fmC_addRow_f u.2 (Int32.ofNat 14) a = r at b2 b3 b4 ⊢
  obtain ⟨c1, c2⟩ := fk_put_S a b2
  rw [fk_bb, fk_bb] at c2
  exact ⟨⟨fun h => absurd h (show ¬ Int32.ofNat 14 = 20 by decide), fun _ => ⟨t1, u1, b1, ⟨fun h => absurd h (show ¬ Int32.ofNat 14 = 18 by decide), fun _ => ⟨fun h => absurd h (show ¬ Int32.ofNat 14 = 19 by decide), fun _ => c1⟩⟩⟩⟩, c2⟩
theorem fk_in15 {I0 I : fm_MI} {D : fk_D} {f n : Nat} {k : fk_K} (i : Nat) (a : Int32) (hD : fk_mC I0 D) (hf : f < 4) (ht : D.1 f = true) (hn : n < 40) (hk : fk_okn D f 15 a k.2.1.length = true) (J : fm_MJ) (G : fm_MG) (pb : Nat × Nat) (hx : fk_S I0 I f n (.inr k)) : fmC_compute_p I (Int32.ofNat 15) a ∧ fk_S I0 (fmC_compute_f I (Int32.ofNat 15) a) f (n + 1) (fk_do D f i 15 a k) := by
  obtain ⟨-, -, hg⟩ := hD f hf
  obtain ⟨-, -, hl, -, hl6, -, -, -, -, hty, -⟩ := hg ht
  unfold fmC_compute_p fmC_compute_f fm_let
  dsimp only
  rw [if_neg (show ¬ Int32.ofNat 15 = 20 by decide)]
  rw [if_neg (show ¬ Int32.ofNat 15 = 18 by decide), if_neg (show ¬ Int32.ofNat 15 = 19 by decide)]
  obtain ⟨t1, t2, t3⟩ := fk_take_S (a) hx
  generalize fmC_take_f I (a) = t at t2 t3 ⊢
  obtain ⟨u1, u2, u3⟩ := fk_take_S (a) t2
  generalize fmC_take_f t.2 (a) = u at u2 u3 ⊢
  obtain ⟨b1, b2, b3, b4⟩ := fk_row_S (nl := D.2.2.1 f) (Int32.ofNat 15) a hf hn hl u2
  generalize fmC_addRow_f u.2 (Int32.ofNat 15) a = r at b2 b3 b4 ⊢
  obtain ⟨c1, c2⟩ := fk_put_S a b2
  rw [fk_bb, fk_bb] at c2
  exact ⟨⟨fun h => absurd h (show ¬ Int32.ofNat 15 = 20 by decide), fun _ => ⟨t1, u1, b1, ⟨fun h => absurd h (show ¬ Int32.ofNat 15 = 18 by decide), fun _ => ⟨fun h => absurd h (show ¬ Int32.ofNat 15 = 19 by decide), fun _ => c1⟩⟩⟩⟩, c2⟩
theorem fk_in16 {I0 I : fm_MI} {D : fk_D} {f n : Nat} {k : fk_K} (i : Nat) (a : Int32) (hD : fk_mC I0 D) (hf : f < 4) (ht : D.1 f = true) (hn : n < 40) (hk : fk_okn D f 16 a k.2.1.length = true) (J : fm_MJ) (G : fm_MG) (pb : Nat × Nat) (hx : fk_S I0 I f n (.inr k)) : fmC_compute_p I (Int32.ofNat 16) a ∧ fk_S I0 (fmC_compute_f I (Int32.ofNat 16) a) f (n + 1) (fk_do D f i 16 a k) := by
  obtain ⟨-, -, hg⟩ := hD f hf
  obtain ⟨-, -, hl, -, hl6, -, -, -, -, hty, -⟩ := hg ht
  unfold fmC_compute_p fmC_compute_f fm_let
  dsimp only
  rw [if_neg (show ¬ Int32.ofNat 16 = 20 by decide)]
  rw [if_neg (show ¬ Int32.ofNat 16 = 18 by decide), if_neg (show ¬ Int32.ofNat 16 = 19 by decide)]
  obtain ⟨t1, t2, t3⟩ := fk_take_S (a) hx
  generalize fmC_take_f I (a) = t at t2 t3 ⊢
  obtain ⟨u1, u2, u3⟩ := fk_take_S (a) t2
  generalize fmC_take_f t.2 (a) = u at u2 u3 ⊢
  obtain ⟨b1, b2, b3, b4⟩ := fk_row_S (nl := D.2.2.1 f) (Int32.ofNat 16) a hf hn hl u2
  generalize fmC_addRow_f u.2 (Int32.ofNat 16) a = r at b2 b3 b4 ⊢
  obtain ⟨c1, c2⟩ := fk_put_S a b2
  rw [fk_bb, fk_bb] at c2
  exact ⟨⟨fun h => absurd h (show ¬ Int32.ofNat 16 = 20 by decide), fun _ => ⟨t1, u1, b1, ⟨fun h => absurd h (show ¬ Int32.ofNat 16 = 18 by decide), fun _ => ⟨fun h => absurd h (show ¬ Int32.ofNat 16 = 19 by decide), fun _ => c1⟩⟩⟩⟩, c2⟩
theorem fk_in17 {I0 I : fm_MI} {D : fk_D} {f n : Nat} {k : fk_K} (i : Nat) (a : Int32) (hD : fk_mC I0 D) (hf : f < 4) (ht : D.1 f = true) (hn : n < 40) (hk : fk_okn D f 17 a k.2.1.length = true) (J : fm_MJ) (G : fm_MG) (pb : Nat × Nat) (hx : fk_S I0 I f n (.inr k)) : fmC_compute_p I (Int32.ofNat 17) a ∧ fk_S I0 (fmC_compute_f I (Int32.ofNat 17) a) f (n + 1) (fk_do D f i 17 a k) := by
  obtain ⟨-, -, hg⟩ := hD f hf
  obtain ⟨-, -, hl, -, hl6, -, -, -, -, hty, -⟩ := hg ht
  unfold fmC_compute_p fmC_compute_f fm_let
  dsimp only
  rw [if_neg (show ¬ Int32.ofNat 17 = 20 by decide)]
  rw [if_neg (show ¬ Int32.ofNat 17 = 18 by decide), if_neg (show ¬ Int32.ofNat 17 = 19 by decide)]
  obtain ⟨t1, t2, t3⟩ := fk_take_S (a) hx
  generalize fmC_take_f I (a) = t at t2 t3 ⊢
  obtain ⟨u1, u2, u3⟩ := fk_take_S (a) t2
  generalize fmC_take_f t.2 (a) = u at u2 u3 ⊢
  obtain ⟨b1, b2, b3, b4⟩ := fk_row_S (nl := D.2.2.1 f) (Int32.ofNat 17) a hf hn hl u2
  generalize fmC_addRow_f u.2 (Int32.ofNat 17) a = r at b2 b3 b4 ⊢
  obtain ⟨c1, c2⟩ := fk_put_S a b2
  rw [fk_bb, fk_bb] at c2
  exact ⟨⟨fun h => absurd h (show ¬ Int32.ofNat 17 = 20 by decide), fun _ => ⟨t1, u1, b1, ⟨fun h => absurd h (show ¬ Int32.ofNat 17 = 18 by decide), fun _ => ⟨fun h => absurd h (show ¬ Int32.ofNat 17 = 19 by decide), fun _ => c1⟩⟩⟩⟩, c2⟩
theorem fk_in18 {I0 I : fm_MI} {D : fk_D} {f n : Nat} {k : fk_K} (i : Nat) (a : Int32) (hD : fk_mC I0 D) (hf : f < 4) (ht : D.1 f = true) (hn : n < 40) (hk : fk_okn D f 18 a k.2.1.length = true) (J : fm_MJ) (G : fm_MG) (pb : Nat × Nat) (hx : fk_S I0 I f n (.inr k)) : fmC_compute_p I (Int32.ofNat 18) a ∧ fk_S I0 (fmC_compute_f I (Int32.ofNat 18) a) f (n + 1) (fk_do D f i 18 a k) := by
  obtain ⟨-, -, hg⟩ := hD f hf
  obtain ⟨-, -, hl, -, hl6, -, -, -, -, hty, -⟩ := hg ht
  unfold fmC_compute_p fmC_compute_f fm_let
  dsimp only
  rw [if_neg (show ¬ Int32.ofNat 18 = 20 by decide)]
  rw [if_pos (show Int32.ofNat 18 = 18 by decide)]
  obtain ⟨t1, t2, t3⟩ := fk_take_S (a) hx
  generalize fmC_take_f I (a) = t at t2 t3 ⊢
  obtain ⟨u1, u2, u3⟩ := fk_take_S (a) t2
  generalize fmC_take_f t.2 (a) = u at u2 u3 ⊢
  obtain ⟨b1, b2, b3, b4⟩ := fk_row_S (nl := D.2.2.1 f) (Int32.ofNat 18) a hf hn hl u2
  generalize fmC_addRow_f u.2 (Int32.ofNat 18) a = r at b2 b3 b4 ⊢
  obtain ⟨c1, c2⟩ := fk_put_S 0 b2
  rw [fk_bb, fk_bb] at c2
  exact ⟨⟨fun h => absurd h (show ¬ Int32.ofNat 18 = 20 by decide), fun _ => ⟨t1, u1, b1, ⟨fun _ => c1, fun h => absurd (show Int32.ofNat 18 = 18 by decide) h⟩⟩⟩, c2⟩
theorem fk_in19 {I0 I : fm_MI} {D : fk_D} {f n : Nat} {k : fk_K} (i : Nat) (a : Int32) (hD : fk_mC I0 D) (hf : f < 4) (ht : D.1 f = true) (hn : n < 40) (hk : fk_okn D f 19 a k.2.1.length = true) (J : fm_MJ) (G : fm_MG) (pb : Nat × Nat) (hx : fk_S I0 I f n (.inr k)) : fmC_compute_p I (Int32.ofNat 19) a ∧ fk_S I0 (fmC_compute_f I (Int32.ofNat 19) a) f (n + 1) (fk_do D f i 19 a k) := by
  obtain ⟨-, -, hg⟩ := hD f hf
  obtain ⟨-, -, hl, -, hl6, -, -, -, -, hty, -⟩ := hg ht
  unfold fmC_compute_p fmC_compute_f fm_let
  dsimp only
  rw [if_neg (show ¬ Int32.ofNat 19 = 20 by decide)]
  rw [if_neg (show ¬ Int32.ofNat 19 = 18 by decide), if_pos (show Int32.ofNat 19 = 19 by decide)]
  obtain ⟨t1, t2, t3⟩ := fk_take_S (a) hx
  generalize fmC_take_f I (a) = t at t2 t3 ⊢
  obtain ⟨u1, u2, u3⟩ := fk_take_S (a) t2
  generalize fmC_take_f t.2 (a) = u at u2 u3 ⊢
  obtain ⟨b1, b2, b3, b4⟩ := fk_row_S (nl := D.2.2.1 f) (Int32.ofNat 19) a hf hn hl u2
  generalize fmC_addRow_f u.2 (Int32.ofNat 19) a = r at b2 b3 b4 ⊢
  obtain ⟨c1, c2⟩ := fk_put_S 0 b2
  rw [fk_bb, fk_bb] at c2
  exact ⟨⟨fun h => absurd h (show ¬ Int32.ofNat 19 = 20 by decide), fun _ => ⟨t1, u1, b1, ⟨fun h => absurd h (show ¬ Int32.ofNat 19 = 18 by decide), fun _ => ⟨fun _ => c1, fun h => absurd (show Int32.ofNat 19 = 19 by decide) h⟩⟩⟩⟩, c2⟩
theorem fk_in20 {I0 I : fm_MI} {D : fk_D} {f n : Nat} {k : fk_K} (i : Nat) (a : Int32) (hD : fk_mC I0 D) (hf : f < 4) (ht : D.1 f = true) (hn : n < 40) (hk : fk_okn D f 20 a k.2.1.length = true) (J : fm_MJ) (G : fm_MG) (pb : Nat × Nat) (hx : fk_S I0 I f n (.inr k)) : fmC_compute_p I (Int32.ofNat 20) a ∧ fk_S I0 (fmC_compute_f I (Int32.ofNat 20) a) f (n + 1) (fk_do D f i 20 a k) := by
  obtain ⟨-, -, hg⟩ := hD f hf
  obtain ⟨-, -, hl, -, hl6, -, -, -, -, hty, -⟩ := hg ht
  unfold fmC_compute_p fmC_compute_f fm_let
  dsimp only
  rw [if_pos (show Int32.ofNat 20 = 20 by decide)]
  obtain ⟨t1, t2, t3⟩ := fk_take_S (a / 4) hx
  generalize fmC_take_f I (a / 4) = t at t2 t3 ⊢
  obtain ⟨b1, b2, b3, b4⟩ := fk_row_S (nl := D.2.2.1 f) (Int32.ofNat 20) a hf hn hl t2
  generalize fmC_addRow_f t.2 (Int32.ofNat 20) a = r at b2 b3 b4 ⊢
  obtain ⟨c1, c2⟩ := fk_put_S (a - a / 4 * 4) b2
  rw [fk_bb] at c2
  exact ⟨⟨fun _ => ⟨t1, b1, c1⟩, fun h => absurd (show Int32.ofNat 20 = 20 by decide) h⟩, c2⟩
theorem fk_in21 {I0 I : fm_MI} {D : fk_D} {f n : Nat} {k : fk_K} (i : Nat) (a : Int32) (hD : fk_mC I0 D) (hf : f < 4) (ht : D.1 f = true) (hn : n < 40) (hk : fk_okn D f 21 a k.2.1.length = true) (J : fm_MJ) (G : fm_MG) (pb : Nat × Nat) (hx : fk_S I0 I f n (.inr k)) : fmC_nest_p I J G pb (Int32.ofNat 21) a ∧ fk_S I0 (fmC_nest_f I J G pb (Int32.ofNat 21) a) f (n + 1) (fk_do D f i 21 a k) := by
  obtain ⟨-, -, hg⟩ := hD f hf
  obtain ⟨-, -, hl, -, hl6, -, -, -, -, hty, -⟩ := hg ht
  unfold fmC_nest_p fmC_nest_f fm_let
  dsimp only
  rw [if_neg (show ¬ Int32.ofNat 21 = 23 by decide), if_neg (show ¬ Int32.ofNat 21 = 24 by decide), if_neg (show ¬ Int32.ofNat 21 = 25 by decide)]
  obtain ⟨c1, c2⟩ := fk_open_S i (Int32.ofNat 21) a hf hx
  exact ⟨⟨fun h => absurd h (show ¬ Int32.ofNat 21 = 23 by decide), fun _ => ⟨fun h => absurd h (show ¬ Int32.ofNat 21 = 24 by decide), fun _ => ⟨fun h => absurd h (show ¬ Int32.ofNat 21 = 25 by decide), fun _ => c1⟩⟩⟩, fk_Sm c2 (by omega)⟩
theorem fk_in22 {I0 I : fm_MI} {D : fk_D} {f n : Nat} {k : fk_K} (i : Nat) (a : Int32) (hD : fk_mC I0 D) (hf : f < 4) (ht : D.1 f = true) (hn : n < 40) (hk : fk_okn D f 22 a k.2.1.length = true) (J : fm_MJ) (G : fm_MG) (pb : Nat × Nat) (hx : fk_S I0 I f n (.inr k)) : fmC_nest_p I J G pb (Int32.ofNat 22) a ∧ fk_S I0 (fmC_nest_f I J G pb (Int32.ofNat 22) a) f (n + 1) (fk_do D f i 22 a k) := by
  obtain ⟨-, -, hg⟩ := hD f hf
  obtain ⟨-, -, hl, -, hl6, -, -, -, -, hty, -⟩ := hg ht
  unfold fmC_nest_p fmC_nest_f fm_let
  dsimp only
  rw [if_neg (show ¬ Int32.ofNat 22 = 23 by decide), if_neg (show ¬ Int32.ofNat 22 = 24 by decide), if_neg (show ¬ Int32.ofNat 22 = 25 by decide)]
  obtain ⟨c1, c2⟩ := fk_open_S i (Int32.ofNat 22) a hf hx
  exact ⟨⟨fun h => absurd h (show ¬ Int32.ofNat 22 = 23 by decide), fun _ => ⟨fun h => absurd h (show ¬ Int32.ofNat 22 = 24 by decide), fun _ => ⟨fun h => absurd h (show ¬ Int32.ofNat 22 = 25 by decide), fun _ => c1⟩⟩⟩, fk_Sm c2 (by omega)⟩
theorem fk_in23 {I0 I : fm_MI} {D : fk_D} {f n : Nat} {k : fk_K} (i : Nat) (a : Int32) (hD : fk_mC I0 D) (hf : f < 4) (ht : D.1 f = true) (hn : n < 40) (hk : fk_okn D f 23 a k.2.1.length = true) (J : fm_MJ) (G : fm_MG) (pb : Nat × Nat) (hx : fk_S I0 I f n (.inr k)) : fmC_nest_p I J G pb (Int32.ofNat 23) a ∧ fk_S I0 (fmC_nest_f I J G pb (Int32.ofNat 23) a) f (n + 1) (fk_do D f i 23 a k) := by
  obtain ⟨-, -, hg⟩ := hD f hf
  obtain ⟨-, -, hl, -, hl6, -, -, -, -, hty, -⟩ := hg ht
  unfold fmC_nest_p fmC_nest_f fm_let
  dsimp only
  rw [if_pos (show Int32.ofNat 23 = 23 by decide)]
  obtain ⟨t1, t2, t3⟩ := fk_take_S (0) hx
  generalize fmC_take_f I (0) = t at t2 t3 ⊢
  obtain ⟨b1, b2, b3, b4⟩ := fk_row_S (nl := D.2.2.1 f) (Int32.ofNat 23) a hf hn hl t2
  generalize fmC_addRow_f t.2 (Int32.ofNat 23) a = r at b2 b3 b4 ⊢
  obtain ⟨c1, c2⟩ := fk_open_S i (Int32.ofNat 23) a hf b2
  generalize fmC_openFrame_f r.2 (Int32.ofNat 23) a = w at c2 ⊢
  have d := fk_br_S r.1 b4 c2
  refine ⟨⟨fun _ => ⟨t1, b1, c1, fk_op_w c2.1⟩, fun h => absurd (show Int32.ofNat 23 = 23 by decide) h⟩, ?_⟩
  have hdo : fk_do D f i 23 a k = fk_bind (fk_tk 0 k) (fun k => fk_open i (Int32.ofNat 23) a (if fk_lv k.2.1 = true then Int32.ofNat k.2.2.1 else -1) (fk_row (D.2.2.1 f) (Int32.ofNat 23) a k)) := rfl
  rw [hdo]
  simp only [fk_bind] at d b3 ⊢
  cases h1 : fk_tk 0 k with
  | inl c => rw [h1] at d; exact d
  | inr k1 =>
    rw [h1] at d
    dsimp only at d ⊢
    have e := b3 k1 h1
    rw [← e]
    unfold fk_open at d ⊢
    dsimp only at d ⊢
    split
    · rename_i hh
      rw [if_pos hh] at d
      exact d
    · rename_i hh
      rw [if_neg hh] at d
      exact d
theorem fk_in24 {I0 I : fm_MI} {D : fk_D} {f n : Nat} {k : fk_K} (i : Nat) (a : Int32) (hD : fk_mC I0 D) (hf : f < 4) (ht : D.1 f = true) (hn : n < 40) (hk : fk_okn D f 24 a k.2.1.length = true) (J : fm_MJ) (G : fm_MG) (pb : Nat × Nat) (hx : fk_S I0 I f n (.inr k)) : fmC_nest_p I J G pb (Int32.ofNat 24) a ∧ fk_S I0 (fmC_nest_f I J G pb (Int32.ofNat 24) a) f (n + 1) (fk_do D f i 24 a k) := by
  obtain ⟨-, -, hg⟩ := hD f hf
  obtain ⟨-, -, hl, -, hl6, -, -, -, -, hty, -⟩ := hg ht
  unfold fmC_nest_p fmC_nest_f fm_let
  dsimp only
  rw [if_neg (show ¬ Int32.ofNat 24 = 23 by decide), if_pos (show Int32.ofNat 24 = 24 by decide)]
  obtain ⟨c1, c2⟩ := fk_else_S (nl := D.2.2.1 f) hf hn hl hx
  exact ⟨⟨fun h => absurd h (show ¬ Int32.ofNat 24 = 23 by decide), fun _ => ⟨fun _ => c1, fun h => absurd (show Int32.ofNat 24 = 24 by decide) h⟩⟩, c2⟩
theorem fk_in25 {I0 I : fm_MI} {D : fk_D} {f n : Nat} {k : fk_K} (i : Nat) (a : Int32) (hD : fk_mC I0 D) (hf : f < 4) (ht : D.1 f = true) (hn : n < 40) (hk : fk_okn D f 25 a k.2.1.length = true) (J : fm_MJ) (G : fm_MG) (pb : Nat × Nat) (hx : fk_S I0 I f n (.inr k)) : fmC_nest_p I J G pb (Int32.ofNat 25) a ∧ fk_S I0 (fmC_nest_f I J G pb (Int32.ofNat 25) a) f (n + 1) (fk_do D f i 25 a k) := by
  obtain ⟨-, -, hg⟩ := hD f hf
  obtain ⟨-, -, hl, -, hl6, -, -, -, -, hty, -⟩ := hg ht
  unfold fmC_nest_p fmC_nest_f fm_let
  dsimp only
  rw [if_neg (show ¬ Int32.ofNat 25 = 23 by decide), if_neg (show ¬ Int32.ofNat 25 = 24 by decide), if_pos (show Int32.ofNat 25 = 25 by decide)]
  obtain ⟨c1, c2⟩ := fk_end_S J G pb hf (by omega) hx
  exact ⟨⟨fun h => absurd h (show ¬ Int32.ofNat 25 = 23 by decide), fun _ => ⟨fun h => absurd h (show ¬ Int32.ofNat 25 = 24 by decide), fun _ => ⟨fun _ => c1, fun h => absurd (show Int32.ofNat 25 = 25 by decide) h⟩⟩⟩, fk_Sm c2 (by omega)⟩
theorem fk_ofc {a : Int32} {m : Nat} (h : vp_in a m) : a = Int32.ofNat a.toNatClampNeg := by
  have h0 : ¬ a < 0 := fun q => h (Or.inl q)
  have ha : (0 : Int) ≤ a.toInt := by
    rw [Int32.lt_iff_toInt_lt] at h0
    simpa using h0
  have hc : (a.toNatClampNeg : Int) = a.toInt := by
    unfold Int32.toNatClampNeg
    omega
  have hlt := a.toInt_lt
  apply Int32.toInt_inj.mp
  rw [Int32.toInt_ofNat_of_lt (by omega), hc]
theorem fk_sb {m b : Nat} (h : b ≤ m) : Int32.ofNat m - Int32.ofNat b = Int32.ofNat (m - b) := by
  have : m = (m - b) + b := by omega
  conv => lhs; rw [this, Int32.ofNat_add]
  simp
theorem fk_in26 {I0 I : fm_MI} {D : fk_D} {f n : Nat} {k : fk_K} (i : Nat) (a : Int32) (hD : fk_mC I0 D) (hf : f < 4) (ht : D.1 f = true) (hn : n < 40) (hk : fk_okn D f 26 a k.2.1.length = true) (J : fm_MJ) (G : fm_MG) (pb : Nat × Nat) (hx : fk_S I0 I f n (.inr k)) : fmC_leave_p I J G pb (Int32.ofNat 26) a ∧ fk_S I0 (fmC_leave_f I J G pb (Int32.ofNat 26) a) f (n + 1) (fk_do D f i 26 a k) := by
  obtain ⟨-, -, hg⟩ := hD f hf
  obtain ⟨-, -, hl, -, hl6, -, -, -, -, hty, -⟩ := hg ht
  have hw := fk_wbi (show fk_wb a k.2.1.length = true from hk)
  have h1 := hx.2.2.2.2.2.1
  have h9 := hx.2.2.2.2.2.2.1
  have ha : a = Int32.ofNat a.toNatClampNeg := fk_ofc hw.1
  have ho : I 13 0 6 - a = Int32.ofNat (k.2.1.length - 1 - a.toNatClampNeg) := by
    rw [hx.2.2.2.2.2.2.2.1]
    conv => lhs; rw [ha]
    exact fk_sb (by omega)
  unfold fmC_leave_p fmC_leave_f fm_let
  dsimp only
  rw [if_pos (show Int32.ofNat 26 = 26 by decide)]
  rw [ho]
  obtain ⟨j1, j2, j3, j4⟩ := fk_jump_S (nl := D.2.2.1 f) (a := a.toNatClampNeg) (o := k.2.1.length - 1 - a.toNatClampNeg) (Int32.ofNat 26) hf hn hl hx (by omega) (fun k' q => by cases q; omega)
  obtain ⟨d1, d2⟩ := fk_die_S j2
  exact ⟨⟨fun _ => ⟨j1, d1⟩, fun h => absurd (show Int32.ofNat 26 = 26 by decide) h⟩, d2⟩
theorem fk_in27 {I0 I : fm_MI} {D : fk_D} {f n : Nat} {k : fk_K} (i : Nat) (a : Int32) (hD : fk_mC I0 D) (hf : f < 4) (ht : D.1 f = true) (hn : n < 40) (hk : fk_okn D f 27 a k.2.1.length = true) (J : fm_MJ) (G : fm_MG) (pb : Nat × Nat) (hx : fk_S I0 I f n (.inr k)) : fmC_leave_p I J G pb (Int32.ofNat 27) a ∧ fk_S I0 (fmC_leave_f I J G pb (Int32.ofNat 27) a) f (n + 1) (fk_do D f i 27 a k) := by
  obtain ⟨-, -, hg⟩ := hD f hf
  obtain ⟨-, -, hl, -, hl6, -, -, -, -, hty, -⟩ := hg ht
  have hw := fk_wbi (show fk_wb a k.2.1.length = true from hk)
  have h1 := hx.2.2.2.2.2.1
  have h9 := hx.2.2.2.2.2.2.1
  have ha : a = Int32.ofNat a.toNatClampNeg := fk_ofc hw.1
  have ho : I 13 0 6 - a = Int32.ofNat (k.2.1.length - 1 - a.toNatClampNeg) := by
    rw [hx.2.2.2.2.2.2.2.1]
    conv => lhs; rw [ha]
    exact fk_sb (by omega)
  unfold fmC_leave_p fmC_leave_f fm_let
  dsimp only
  rw [if_neg (show ¬ Int32.ofNat 27 = 26 by decide), if_pos (show Int32.ofNat 27 = 27 by decide)]
  obtain ⟨t1, t2, t3⟩ := fk_take_S 0 hx
  obtain ⟨to1, to2⟩ := fk_take_o I 0
  generalize fmC_take_f I 0 = t at t2 t3 to1 to2 ⊢
  rw [to1, ho]
  obtain ⟨j1, j2, j3, j4⟩ := fk_jump_S (nl := D.2.2.1 f) (a := a.toNatClampNeg) (o := k.2.1.length - 1 - a.toNatClampNeg) (Int32.ofNat 27) hf hn hl t2 (by omega) (fun k' q => by rw [fk_tk_fs q]; omega)
  generalize fmC_jump_f t.2 (Int32.ofNat 27) (Int32.ofNat (k.2.1.length - 1 - a.toNatClampNeg)) = r at j2 j3 j4 ⊢
  rw [j3, to1, ho, fk_cl (show k.2.1.length - 1 - a.toNatClampNeg < 2147483648 by omega)]
  obtain ⟨fr, gs, hd⟩ : ∃ fr gs, k.2.1.drop a.toNatClampNeg = fr :: gs := by
    cases hd : k.2.1.drop a.toNatClampNeg with
    | nil =>
      have := congrArg List.length hd
      simp at this; omega
    | cons fr gs => exact ⟨fr, gs, rfl⟩
  have hgs : gs.length = k.2.1.length - 1 - a.toNatClampNeg := by
    have := congrArg List.length hd
    simp at this; omega
  have hfr := fk_frm_at hx.2.2.2.2.2.2.2.2.1 hd
  rw [hgs] at hfr
  have hnd : fmR_neededByJump_f r (k.2.1.length - 1 - a.toNatClampNeg) = fk_need fr := by
    unfold fmR_neededByJump_f fk_need
    rw [j4, j4, to2, to2, hfr.1, hfr.2.1]
  rw [hnd]
  obtain ⟨c1, c2⟩ := fk_put_S (fk_need fr) j2
  refine ⟨⟨fun h => absurd h (show ¬ Int32.ofNat 27 = 26 by decide), fun _ => ⟨fun _ => ⟨t1, j1, (fk_in (by omega)).mpr (by omega), c1⟩, fun h => absurd (show Int32.ofNat 27 = 27 by decide) h⟩⟩, ?_⟩
  rw [fk_bb] at c2
  have hdo : fk_do D f i 27 a k = fk_bind (fk_tk 0 k) (fun k => fk_bind (fk_jump (D.2.2.1 f) 27 a.toNatClampNeg k) (fun k' => match k.2.1.drop a.toNatClampNeg with | [] => .inl 99 | f :: _ => fk_put (fk_need f) k')) := rfl
  rw [hdo]
  simp only [fk_bind] at c2 ⊢
  cases h1 : fk_tk 0 k with
  | inl c => rw [h1] at c2; exact c2
  | inr k1 =>
    rw [h1] at c2
    dsimp only at c2 ⊢
    rw [fk_tk_fs h1, hd]
    exact c2
theorem fk_in28 {I0 I : fm_MI} {D : fk_D} {f n : Nat} {k : fk_K} (i : Nat) (a : Int32) (hD : fk_mC I0 D) (hf : f < 4) (ht : D.1 f = true) (hn : n < 40) (hk : fk_okn D f 28 a k.2.1.length = true) (J : fm_MJ) (G : fm_MG) (pb : Nat × Nat) (hx : fk_S I0 I f n (.inr k)) : fmC_leave_p I J G pb (Int32.ofNat 28) a ∧ fk_S I0 (fmC_leave_f I J G pb (Int32.ofNat 28) a) f (n + 1) (fk_do D f i 28 a k) := by
  obtain ⟨-, -, hg⟩ := hD f hf
  obtain ⟨-, -, hl, -, hl6, -, -, -, -, hty, -⟩ := hg ht
  unfold fmC_leave_p fmC_leave_f fm_let
  dsimp only
  rw [if_neg (show ¬ Int32.ofNat 28 = 26 by decide), if_neg (show ¬ Int32.ofNat 28 = 27 by decide), if_pos (show Int32.ofNat 28 = 28 by decide)]
  have h1 := hx.2.2.2.2.2.1
  obtain ⟨j1, j2, j3, j4⟩ := fk_jump_S (nl := D.2.2.1 f) (a := k.2.1.length - 1) (o := 0) 26 hf hn hl hx (by omega) (fun k' q => by cases q; omega)
  obtain ⟨d1, d2⟩ := fk_die_S j2
  exact ⟨⟨fun h => absurd h (show ¬ Int32.ofNat 28 = 26 by decide), fun _ => ⟨fun h => absurd h (show ¬ Int32.ofNat 28 = 27 by decide), fun _ => ⟨fun _ => ⟨j1, d1⟩, fun h => absurd (show Int32.ofNat 28 = 28 by decide) h⟩⟩⟩, d2⟩
theorem fk_in29 {I0 I : fm_MI} {D : fk_D} {f n : Nat} {k : fk_K} (i : Nat) (a : Int32) (hD : fk_mC I0 D) (hf : f < 4) (ht : D.1 f = true) (hn : n < 40) (hk : fk_okn D f 29 a k.2.1.length = true) (J : fm_MJ) (G : fm_MG) (pb : Nat × Nat) (hx : fk_S I0 I f n (.inr k)) : fmC_leave_p I J G pb (Int32.ofNat 29) a ∧ fk_S I0 (fmC_leave_f I J G pb (Int32.ofNat 29) a) f (n + 1) (fk_do D f i 29 a k) := by
  obtain ⟨-, -, hg⟩ := hD f hf
  obtain ⟨-, -, hl, -, hl6, -, -, -, -, hty, -⟩ := hg ht
  have hk' : fk_wb a 4 = true ∧ D.1 a.toNatClampNeg = true := by
    have : (fk_wb a 4 && D.1 a.toNatClampNeg) = true := hk
    simpa using this
  obtain ⟨hv, ha4⟩ := fk_wbi hk'.1
  obtain ⟨-, -, hg2⟩ := hD _ ha4
  obtain ⟨g1, g2, g3, g4, g5, g6, g7, g8, g9, g10, -⟩ := hg2 hk'.2
  have h21 : I 2 a.toNatClampNeg 1 = Int32.ofNat (D.2.1 a.toNatClampNeg) := (hx.1.1 2 _ 1 (by decide) (by decide) (by decide) (fun q => absurd q (by decide))).trans g1
  unfold fmC_leave_p fmC_leave_f fm_let
  dsimp only
  rw [if_neg (show ¬ Int32.ofNat 29 = 26 by decide), if_neg (show ¬ Int32.ofNat 29 = 27 by decide), if_neg (show ¬ Int32.ofNat 29 = 28 by decide), if_pos (show Int32.ofNat 29 = 29 by decide)]
  unfold fmC_callFunction_p fmC_callFunction_f
  rw [h21]
  obtain ⟨p1, p2⟩ := fk_pars_S (g := a.toNatClampNeg) (ty := D.2.2.2.2.1 a.toNatClampNeg) J G pb a hf hn hl g6 (D.2.1 a.toNatClampNeg) 4 I _ (by omega) (by omega) (fun j hj => (g10 j (by omega)).1) hx
  exact ⟨⟨fun h => absurd h (show ¬ Int32.ofNat 29 = 26 by decide), fun _ => ⟨fun h => absurd h (show ¬ Int32.ofNat 29 = 27 by decide), fun _ => ⟨fun h => absurd h (show ¬ Int32.ofNat 29 = 28 by decide), fun _ => ⟨fun _ => ⟨hv, p1⟩, fun h => absurd (show Int32.ofNat 29 = 29 by decide) h⟩⟩⟩⟩, p2⟩
theorem fk_in30 {I0 I : fm_MI} {D : fk_D} {f n : Nat} {k : fk_K} (i : Nat) (a : Int32) (hD : fk_mC I0 D) (hf : f < 4) (ht : D.1 f = true) (hn : n < 40) (hk : fk_okn D f 30 a k.2.1.length = true) (J : fm_MJ) (G : fm_MG) (pb : Nat × Nat) (hx : fk_S I0 I f n (.inr k)) : fmC_leave_p I J G pb (Int32.ofNat 30) a ∧ fk_S I0 (fmC_leave_f I J G pb (Int32.ofNat 30) a) f (n + 1) (fk_do D f i 30 a k) := by
  obtain ⟨-, -, hg⟩ := hD f hf
  obtain ⟨-, -, hl, -, hl6, -, -, -, -, hty, -⟩ := hg ht
  unfold fmC_leave_p fmC_leave_f fm_let
  dsimp only
  rw [if_neg (show ¬ Int32.ofNat 30 = 26 by decide), if_neg (show ¬ Int32.ofNat 30 = 27 by decide), if_neg (show ¬ Int32.ofNat 30 = 28 by decide), if_neg (show ¬ Int32.ofNat 30 = 29 by decide)]
  obtain ⟨b1, b2, b3, b4⟩ := fk_row_S (nl := D.2.2.1 f) (Int32.ofNat 30) a hf hn hl hx
  generalize fmC_addRow_f I (Int32.ofNat 30) a = r at b2 b3 b4 ⊢
  obtain ⟨d1, d2⟩ := fk_die_S b2
  exact ⟨⟨fun h => absurd h (show ¬ Int32.ofNat 30 = 26 by decide), fun _ => ⟨fun h => absurd h (show ¬ Int32.ofNat 30 = 27 by decide), fun _ => ⟨fun h => absurd h (show ¬ Int32.ofNat 30 = 28 by decide), fun _ => ⟨fun h => absurd h (show ¬ Int32.ofNat 30 = 29 by decide), fun _ => ⟨b1, d1⟩⟩⟩⟩⟩, d2⟩
theorem fk_ins_S {I0 I : fm_MI} {D : fk_D} {f n o : Nat} {k : fk_K} (i : Nat) (a : Int32) (J : fm_MJ) (G : fm_MG) (pb : Nat × Nat) (hD : fk_mC I0 D) (hf : f < 4) (ht : D.1 f = true) (hn : n < 40) (ho : o ≤ 30) (hx : fk_S I0 I f n (.inr k)) : fmC_instruction_p I J G pb (Int32.ofNat o) a ∧ fk_S I0 (fmC_instruction_f I J G pb (Int32.ofNat o) a) f (n + 1) (fk_stp D f i o a k) := by
  have hcase : o = 0 ∨ o = 1 ∨ o = 2 ∨ o = 3 ∨ o = 4 ∨ o = 5 ∨ o = 6 ∨ o = 7 ∨ o = 8 ∨ o = 9 ∨ o = 10 ∨ o = 11 ∨ o = 12 ∨ o = 13 ∨ o = 14 ∨ o = 15 ∨ o = 16 ∨ o = 17 ∨ o = 18 ∨ o = 19 ∨ o = 20 ∨ o = 21 ∨ o = 22 ∨ o = 23 ∨ o = 24 ∨ o = 25 ∨ o = 26 ∨ o = 27 ∨ o = 28 ∨ o = 29 ∨ o = 30 := by omega
  unfold fmC_instruction_p fmC_instruction_f fm_let fk_stp
  dsimp only
  rcases hcase with rfl | rfl | rfl | rfl | rfl | rfl | rfl | rfl | rfl | rfl | rfl | rfl | rfl | rfl | rfl | rfl | rfl | rfl | rfl | rfl | rfl | rfl | rfl | rfl | rfl | rfl | rfl | rfl | rfl | rfl | rfl
  · obtain ⟨p1, p2⟩ := fk_as0 a hD hf ht hx
    rw [p2]
    cases hb : fk_okn D f 0 a k.2.1.length with
    | false =>
      rw [show fk_b false = 0 from rfl, if_pos rfl]
      exact ⟨⟨p1, fun _ => trivial, fun q => absurd rfl q⟩, fk_wkm (fk_wk13 hx.1 2 1 (by decide) (by decide)) (by omega), fk_u_eq I, by decide⟩
    | true =>
      rw [show fk_b true = 1 from rfl, if_neg (by decide)]
      obtain ⟨q1, q2⟩ := fk_in0 i a hD hf ht hn hb J G pb hx
      rw [if_neg (show ¬ (10 : Int32) < Int32.ofNat 0 by decide)]
      exact ⟨⟨p1, fun q => absurd q (by decide), fun _ => ⟨fun h => absurd h (show ¬ (10 : Int32) < Int32.ofNat 0 by decide), fun _ => q1⟩⟩, q2⟩
  · obtain ⟨p1, p2⟩ := fk_as1 a hD hf ht hx
    rw [p2]
    cases hb : fk_okn D f 1 a k.2.1.length with
    | false =>
      rw [show fk_b false = 0 from rfl, if_pos rfl]
      exact ⟨⟨p1, fun _ => trivial, fun q => absurd rfl q⟩, fk_wkm (fk_wk13 hx.1 2 1 (by decide) (by decide)) (by omega), fk_u_eq I, by decide⟩
    | true =>
      rw [show fk_b true = 1 from rfl, if_neg (by decide)]
      obtain ⟨q1, q2⟩ := fk_in1 i a hD hf ht hn hb J G pb hx
      rw [if_neg (show ¬ (10 : Int32) < Int32.ofNat 1 by decide)]
      exact ⟨⟨p1, fun q => absurd q (by decide), fun _ => ⟨fun h => absurd h (show ¬ (10 : Int32) < Int32.ofNat 1 by decide), fun _ => q1⟩⟩, q2⟩
  · obtain ⟨p1, p2⟩ := fk_as2 a hD hf ht hx
    rw [p2]
    cases hb : fk_okn D f 2 a k.2.1.length with
    | false =>
      rw [show fk_b false = 0 from rfl, if_pos rfl]
      exact ⟨⟨p1, fun _ => trivial, fun q => absurd rfl q⟩, fk_wkm (fk_wk13 hx.1 2 1 (by decide) (by decide)) (by omega), fk_u_eq I, by decide⟩
    | true =>
      rw [show fk_b true = 1 from rfl, if_neg (by decide)]
      obtain ⟨q1, q2⟩ := fk_in2 i a hD hf ht hn hb J G pb hx
      rw [if_neg (show ¬ (10 : Int32) < Int32.ofNat 2 by decide)]
      exact ⟨⟨p1, fun q => absurd q (by decide), fun _ => ⟨fun h => absurd h (show ¬ (10 : Int32) < Int32.ofNat 2 by decide), fun _ => q1⟩⟩, q2⟩
  · obtain ⟨p1, p2⟩ := fk_as3 a hD hf ht hx
    rw [p2]
    cases hb : fk_okn D f 3 a k.2.1.length with
    | false =>
      rw [show fk_b false = 0 from rfl, if_pos rfl]
      exact ⟨⟨p1, fun _ => trivial, fun q => absurd rfl q⟩, fk_wkm (fk_wk13 hx.1 2 1 (by decide) (by decide)) (by omega), fk_u_eq I, by decide⟩
    | true =>
      rw [show fk_b true = 1 from rfl, if_neg (by decide)]
      obtain ⟨q1, q2⟩ := fk_in3 i a hD hf ht hn hb J G pb hx
      rw [if_neg (show ¬ (10 : Int32) < Int32.ofNat 3 by decide)]
      exact ⟨⟨p1, fun q => absurd q (by decide), fun _ => ⟨fun h => absurd h (show ¬ (10 : Int32) < Int32.ofNat 3 by decide), fun _ => q1⟩⟩, q2⟩
  · obtain ⟨p1, p2⟩ := fk_as4 a hD hf ht hx
    rw [p2]
    cases hb : fk_okn D f 4 a k.2.1.length with
    | false =>
      rw [show fk_b false = 0 from rfl, if_pos rfl]
      exact ⟨⟨p1, fun _ => trivial, fun q => absurd rfl q⟩, fk_wkm (fk_wk13 hx.1 2 1 (by decide) (by decide)) (by omega), fk_u_eq I, by decide⟩
    | true =>
      rw [show fk_b true = 1 from rfl, if_neg (by decide)]
      obtain ⟨q1, q2⟩ := fk_in4 i a hD hf ht hn hb J G pb hx
      rw [if_neg (show ¬ (10 : Int32) < Int32.ofNat 4 by decide)]
      exact ⟨⟨p1, fun q => absurd q (by decide), fun _ => ⟨fun h => absurd h (show ¬ (10 : Int32) < Int32.ofNat 4 by decide), fun _ => q1⟩⟩, q2⟩
  · obtain ⟨p1, p2⟩ := fk_as5 a hD hf ht hx
    rw [p2]
    cases hb : fk_okn D f 5 a k.2.1.length with
    | false =>
      rw [show fk_b false = 0 from rfl, if_pos rfl]
      exact ⟨⟨p1, fun _ => trivial, fun q => absurd rfl q⟩, fk_wkm (fk_wk13 hx.1 2 1 (by decide) (by decide)) (by omega), fk_u_eq I, by decide⟩
    | true =>
      rw [show fk_b true = 1 from rfl, if_neg (by decide)]
      obtain ⟨q1, q2⟩ := fk_in5 i a hD hf ht hn hb J G pb hx
      rw [if_neg (show ¬ (10 : Int32) < Int32.ofNat 5 by decide)]
      exact ⟨⟨p1, fun q => absurd q (by decide), fun _ => ⟨fun h => absurd h (show ¬ (10 : Int32) < Int32.ofNat 5 by decide), fun _ => q1⟩⟩, q2⟩
  · obtain ⟨p1, p2⟩ := fk_as6 a hD hf ht hx
    rw [p2]
    cases hb : fk_okn D f 6 a k.2.1.length with
    | false =>
      rw [show fk_b false = 0 from rfl, if_pos rfl]
      exact ⟨⟨p1, fun _ => trivial, fun q => absurd rfl q⟩, fk_wkm (fk_wk13 hx.1 2 1 (by decide) (by decide)) (by omega), fk_u_eq I, by decide⟩
    | true =>
      rw [show fk_b true = 1 from rfl, if_neg (by decide)]
      obtain ⟨q1, q2⟩ := fk_in6 i a hD hf ht hn hb J G pb hx
      rw [if_neg (show ¬ (10 : Int32) < Int32.ofNat 6 by decide)]
      exact ⟨⟨p1, fun q => absurd q (by decide), fun _ => ⟨fun h => absurd h (show ¬ (10 : Int32) < Int32.ofNat 6 by decide), fun _ => q1⟩⟩, q2⟩
  · obtain ⟨p1, p2⟩ := fk_as7 a hD hf ht hx
    rw [p2]
    cases hb : fk_okn D f 7 a k.2.1.length with
    | false =>
      rw [show fk_b false = 0 from rfl, if_pos rfl]
      exact ⟨⟨p1, fun _ => trivial, fun q => absurd rfl q⟩, fk_wkm (fk_wk13 hx.1 2 1 (by decide) (by decide)) (by omega), fk_u_eq I, by decide⟩
    | true =>
      rw [show fk_b true = 1 from rfl, if_neg (by decide)]
      obtain ⟨q1, q2⟩ := fk_in7 i a hD hf ht hn hb J G pb hx
      rw [if_neg (show ¬ (10 : Int32) < Int32.ofNat 7 by decide)]
      exact ⟨⟨p1, fun q => absurd q (by decide), fun _ => ⟨fun h => absurd h (show ¬ (10 : Int32) < Int32.ofNat 7 by decide), fun _ => q1⟩⟩, q2⟩
  · obtain ⟨p1, p2⟩ := fk_as8 a hD hf ht hx
    rw [p2]
    cases hb : fk_okn D f 8 a k.2.1.length with
    | false =>
      rw [show fk_b false = 0 from rfl, if_pos rfl]
      exact ⟨⟨p1, fun _ => trivial, fun q => absurd rfl q⟩, fk_wkm (fk_wk13 hx.1 2 1 (by decide) (by decide)) (by omega), fk_u_eq I, by decide⟩
    | true =>
      rw [show fk_b true = 1 from rfl, if_neg (by decide)]
      obtain ⟨q1, q2⟩ := fk_in8 i a hD hf ht hn hb J G pb hx
      rw [if_neg (show ¬ (10 : Int32) < Int32.ofNat 8 by decide)]
      exact ⟨⟨p1, fun q => absurd q (by decide), fun _ => ⟨fun h => absurd h (show ¬ (10 : Int32) < Int32.ofNat 8 by decide), fun _ => q1⟩⟩, q2⟩
  · obtain ⟨p1, p2⟩ := fk_as9 a hD hf ht hx
    rw [p2]
    cases hb : fk_okn D f 9 a k.2.1.length with
    | false =>
      rw [show fk_b false = 0 from rfl, if_pos rfl]
      exact ⟨⟨p1, fun _ => trivial, fun q => absurd rfl q⟩, fk_wkm (fk_wk13 hx.1 2 1 (by decide) (by decide)) (by omega), fk_u_eq I, by decide⟩
    | true =>
      rw [show fk_b true = 1 from rfl, if_neg (by decide)]
      obtain ⟨q1, q2⟩ := fk_in9 i a hD hf ht hn hb J G pb hx
      rw [if_neg (show ¬ (10 : Int32) < Int32.ofNat 9 by decide)]
      exact ⟨⟨p1, fun q => absurd q (by decide), fun _ => ⟨fun h => absurd h (show ¬ (10 : Int32) < Int32.ofNat 9 by decide), fun _ => q1⟩⟩, q2⟩
  · obtain ⟨p1, p2⟩ := fk_as10 a hD hf ht hx
    rw [p2]
    cases hb : fk_okn D f 10 a k.2.1.length with
    | false =>
      rw [show fk_b false = 0 from rfl, if_pos rfl]
      exact ⟨⟨p1, fun _ => trivial, fun q => absurd rfl q⟩, fk_wkm (fk_wk13 hx.1 2 1 (by decide) (by decide)) (by omega), fk_u_eq I, by decide⟩
    | true =>
      rw [show fk_b true = 1 from rfl, if_neg (by decide)]
      obtain ⟨q1, q2⟩ := fk_in10 i a hD hf ht hn hb J G pb hx
      rw [if_neg (show ¬ (10 : Int32) < Int32.ofNat 10 by decide)]
      exact ⟨⟨p1, fun q => absurd q (by decide), fun _ => ⟨fun h => absurd h (show ¬ (10 : Int32) < Int32.ofNat 10 by decide), fun _ => q1⟩⟩, q2⟩
  · obtain ⟨p1, p2⟩ := fk_as11 a hD hf ht hx
    rw [p2]
    cases hb : fk_okn D f 11 a k.2.1.length with
    | false =>
      rw [show fk_b false = 0 from rfl, if_pos rfl]
      exact ⟨⟨p1, fun _ => trivial, fun q => absurd rfl q⟩, fk_wkm (fk_wk13 hx.1 2 1 (by decide) (by decide)) (by omega), fk_u_eq I, by decide⟩
    | true =>
      rw [show fk_b true = 1 from rfl, if_neg (by decide)]
      obtain ⟨q1, q2⟩ := fk_in11 i a hD hf ht hn hb J G pb hx
      rw [if_pos (show (10 : Int32) < Int32.ofNat 11 by decide), if_neg (show ¬ (20 : Int32) < Int32.ofNat 11 by decide)]
      exact ⟨⟨p1, fun q => absurd q (by decide), fun _ => ⟨fun _ => ⟨fun h => absurd h (show ¬ (20 : Int32) < Int32.ofNat 11 by decide), fun _ => q1⟩, fun h => absurd (show (10 : Int32) < Int32.ofNat 11 by decide) h⟩⟩, q2⟩
  · obtain ⟨p1, p2⟩ := fk_as12 a hD hf ht hx
    rw [p2]
    cases hb : fk_okn D f 12 a k.2.1.length with
    | false =>
      rw [show fk_b false = 0 from rfl, if_pos rfl]
      exact ⟨⟨p1, fun _ => trivial, fun q => absurd rfl q⟩, fk_wkm (fk_wk13 hx.1 2 1 (by decide) (by decide)) (by omega), fk_u_eq I, by decide⟩
    | true =>
      rw [show fk_b true = 1 from rfl, if_neg (by decide)]
      obtain ⟨q1, q2⟩ := fk_in12 i a hD hf ht hn hb J G pb hx
      rw [if_pos (show (10 : Int32) < Int32.ofNat 12 by decide), if_neg (show ¬ (20 : Int32) < Int32.ofNat 12 by decide)]
      exact ⟨⟨p1, fun q => absurd q (by decide), fun _ => ⟨fun _ => ⟨fun h => absurd h (show ¬ (20 : Int32) < Int32.ofNat 12 by decide), fun _ => q1⟩, fun h => absurd (show (10 : Int32) < Int32.ofNat 12 by decide) h⟩⟩, q2⟩
  · obtain ⟨p1, p2⟩ := fk_as13 a hD hf ht hx
    rw [p2]
    cases hb : fk_okn D f 13 a k.2.1.length with
    | false =>
      rw [show fk_b false = 0 from rfl, if_pos rfl]
      exact ⟨⟨p1, fun _ => trivial, fun q => absurd rfl q⟩, fk_wkm (fk_wk13 hx.1 2 1 (by decide) (by decide)) (by omega), fk_u_eq I, by decide⟩
    | true =>
      rw [show fk_b true = 1 from rfl, if_neg (by decide)]
      obtain ⟨q1, q2⟩ := fk_in13 i a hD hf ht hn hb J G pb hx
      rw [if_pos (show (10 : Int32) < Int32.ofNat 13 by decide), if_neg (show ¬ (20 : Int32) < Int32.ofNat 13 by decide)]
      exact ⟨⟨p1, fun q => absurd q (by decide), fun _ => ⟨fun _ => ⟨fun h => absurd h (show ¬ (20 : Int32) < Int32.ofNat 13 by decide), fun _ => q1⟩, fun h => absurd (show (10 : Int32) < Int32.ofNat 13 by decide) h⟩⟩, q2⟩
  · obtain ⟨p1, p2⟩ := fk_as14 a hD hf ht hx
    rw [p2]
    cases hb : fk_okn D f 14 a k.2.1.length with
    | false =>
      rw [show fk_b false = 0 from rfl, if_pos rfl]
      exact ⟨⟨p1, fun _ => trivial, fun q => absurd rfl q⟩, fk_wkm (fk_wk13 hx.1 2 1 (by decide) (by decide)) (by omega), fk_u_eq I, by decide⟩
    | true =>
      rw [show fk_b true = 1 from rfl, if_neg (by decide)]
      obtain ⟨q1, q2⟩ := fk_in14 i a hD hf ht hn hb J G pb hx
      rw [if_pos (show (10 : Int32) < Int32.ofNat 14 by decide), if_neg (show ¬ (20 : Int32) < Int32.ofNat 14 by decide)]
      exact ⟨⟨p1, fun q => absurd q (by decide), fun _ => ⟨fun _ => ⟨fun h => absurd h (show ¬ (20 : Int32) < Int32.ofNat 14 by decide), fun _ => q1⟩, fun h => absurd (show (10 : Int32) < Int32.ofNat 14 by decide) h⟩⟩, q2⟩
  · obtain ⟨p1, p2⟩ := fk_as15 a hD hf ht hx
    rw [p2]
    cases hb : fk_okn D f 15 a k.2.1.length with
    | false =>
      rw [show fk_b false = 0 from rfl, if_pos rfl]
      exact ⟨⟨p1, fun _ => trivial, fun q => absurd rfl q⟩, fk_wkm (fk_wk13 hx.1 2 1 (by decide) (by decide)) (by omega), fk_u_eq I, by decide⟩
    | true =>
      rw [show fk_b true = 1 from rfl, if_neg (by decide)]
      obtain ⟨q1, q2⟩ := fk_in15 i a hD hf ht hn hb J G pb hx
      rw [if_pos (show (10 : Int32) < Int32.ofNat 15 by decide), if_neg (show ¬ (20 : Int32) < Int32.ofNat 15 by decide)]
      exact ⟨⟨p1, fun q => absurd q (by decide), fun _ => ⟨fun _ => ⟨fun h => absurd h (show ¬ (20 : Int32) < Int32.ofNat 15 by decide), fun _ => q1⟩, fun h => absurd (show (10 : Int32) < Int32.ofNat 15 by decide) h⟩⟩, q2⟩
  · obtain ⟨p1, p2⟩ := fk_as16 a hD hf ht hx
    rw [p2]
    cases hb : fk_okn D f 16 a k.2.1.length with
    | false =>
      rw [show fk_b false = 0 from rfl, if_pos rfl]
      exact ⟨⟨p1, fun _ => trivial, fun q => absurd rfl q⟩, fk_wkm (fk_wk13 hx.1 2 1 (by decide) (by decide)) (by omega), fk_u_eq I, by decide⟩
    | true =>
      rw [show fk_b true = 1 from rfl, if_neg (by decide)]
      obtain ⟨q1, q2⟩ := fk_in16 i a hD hf ht hn hb J G pb hx
      rw [if_pos (show (10 : Int32) < Int32.ofNat 16 by decide), if_neg (show ¬ (20 : Int32) < Int32.ofNat 16 by decide)]
      exact ⟨⟨p1, fun q => absurd q (by decide), fun _ => ⟨fun _ => ⟨fun h => absurd h (show ¬ (20 : Int32) < Int32.ofNat 16 by decide), fun _ => q1⟩, fun h => absurd (show (10 : Int32) < Int32.ofNat 16 by decide) h⟩⟩, q2⟩
  · obtain ⟨p1, p2⟩ := fk_as17 a hD hf ht hx
    rw [p2]
    cases hb : fk_okn D f 17 a k.2.1.length with
    | false =>
      rw [show fk_b false = 0 from rfl, if_pos rfl]
      exact ⟨⟨p1, fun _ => trivial, fun q => absurd rfl q⟩, fk_wkm (fk_wk13 hx.1 2 1 (by decide) (by decide)) (by omega), fk_u_eq I, by decide⟩
    | true =>
      rw [show fk_b true = 1 from rfl, if_neg (by decide)]
      obtain ⟨q1, q2⟩ := fk_in17 i a hD hf ht hn hb J G pb hx
      rw [if_pos (show (10 : Int32) < Int32.ofNat 17 by decide), if_neg (show ¬ (20 : Int32) < Int32.ofNat 17 by decide)]
      exact ⟨⟨p1, fun q => absurd q (by decide), fun _ => ⟨fun _ => ⟨fun h => absurd h (show ¬ (20 : Int32) < Int32.ofNat 17 by decide), fun _ => q1⟩, fun h => absurd (show (10 : Int32) < Int32.ofNat 17 by decide) h⟩⟩, q2⟩
  · obtain ⟨p1, p2⟩ := fk_as18 a hD hf ht hx
    rw [p2]
    cases hb : fk_okn D f 18 a k.2.1.length with
    | false =>
      rw [show fk_b false = 0 from rfl, if_pos rfl]
      exact ⟨⟨p1, fun _ => trivial, fun q => absurd rfl q⟩, fk_wkm (fk_wk13 hx.1 2 1 (by decide) (by decide)) (by omega), fk_u_eq I, by decide⟩
    | true =>
      rw [show fk_b true = 1 from rfl, if_neg (by decide)]
      obtain ⟨q1, q2⟩ := fk_in18 i a hD hf ht hn hb J G pb hx
      rw [if_pos (show (10 : Int32) < Int32.ofNat 18 by decide), if_neg (show ¬ (20 : Int32) < Int32.ofNat 18 by decide)]
      exact ⟨⟨p1, fun q => absurd q (by decide), fun _ => ⟨fun _ => ⟨fun h => absurd h (show ¬ (20 : Int32) < Int32.ofNat 18 by decide), fun _ => q1⟩, fun h => absurd (show (10 : Int32) < Int32.ofNat 18 by decide) h⟩⟩, q2⟩
  · obtain ⟨p1, p2⟩ := fk_as19 a hD hf ht hx
    rw [p2]
    cases hb : fk_okn D f 19 a k.2.1.length with
    | false =>
      rw [show fk_b false = 0 from rfl, if_pos rfl]
      exact ⟨⟨p1, fun _ => trivial, fun q => absurd rfl q⟩, fk_wkm (fk_wk13 hx.1 2 1 (by decide) (by decide)) (by omega), fk_u_eq I, by decide⟩
    | true =>
      rw [show fk_b true = 1 from rfl, if_neg (by decide)]
      obtain ⟨q1, q2⟩ := fk_in19 i a hD hf ht hn hb J G pb hx
      rw [if_pos (show (10 : Int32) < Int32.ofNat 19 by decide), if_neg (show ¬ (20 : Int32) < Int32.ofNat 19 by decide)]
      exact ⟨⟨p1, fun q => absurd q (by decide), fun _ => ⟨fun _ => ⟨fun h => absurd h (show ¬ (20 : Int32) < Int32.ofNat 19 by decide), fun _ => q1⟩, fun h => absurd (show (10 : Int32) < Int32.ofNat 19 by decide) h⟩⟩, q2⟩
  · obtain ⟨p1, p2⟩ := fk_as20 a hD hf ht hx
    rw [p2]
    cases hb : fk_okn D f 20 a k.2.1.length with
    | false =>
      rw [show fk_b false = 0 from rfl, if_pos rfl]
      exact ⟨⟨p1, fun _ => trivial, fun q => absurd rfl q⟩, fk_wkm (fk_wk13 hx.1 2 1 (by decide) (by decide)) (by omega), fk_u_eq I, by decide⟩
    | true =>
      rw [show fk_b true = 1 from rfl, if_neg (by decide)]
      obtain ⟨q1, q2⟩ := fk_in20 i a hD hf ht hn hb J G pb hx
      rw [if_pos (show (10 : Int32) < Int32.ofNat 20 by decide), if_neg (show ¬ (20 : Int32) < Int32.ofNat 20 by decide)]
      exact ⟨⟨p1, fun q => absurd q (by decide), fun _ => ⟨fun _ => ⟨fun h => absurd h (show ¬ (20 : Int32) < Int32.ofNat 20 by decide), fun _ => q1⟩, fun h => absurd (show (10 : Int32) < Int32.ofNat 20 by decide) h⟩⟩, q2⟩
  · obtain ⟨p1, p2⟩ := fk_as21 a hD hf ht hx
    rw [p2]
    cases hb : fk_okn D f 21 a k.2.1.length with
    | false =>
      rw [show fk_b false = 0 from rfl, if_pos rfl]
      exact ⟨⟨p1, fun _ => trivial, fun q => absurd rfl q⟩, fk_wkm (fk_wk13 hx.1 2 1 (by decide) (by decide)) (by omega), fk_u_eq I, by decide⟩
    | true =>
      rw [show fk_b true = 1 from rfl, if_neg (by decide)]
      obtain ⟨q1, q2⟩ := fk_in21 i a hD hf ht hn hb J G pb hx
      rw [if_pos (show (10 : Int32) < Int32.ofNat 21 by decide), if_pos (show (20 : Int32) < Int32.ofNat 21 by decide), if_neg (show ¬ (25 : Int32) < Int32.ofNat 21 by decide)]
      exact ⟨⟨p1, fun q => absurd q (by decide), fun _ => ⟨fun _ => ⟨fun _ => ⟨fun h => absurd h (show ¬ (25 : Int32) < Int32.ofNat 21 by decide), fun _ => q1⟩, fun h => absurd (show (20 : Int32) < Int32.ofNat 21 by decide) h⟩, fun h => absurd (show (10 : Int32) < Int32.ofNat 21 by decide) h⟩⟩, q2⟩
  · obtain ⟨p1, p2⟩ := fk_as22 a hD hf ht hx
    rw [p2]
    cases hb : fk_okn D f 22 a k.2.1.length with
    | false =>
      rw [show fk_b false = 0 from rfl, if_pos rfl]
      exact ⟨⟨p1, fun _ => trivial, fun q => absurd rfl q⟩, fk_wkm (fk_wk13 hx.1 2 1 (by decide) (by decide)) (by omega), fk_u_eq I, by decide⟩
    | true =>
      rw [show fk_b true = 1 from rfl, if_neg (by decide)]
      obtain ⟨q1, q2⟩ := fk_in22 i a hD hf ht hn hb J G pb hx
      rw [if_pos (show (10 : Int32) < Int32.ofNat 22 by decide), if_pos (show (20 : Int32) < Int32.ofNat 22 by decide), if_neg (show ¬ (25 : Int32) < Int32.ofNat 22 by decide)]
      exact ⟨⟨p1, fun q => absurd q (by decide), fun _ => ⟨fun _ => ⟨fun _ => ⟨fun h => absurd h (show ¬ (25 : Int32) < Int32.ofNat 22 by decide), fun _ => q1⟩, fun h => absurd (show (20 : Int32) < Int32.ofNat 22 by decide) h⟩, fun h => absurd (show (10 : Int32) < Int32.ofNat 22 by decide) h⟩⟩, q2⟩
  · obtain ⟨p1, p2⟩ := fk_as23 a hD hf ht hx
    rw [p2]
    cases hb : fk_okn D f 23 a k.2.1.length with
    | false =>
      rw [show fk_b false = 0 from rfl, if_pos rfl]
      exact ⟨⟨p1, fun _ => trivial, fun q => absurd rfl q⟩, fk_wkm (fk_wk13 hx.1 2 1 (by decide) (by decide)) (by omega), fk_u_eq I, by decide⟩
    | true =>
      rw [show fk_b true = 1 from rfl, if_neg (by decide)]
      obtain ⟨q1, q2⟩ := fk_in23 i a hD hf ht hn hb J G pb hx
      rw [if_pos (show (10 : Int32) < Int32.ofNat 23 by decide), if_pos (show (20 : Int32) < Int32.ofNat 23 by decide), if_neg (show ¬ (25 : Int32) < Int32.ofNat 23 by decide)]
      exact ⟨⟨p1, fun q => absurd q (by decide), fun _ => ⟨fun _ => ⟨fun _ => ⟨fun h => absurd h (show ¬ (25 : Int32) < Int32.ofNat 23 by decide), fun _ => q1⟩, fun h => absurd (show (20 : Int32) < Int32.ofNat 23 by decide) h⟩, fun h => absurd (show (10 : Int32) < Int32.ofNat 23 by decide) h⟩⟩, q2⟩
  · obtain ⟨p1, p2⟩ := fk_as24 a hD hf ht hx
    rw [p2]
    cases hb : fk_okn D f 24 a k.2.1.length with
    | false =>
      rw [show fk_b false = 0 from rfl, if_pos rfl]
      exact ⟨⟨p1, fun _ => trivial, fun q => absurd rfl q⟩, fk_wkm (fk_wk13 hx.1 2 1 (by decide) (by decide)) (by omega), fk_u_eq I, by decide⟩
    | true =>
      rw [show fk_b true = 1 from rfl, if_neg (by decide)]
      obtain ⟨q1, q2⟩ := fk_in24 i a hD hf ht hn hb J G pb hx
      rw [if_pos (show (10 : Int32) < Int32.ofNat 24 by decide), if_pos (show (20 : Int32) < Int32.ofNat 24 by decide), if_neg (show ¬ (25 : Int32) < Int32.ofNat 24 by decide)]
      exact ⟨⟨p1, fun q => absurd q (by decide), fun _ => ⟨fun _ => ⟨fun _ => ⟨fun h => absurd h (show ¬ (25 : Int32) < Int32.ofNat 24 by decide), fun _ => q1⟩, fun h => absurd (show (20 : Int32) < Int32.ofNat 24 by decide) h⟩, fun h => absurd (show (10 : Int32) < Int32.ofNat 24 by decide) h⟩⟩, q2⟩
  · obtain ⟨p1, p2⟩ := fk_as25 a hD hf ht hx
    rw [p2]
    cases hb : fk_okn D f 25 a k.2.1.length with
    | false =>
      rw [show fk_b false = 0 from rfl, if_pos rfl]
      exact ⟨⟨p1, fun _ => trivial, fun q => absurd rfl q⟩, fk_wkm (fk_wk13 hx.1 2 1 (by decide) (by decide)) (by omega), fk_u_eq I, by decide⟩
    | true =>
      rw [show fk_b true = 1 from rfl, if_neg (by decide)]
      obtain ⟨q1, q2⟩ := fk_in25 i a hD hf ht hn hb J G pb hx
      rw [if_pos (show (10 : Int32) < Int32.ofNat 25 by decide), if_pos (show (20 : Int32) < Int32.ofNat 25 by decide), if_neg (show ¬ (25 : Int32) < Int32.ofNat 25 by decide)]
      exact ⟨⟨p1, fun q => absurd q (by decide), fun _ => ⟨fun _ => ⟨fun _ => ⟨fun h => absurd h (show ¬ (25 : Int32) < Int32.ofNat 25 by decide), fun _ => q1⟩, fun h => absurd (show (20 : Int32) < Int32.ofNat 25 by decide) h⟩, fun h => absurd (show (10 : Int32) < Int32.ofNat 25 by decide) h⟩⟩, q2⟩
  · obtain ⟨p1, p2⟩ := fk_as26 a hD hf ht hx
    rw [p2]
    cases hb : fk_okn D f 26 a k.2.1.length with
    | false =>
      rw [show fk_b false = 0 from rfl, if_pos rfl]
      exact ⟨⟨p1, fun _ => trivial, fun q => absurd rfl q⟩, fk_wkm (fk_wk13 hx.1 2 1 (by decide) (by decide)) (by omega), fk_u_eq I, by decide⟩
    | true =>
      rw [show fk_b true = 1 from rfl, if_neg (by decide)]
      obtain ⟨q1, q2⟩ := fk_in26 i a hD hf ht hn hb J G pb hx
      rw [if_pos (show (10 : Int32) < Int32.ofNat 26 by decide), if_pos (show (20 : Int32) < Int32.ofNat 26 by decide), if_pos (show (25 : Int32) < Int32.ofNat 26 by decide)]
      exact ⟨⟨p1, fun q => absurd q (by decide), fun _ => ⟨fun _ => ⟨fun _ => ⟨fun _ => q1, fun h => absurd (show (25 : Int32) < Int32.ofNat 26 by decide) h⟩, fun h => absurd (show (20 : Int32) < Int32.ofNat 26 by decide) h⟩, fun h => absurd (show (10 : Int32) < Int32.ofNat 26 by decide) h⟩⟩, q2⟩
  · obtain ⟨p1, p2⟩ := fk_as27 a hD hf ht hx
    rw [p2]
    cases hb : fk_okn D f 27 a k.2.1.length with
    | false =>
      rw [show fk_b false = 0 from rfl, if_pos rfl]
      exact ⟨⟨p1, fun _ => trivial, fun q => absurd rfl q⟩, fk_wkm (fk_wk13 hx.1 2 1 (by decide) (by decide)) (by omega), fk_u_eq I, by decide⟩
    | true =>
      rw [show fk_b true = 1 from rfl, if_neg (by decide)]
      obtain ⟨q1, q2⟩ := fk_in27 i a hD hf ht hn hb J G pb hx
      rw [if_pos (show (10 : Int32) < Int32.ofNat 27 by decide), if_pos (show (20 : Int32) < Int32.ofNat 27 by decide), if_pos (show (25 : Int32) < Int32.ofNat 27 by decide)]
      exact ⟨⟨p1, fun q => absurd q (by decide), fun _ => ⟨fun _ => ⟨fun _ => ⟨fun _ => q1, fun h => absurd (show (25 : Int32) < Int32.ofNat 27 by decide) h⟩, fun h => absurd (show (20 : Int32) < Int32.ofNat 27 by decide) h⟩, fun h => absurd (show (10 : Int32) < Int32.ofNat 27 by decide) h⟩⟩, q2⟩
  · obtain ⟨p1, p2⟩ := fk_as28 a hD hf ht hx
    rw [p2]
    cases hb : fk_okn D f 28 a k.2.1.length with
    | false =>
      rw [show fk_b false = 0 from rfl, if_pos rfl]
      exact ⟨⟨p1, fun _ => trivial, fun q => absurd rfl q⟩, fk_wkm (fk_wk13 hx.1 2 1 (by decide) (by decide)) (by omega), fk_u_eq I, by decide⟩
    | true =>
      rw [show fk_b true = 1 from rfl, if_neg (by decide)]
      obtain ⟨q1, q2⟩ := fk_in28 i a hD hf ht hn hb J G pb hx
      rw [if_pos (show (10 : Int32) < Int32.ofNat 28 by decide), if_pos (show (20 : Int32) < Int32.ofNat 28 by decide), if_pos (show (25 : Int32) < Int32.ofNat 28 by decide)]
      exact ⟨⟨p1, fun q => absurd q (by decide), fun _ => ⟨fun _ => ⟨fun _ => ⟨fun _ => q1, fun h => absurd (show (25 : Int32) < Int32.ofNat 28 by decide) h⟩, fun h => absurd (show (20 : Int32) < Int32.ofNat 28 by decide) h⟩, fun h => absurd (show (10 : Int32) < Int32.ofNat 28 by decide) h⟩⟩, q2⟩
  · obtain ⟨p1, p2⟩ := fk_as29 a hD hf ht hx
    rw [p2]
    cases hb : fk_okn D f 29 a k.2.1.length with
    | false =>
      rw [show fk_b false = 0 from rfl, if_pos rfl]
      exact ⟨⟨p1, fun _ => trivial, fun q => absurd rfl q⟩, fk_wkm (fk_wk13 hx.1 2 1 (by decide) (by decide)) (by omega), fk_u_eq I, by decide⟩
    | true =>
      rw [show fk_b true = 1 from rfl, if_neg (by decide)]
      obtain ⟨q1, q2⟩ := fk_in29 i a hD hf ht hn hb J G pb hx
      rw [if_pos (show (10 : Int32) < Int32.ofNat 29 by decide), if_pos (show (20 : Int32) < Int32.ofNat 29 by decide), if_pos (show (25 : Int32) < Int32.ofNat 29 by decide)]
      exact ⟨⟨p1, fun q => absurd q (by decide), fun _ => ⟨fun _ => ⟨fun _ => ⟨fun _ => q1, fun h => absurd (show (25 : Int32) < Int32.ofNat 29 by decide) h⟩, fun h => absurd (show (20 : Int32) < Int32.ofNat 29 by decide) h⟩, fun h => absurd (show (10 : Int32) < Int32.ofNat 29 by decide) h⟩⟩, q2⟩
  · obtain ⟨p1, p2⟩ := fk_as30 a hD hf ht hx
    rw [p2]
    cases hb : fk_okn D f 30 a k.2.1.length with
    | false =>
      rw [show fk_b false = 0 from rfl, if_pos rfl]
      exact ⟨⟨p1, fun _ => trivial, fun q => absurd rfl q⟩, fk_wkm (fk_wk13 hx.1 2 1 (by decide) (by decide)) (by omega), fk_u_eq I, by decide⟩
    | true =>
      rw [show fk_b true = 1 from rfl, if_neg (by decide)]
      obtain ⟨q1, q2⟩ := fk_in30 i a hD hf ht hn hb J G pb hx
      rw [if_pos (show (10 : Int32) < Int32.ofNat 30 by decide), if_pos (show (20 : Int32) < Int32.ofNat 30 by decide), if_pos (show (25 : Int32) < Int32.ofNat 30 by decide)]
      exact ⟨⟨p1, fun q => absurd q (by decide), fun _ => ⟨fun _ => ⟨fun _ => ⟨fun _ => q1, fun h => absurd (show (25 : Int32) < Int32.ofNat 30 by decide) h⟩, fun h => absurd (show (20 : Int32) < Int32.ofNat 30 by decide) h⟩, fun h => absurd (show (10 : Int32) < Int32.ofNat 30 by decide) h⟩⟩, q2⟩
def fk_fin (k : fk_K) : Int32 ⊕ fk_K := if k.2.1.length = 1 then fk_bind (fk_just k) (fun k => .inr (fk_all 0 k)) else .inl 5
def fk_chk (D : fk_D) (f : Nat) : Nat → Nat → fk_K → (Nat × Int32) ⊕ fk_K
  | 0, i, k => match fk_fin k with | .inl c => .inl (i, c) | .inr k' => .inr k'
  | m + 1, i, k => match fk_stp D f i (D.2.2.2.2.2.2.1 f i) (D.2.2.2.2.2.2.2 f i) k with | .inl c => .inl (i, c) | .inr k' => fk_chk D f m (i + 1) k'
def fk_k0 (D : fk_D) (f : Nat) : fk_K := ([], [(0, D.2.2.2.1 f, 0, true, false, 0, 0, -1)], 0, (fun _ => 0, fun _ => 0, fun _ => 0, fun _ => 0, fun _ => 0, fun _ => 0))
def fk_code (x : (Nat × Int32) ⊕ fk_K) : Int32 := match x with | .inl (i, c) => 100 * Int32.ofNat i + c | .inr _ => 0
def fk_x (x : (Nat × Int32) ⊕ fk_K) : Int32 ⊕ fk_K := match x with | .inl (_, c) => .inl c | .inr k => .inr k
theorem fk_fin_S (J : fm_MJ) (G : fm_MG) (pb : Nat × Nat) {I0 I : fm_MI} {f n : Nat} {k : fk_K} (hf : f < 4) (hn : n ≤ 40) (hx : fk_S I0 I f n (.inr k)) : fmC_endOfCode_p I J G pb ∧ fk_S I0 (fmC_endOfCode_f I J G pb) f n (fk_fin k) := by
  have h1 := hx.2.2.2.2.2.1
  have h9 := hx.2.2.2.2.2.2.1
  have ho := hx.2.2.2.2.2.2.2.1
  unfold fmC_endOfCode_p fmC_endOfCode_f fm_let fk_fin
  have e := fk_ie (a := k.2.1.length - 1) (b := 0) (by omega) (by omega)
  by_cases hl : k.2.1.length = 1
  · have h0 : I 13 0 6 = 0 := ho.trans (e.mpr (by omega))
    rw [if_pos h0, if_pos hl]
    obtain ⟨j1, j2⟩ := fk_just_S hx
    obtain ⟨s1, s2⟩ := fk_sub hf j2.1
    obtain ⟨a1, a2⟩ := fk_all_S J G (1, 0) pb 0 hn j2
    dsimp only
    rw [s2]
    exact ⟨⟨fun _ => ⟨j1, s1, a1⟩, fun q => absurd h0 q⟩, a2⟩
  · have h0 : ¬ I 13 0 6 = 0 := fun q => hl (by have := e.mp (ho.symm.trans q); omega)
    rw [if_neg h0, if_neg hl]
    exact ⟨⟨fun q => absurd q h0, fun _ => trivial⟩, fk_wk13 hx.1 2 5 (by decide) (by decide), fk_u_eq I, by decide⟩
theorem fk_ffL (J : fm_MJ) (G : fm_MG) (pb : Nat × Nat) {I0 : fm_MI} {D : fk_D} {f : Nat} (y : Int32) (hD : fk_mC I0 D) (hf : f < 4) (ht : D.1 f = true) : ∀ (m q i : Nat) (I : fm_MI) (k : fk_K), i + m = D.2.2.2.2.2.1 f → m < q → fk_S I0 I f i (.inr k) →
    fmC_firstFault_L58_p q I J G pb y (Int32.ofNat i) ∧ ∃ I', fmC_firstFault_L58_f q I J G pb y (Int32.ofNat i) = (fk_code (fk_chk D f m i k), I', (1, 0)) ∧ fk_S I0 I' f 40 (fk_x (fk_chk D f m i k))
  | _, 0, _, _, _, _, h, _ => by omega
  | m, q + 1, i, I, k, hm, hq, hx => by
    obtain ⟨-, -, hg⟩ := hD f hf
    obtain ⟨-, -, -, -, -, -, -, hs, hs40, -, hcd⟩ := hg ht
    obtain ⟨s1, s2⟩ := fk_sub hf hx.1
    have e2 : ∀ I', fk_wk I0 I' f 40 → I' 2 f 4 = Int32.ofNat (D.2.2.2.2.2.1 f) := fun I' h => (h.1 2 f 4 (by decide) (by decide) (by decide) (fun q => absurd q (by decide))).trans hs
    have h24 := e2 I (fk_wkm hx.1 (by omega))
    unfold fmC_firstFault_L58_p fmC_firstFault_L58_f fm_let
    dsimp only
    rw [s2, h24]
    have e := fk_le (a := D.2.2.2.2.2.1 f) (b := i) (by omega) (by omega)
    cases m with
    | zero =>
      have hle := e.mpr (by omega)
      rw [if_pos hle]
      obtain ⟨a1, a2⟩ := fk_fin_S J G pb hf (by omega) hx
      generalize fmC_endOfCode_f I J G pb = r at a2 ⊢
      obtain ⟨s3, s4⟩ := fk_sub hf a2.1
      refine ⟨⟨s1, fun _ => ⟨a1, fun _ => trivial, fun _ => s3⟩, fun q => absurd hle q⟩, ?_⟩
      have hr4 := e2 r (fk_wkm a2.1 (by omega))
      unfold fk_chk
      cases hk : fk_fin k with
      | inr k' =>
        rw [hk] at a2
        rw [if_pos a2.2.1]
        exact ⟨r, rfl, fk_Sm a2 (by omega)⟩
      | inl c =>
        rw [hk] at a2
        have h0 : ¬ r 13 0 2 = 0 := by rw [a2.2.1]; exact a2.2.2
        rw [if_neg h0, s4, hr4, a2.2.1]
        refine ⟨r, ?_, fk_Sm a2 (by omega)⟩
        have : D.2.2.2.2.2.1 f = i := by omega
        rw [this]
        rfl
    | succ m =>
      have hle : ¬ _ := fun q => absurd (e.mp q) (by omega)
      rw [if_neg hle, fk_cl (show i < 2147483648 by omega), fk_s]
      obtain ⟨c1, c2, c3⟩ := hcd i (by omega)
      have h4 : I 4 f i = Int32.ofNat (D.2.2.2.2.2.2.1 f i) := (hx.1.1 4 f i (by decide) (by decide) (by decide) (fun q => absurd q (by decide))).trans c1
      have h5 : I 5 f i = D.2.2.2.2.2.2.2 f i := (hx.1.1 5 f i (by decide) (by decide) (by decide) (fun q => absurd q (by decide))).trans c3
      rw [h4, h5]
      obtain ⟨a1, a2⟩ := fk_ins_S i (D.2.2.2.2.2.2.2 f i) J G pb hD hf ht (n := i) (by omega) c2 hx
      have hv : vp_in (Int32.ofNat i) 40 := (fk_in (by omega)).mpr (by omega)
      generalize fmC_instruction_f I J G pb (Int32.ofNat (D.2.2.2.2.2.2.1 f i)) (D.2.2.2.2.2.2.2 f i) = r at a2 ⊢
      unfold fk_chk
      cases hk : fk_stp D f i (D.2.2.2.2.2.2.1 f i) (D.2.2.2.2.2.2.2 f i) k with
      | inl c =>
        rw [hk] at a2
        have h0 : ¬ r 13 0 2 = 0 := by rw [a2.2.1]; exact a2.2.2
        rw [if_neg h0, a2.2.1]
        exact ⟨⟨s1, fun q => absurd q hle, fun _ => ⟨s1, hv, s1, hv, a1, fun q => absurd q a2.2.2, fun _ => trivial⟩⟩, r, rfl, fk_Sm a2 (by omega)⟩
      | inr k' =>
        rw [hk] at a2
        have h0 : r 13 0 2 = 0 := a2.2.1
        rw [if_pos h0]
        obtain ⟨p1, p2⟩ := fk_ffL J G pb y hD hf ht m q (i + 1) r k' (by omega) (by omega) a2
        exact ⟨⟨s1, fun q => absurd q hle, fun _ => ⟨s1, hv, s1, hv, a1, fun _ => p1, fun q => absurd h0 q⟩⟩, p2⟩
def fk_w6 (I : fm_MI) : Prop := ∀ j, j < 9 → I 17 j 4 = -1 ∨ vp_in (I 17 j 4) 40
theorem fk_ff_S (J : fm_MJ) (G : fm_MG) (pb : Nat × Nat) {I : fm_MI} {D : fk_D} {f : Nat} (hD : fk_mC I D) (hf : f < 4) (ht : D.1 f = true) (h6 : fk_w6 I) :
    fmC_firstFault_p I J G pb (Int32.ofNat f) ∧ ∃ I', fmC_firstFault_f I J G pb (Int32.ofNat f) = (fk_code (fk_chk D f (D.2.2.2.2.2.1 f) 0 (fk_k0 D f)), I', (1, 0)) ∧ fk_S I I' f 40 (fk_x (fk_chk D f (D.2.2.2.2.2.1 f) 0 (fk_k0 D f))) := by
  obtain ⟨-, -, hg⟩ := hD f hf
  obtain ⟨-, -, -, -, -, hrs, -, -, hs40, -, -⟩ := hg ht
  unfold fmC_firstFault_p fmC_firstFault_f fm_let
  have hc1 : (fm_u (fm_u (fm_u (fm_u I 13 0 1 (Int32.ofNat f)) 13 0 2 0) 13 0 4 0) 13 0 6 0) 13 0 1 = Int32.ofNat f := by simp only [fm_u_if]; simp
  have hcf : (Int32.ofNat f).toNatClampNeg = f := fk_cl (by omega)
  have hc2 : (fm_u (fm_u (fm_u (fm_u (fm_u I 13 0 1 (Int32.ofNat f)) 13 0 2 0) 13 0 4 0) 13 0 6 0) 6 f 0 0) 13 0 1 = Int32.ofNat f := by simp only [fm_u_if]; simp
  rw [hc1, hcf, hc2, hcf, hrs, show (0 : Int32).toNatClampNeg = 0 from rfl]
  have hS : fk_S I (fmR_open_f (fm_u (fm_u (fm_u (fm_u (fm_u I 13 0 1 (Int32.ofNat f)) 13 0 2 0) 13 0 4 0) 13 0 6 0) 6 f 0 0) 0 0 (D.2.2.2.1 f) 0 0 1) f 0 (.inr (fk_k0 D f)) := by
    unfold fmR_open_f
    refine ⟨⟨fun k i s q1 q2 q3 q4 => ?_, ?_, ⟨0, by omega, ?_⟩, ⟨0, by omega, ?_⟩, fun j hj => ?_⟩, ?_⟩
    · have : ¬ (k = 6 ∧ i = f) := by
        rintro ⟨rfl, rfl⟩
        exact q4 (by omega) (by omega) rfl
      simp only [fm_u_if]
      simp [q1, q3]
      intro a b; exact absurd ⟨a, b⟩ this
    · simp only [fm_u_if]; simp
    · simp only [fm_u_if]; simp
    · simp only [fm_u_if]; simp
    · simp only [fm_u_if]; simp
      by_cases hj0 : j = 0
      · simp [hj0]
      · simp [hj0]; exact h6 j hj
    · refine ⟨?_, ?_, by simp [fk_k0], trivial, by simp [fk_k0], by simp [fk_k0], ?_, ⟨?_, trivial⟩, ?_, ⟨Nat.le_refl _, trivial⟩, by simp [fk_k0], fun r hr => absurd hr (by show ¬ r < 0; omega)⟩
      · simp only [fm_u_if]; simp
      · simp only [fm_u_if]; simp [fk_k0]
      · simp only [fm_u_if]; simp [fk_k0]
      · simp only [fm_u_if]; simp [fk_b]
      · simp only [fm_u_if]; simp [fk_k0]
  generalize fmR_open_f (fm_u (fm_u (fm_u (fm_u (fm_u I 13 0 1 (Int32.ofNat f)) 13 0 2 0) 13 0 4 0) 13 0 6 0) 6 f 0 0) 0 0 (D.2.2.2.1 f) 0 0 1 = r at hS ⊢
  obtain ⟨p1, p2⟩ := fk_ffL J G pb (Int32.ofNat f) hD hf ht (D.2.2.2.2.2.1 f) 41 0 r _ (by omega) (by omega) hS
  refine ⟨⟨?_, (fk_in (n := 0) (by omega)).mpr (by omega), ?_, Or.inr rfl, p1⟩, p2⟩
  · unfold fmC_subject_p; rw [hc1]; exact (fk_in (by omega)).mpr hf
  · unfold fmC_subject_p; rw [hc2]; exact (fk_in (by omega)).mpr hf
