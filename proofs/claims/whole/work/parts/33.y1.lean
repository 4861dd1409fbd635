theorem fk_inF {o : Nat} (ho : o ≤ 30) : (fmD_in_f (Int32.ofNat o) 21 23 = 0) = ¬ (o = 21 ∨ o = 22 ∨ o = 23) := by
  have : ∀ o : Fin 31, (decide (fmD_in_f (Int32.ofNat o.1) 21 23 = 0)) = decide (¬ (o.1 = 21 ∨ o.1 = 22 ∨ o.1 = 23)) := by decide +kernel
  have h := this ⟨o, by omega⟩
  dsimp only at h
  exact propext ⟨fun q => of_decide_eq_true (h ▸ decide_eq_true q), fun q => of_decide_eq_true (h.symm ▸ decide_eq_true q)⟩
theorem fk_eqn {o k : Nat} (ho : o ≤ 1000) (hk : k ≤ 1000) : (Int32.ofNat o = Int32.ofNat k) = (o = k) := propext (fk_ie (by omega) (by omega))
theorem fk_e25 {o : Nat} (ho : o ≤ 1000) : (Int32.ofNat o = 25) = (o = 25) := fk_eqn (k := 25) ho (by omega)
theorem fk_e24 {o : Nat} (ho : o ≤ 1000) : (Int32.ofNat o = 24) = (o = 24) := fk_eqn (k := 24) ho (by omega)
theorem fk_e0 {o : Nat} (ho : o ≤ 1000) : (Int32.ofNat o = 0) = (o = 0) := fk_eqn (k := 0) ho (by omega)
set_option maxHeartbeats 4000000 in
theorem fk_scan {D : fk_D} {f : Nat} {K : fk_K} {I : fm_MI} {J : fm_MJ} {G : fm_MG} {pa pb : Nat × Nat} {ati oe : Int32} (hf : f < 4) (ht : D.1 f = true) (hD : fk_mD I D) (hg : fk_gd D f K) (hop : ∀ i, i < D.2.2.2.2.2.1 f → D.2.2.2.2.2.2.1 f i ≤ 30) (h40 : D.2.2.2.2.2.1 f ≤ 40) (hoe : oe = 0 ∨ oe = 1) {e : Nat} {r : List fk_F} (he : e < D.2.2.2.2.2.1 f) (hst : D.2.2.2.2.2.2.1 f e = 25 ∨ (D.2.2.2.2.2.2.1 f e = 24 ∧ oe = 1)) (hy : ∃ y, (fk_tr D f e).2.1 = y :: r) :
    ∀ (n j : Nat) (pre : List fk_F) (x : fk_F) (m : Nat), j + n = e → (fk_tr D f j).2.1 = pre ++ x :: r → (∀ j', j ≤ j' → j' < e → ∀ pre' x', (fk_tr D f j').2.1 = pre' ++ x' :: r → ¬ ((D.2.2.2.2.2.2.1 f j' = 25 ∨ (D.2.2.2.2.2.2.1 f j' = 24 ∧ oe = 1)) ∧ pre' = [])) → n < m →
      fmD_endOf_L8_p m I J G pa pb (Int32.ofNat f) ati oe (Int32.ofNat pre.length) (Int32.ofNat j) ∧ fmD_endOf_L8_f m I J G pa pb (Int32.ofNat f) ati oe (Int32.ofNat pre.length) (Int32.ofNat j) = Int32.ofNat e
  | n, j, pre, x, 0, _, _, _, hm => absurd hm (Nat.not_lt_zero n)
  | n, j, pre, x, m + 1, hj, hx, hno, hm => by
    have hjs : j < D.2.2.2.2.2.1 f := by omega
    have ho := hop j hjs
    obtain ⟨d1, d2, d3, d4, d5, d6⟩ := (hD f hf).2 ht
    obtain ⟨g25, -⟩ := d6 j hjs
    have hlen : pre.length ≤ 9 := by
      have := (fk_J_tr hg hop j (by omega)).2.2.2.1
      rw [hx] at this
      simp at this
      omega
    have e1 : (Int32.ofNat f).toNatClampNeg = f := fk_cl (by omega)
    have v1 : vp_in (Int32.ofNat f) 4 := (fk_in (by omega)).mpr hf
    have e2 := fk_f40 hf (show j < 40 by omega)
    have e3 : (Int32.ofNat (f * 40 + j)).toNatClampNeg = f * 40 + j := fk_cl (by omega)
    have v2 : vp_in (Int32.ofNat (f * 40 + j)) 160 := (fk_in (by omega)).mpr (by omega)
    have l1 : ¬ Int32.ofNat (D.2.2.2.2.2.1 f) ≤ Int32.ofNat j := fun q => absurd ((fk_le (by omega) (by omega)).mp q) (by omega)
    have s1 : Int32.ofNat j + 1 = Int32.ofNat (j + 1) := fk_s j
    have s2 : Int32.ofNat pre.length + 1 = Int32.ofNat (pre.length + 1) := fk_s _
    have s3 : ¬ pre.length = 0 → Int32.ofNat pre.length + (-1) = Int32.ofNat (pre.length - 1) := fun q => by
      rw [← fk_d (by omega)]; exact (Int32.sub_eq_add_neg _ _).symm
    cases n with
    | zero =>
      have hje : j = e := by omega
      subst hje
      obtain ⟨y, hy⟩ := hy
      have hp0 : pre.length = 0 := by
        rw [hy] at hx
        have := congrArg List.length hx
        simp only [List.length_cons, List.length_append] at this
        omega
      rw [hp0]
      constructor
      · unfold fmD_endOf_L8_p
        rw [e1, d4, e2, e3, g25, fk_e25 (by omega), fk_e24 (by omega)]
        refine ⟨v1, fun q => absurd q l1, fun _ => ⟨v2, fun _ => ⟨fun _ => trivial, fun q => ⟨fun z => ⟨fun w => ?_, fun _ => trivial⟩, fun z => ?_⟩⟩, fun q => absurd rfl q⟩⟩
        · rcases hst with hst | hst
          · exact absurd hst q
          · rw [hst.2] at w; exact absurd w (by decide)
        · rcases hst with hst | hst
          · exact absurd hst q
          · exact absurd hst.1 z
      · unfold fmD_endOf_L8_f
        rw [e1, d4, if_neg l1, e2, e3, g25, if_pos (show (Int32.ofNat 0 : Int32) = 0 from rfl)]
        rcases hst with hst | hst
        · rw [if_pos (by rw [hst]; rfl)]
        · rw [if_neg (by rw [hst.1]; decide), if_pos (by rw [hst.1]; rfl), if_neg (by rw [hst.2]; decide)]
    | succ n =>
      have hn := hno j (Nat.le_refl _) (by omega) pre x hx
      have hfo := (fk_tr_fo hg hop hjs).1
      rw [hx] at hfo
      rcases fk_sp hfo with ⟨a1, a2, -⟩ | ⟨a1, pre', x', hm', -, hdp, -⟩
      · exact absurd ⟨Or.inl a1, a2⟩ hn
      obtain ⟨i1, i2⟩ := fk_scan (J := J) (G := G) (pa := pa) (pb := pb) (ati := ati) hf ht hD hg hop h40 hoe he hst hy n (j + 1) pre' x' m (by omega) hm' (fun j' h1 h2 => hno j' (by omega) h2) (by omega)
      rw [hdp] at i1 i2
      unfold fk_dp at i1 i2
      have hin := fk_inF ho
      have hpe : pre = [] ↔ pre.length = 0 := by cases pre <;> simp
      by_cases h0 : pre.length = 0
      · have hpn : pre = [] := hpe.mpr h0
        have n25 : ¬ D.2.2.2.2.2.2.1 f j = 25 := fun q => hn ⟨Or.inl q, hpn⟩
        have n24 : D.2.2.2.2.2.2.1 f j = 24 → oe = 0 := fun q => by
          rcases hoe with z | z
          · exact z
          · exact absurd ⟨Or.inr ⟨q, z⟩, hpn⟩ hn
        rw [if_neg n25] at i1 i2
        rw [h0] at i1 i2 ⊢
        by_cases hb : D.2.2.2.2.2.2.1 f j = 21 ∨ D.2.2.2.2.2.2.1 f j = 22 ∨ D.2.2.2.2.2.2.1 f j = 23
        · rw [if_pos hb] at i1 i2
          have n24' : ¬ D.2.2.2.2.2.2.1 f j = 24 := by omega
          have s0 : (Int32.ofNat 0 : Int32) + 1 = Int32.ofNat (0 + 1) := rfl
          simp only [fmD_endOf_L8_p, fmD_endOf_L8_f, e1, v1, d4, l1, e2, e3, v2, g25, fk_e25 (show D.2.2.2.2.2.2.1 f j ≤ 1000 by omega), fk_e24 (show D.2.2.2.2.2.2.1 f j ≤ 1000 by omega), fk_e0 (show 0 ≤ 1000 by omega), n25, n24', fm_letE, fm_letT, hin, hb, s1, s0, i1, i2, ↓reduceIte, false_implies, true_implies, true_and, and_true, implies_true, not_true, not_false, and_self, not_true_eq_false, not_false_eq_true]
        · rw [if_neg hb] at i1 i2
          by_cases h24 : D.2.2.2.2.2.2.1 f j = 24
          · have hz := n24 h24
            subst hz
            rw [h24] at g25
            simp (config := {decide := true}) only [fmD_endOf_L8_p, fmD_endOf_L8_f, e1, v1, d4, l1, e2, e3, v2, g25, fm_letE, fm_letT, s1, i1, i2, ↓reduceIte, false_implies, true_implies, true_and, and_true, implies_true, not_true, not_false, and_self, not_true_eq_false, not_false_eq_true]
          · simp only [fmD_endOf_L8_p, fmD_endOf_L8_f, e1, v1, d4, l1, e2, e3, v2, g25, fk_e25 (show D.2.2.2.2.2.2.1 f j ≤ 1000 by omega), fk_e24 (show D.2.2.2.2.2.2.1 f j ≤ 1000 by omega), fk_e0 (show 0 ≤ 1000 by omega), n25, h24, fm_letE, fm_letT, hin, hb, s1, i1, i2, ↓reduceIte, false_implies, true_implies, true_and, and_true, implies_true, not_true, not_false, and_self, not_true_eq_false, not_false_eq_true]
      · have s3' := s3 h0
        by_cases hb : D.2.2.2.2.2.2.1 f j = 21 ∨ D.2.2.2.2.2.2.1 f j = 22 ∨ D.2.2.2.2.2.2.1 f j = 23
        · rw [if_pos hb] at i1 i2
          have n25 : ¬ D.2.2.2.2.2.2.1 f j = 25 := by omega
          simp only [fmD_endOf_L8_p, fmD_endOf_L8_f, e1, v1, d4, l1, e2, e3, v2, g25, fk_e25 (show D.2.2.2.2.2.2.1 f j ≤ 1000 by omega), fk_e0 (show pre.length ≤ 1000 by omega), h0, n25, fm_letE, fm_letT, hin, hb, s1, s2, i1, i2, ↓reduceIte, false_implies, true_implies, true_and, and_true, implies_true, not_true, not_false, and_self, not_true_eq_false, not_false_eq_true]
        · rw [if_neg hb] at i1 i2
          by_cases h25 : D.2.2.2.2.2.2.1 f j = 25
          · rw [if_pos h25] at i1 i2
            rw [h25] at g25
            simp (config := {decide := true}) only [fmD_endOf_L8_p, fmD_endOf_L8_f, e1, v1, d4, l1, e2, e3, v2, g25, fk_e0 (show pre.length ≤ 1000 by omega), h0, fm_letE, fm_letT, s1, s3', i1, i2, ↓reduceIte, false_implies, true_implies, true_and, and_true, implies_true, not_true, not_false, and_self, not_true_eq_false, not_false_eq_true]
          · rw [if_neg h25] at i1 i2
            simp only [fmD_endOf_L8_p, fmD_endOf_L8_f, e1, v1, d4, l1, e2, e3, v2, g25, fk_e25 (show D.2.2.2.2.2.2.1 f j ≤ 1000 by omega), fk_e0 (show pre.length ≤ 1000 by omega), h0, h25, fm_letE, fm_letT, hin, hb, s1, i1, i2, ↓reduceIte, false_implies, true_implies, true_and, and_true, implies_true, not_true, not_false, and_self, not_true_eq_false, not_false_eq_true]
def fk_top (D : fk_D) (K : Nat → fk_K) : List fk_en' → Prop
  | [] => True
  | (f, p, ts, fs) :: r => ((fk_tr D f p).1 = ts ∧ (fk_tr D f p).2.1 = fs ∧ fk_lv fs = true) ∧ fk_wt D K f r
def fk_RR (D : fk_D) (K : Nat → fk_K) (I : fm_MI) (J : fm_MJ) (G : fm_MG) (I' : fm_MI) (J' : fm_MJ) (G' : fm_MG) (es : List fk_en') : Prop := fk_Rn D K I J G I' J' G' es ∧ fk_sc D K I ∧ fk_mD I' D ∧ fk_top D K es
def fk_ud (I I' : fm_MI) : Prop := I 18 0 0 = I' 24 0 31 ∧ I 18 0 1 = I' 24 0 32
def fk_hm (D : fk_D) (f p c b0 ob tl fl : Nat) (I I' : fm_MI) : Prop :=
  (I 22 0 c = Int32.ofNat f ∧ I 23 0 c = Int32.ofNat (fk_tr D f p).2.2.1 ∧ I 18 0 5 = Int32.ofNat (c + 1) ∧ I 18 0 6 = Int32.ofNat (26 * c)) ∧
  (I' 42 0 c = Int32.ofNat f ∧ I' 43 0 c = Int32.ofNat p ∧ I' 44 0 c = Int32.ofNat b0 ∧ I' 47 0 c = Int32.ofNat ob) ∧
  (I' 24 0 29 = Int32.ofNat (c + 1) ∧ I' 24 0 28 = Int32.ofNat (b0 + D.2.2.1 f + tl) ∧ I' 24 0 30 = Int32.ofNat (ob + (fl - 1)) ∧ I' 24 0 18 = 0)
def fk_vd (D : fk_D) (f p c : Nat) (ts : List Int32) (fs : List fk_F) : Prop := c < 8 ∧ f < 4 ∧ D.1 f = true ∧ p ≤ D.2.2.2.2.2.1 f ∧ ts.length ≤ 20 ∧ 1 ≤ fs.length ∧ fs.length ≤ 9
theorem fk_at {D : fk_D} {K : Nat → fk_K} {I : fm_MI} {J : fm_MJ} {G : fm_MG} {I' : fm_MI} {J' : fm_MJ} {G' : fm_MG} {f p : Nat} {ts : List Int32} {fs : List fk_F} {r : List fk_en'} (h : fk_RR D K I J G I' J' G' ((f, p, ts, fs) :: r)) :
    fk_vd D f p r.length ts fs ∧ fk_hm D f p r.length (fk_ex D r).1 (fk_ex D r).2 ts.length fs.length I I' ∧ fk_ud I I' ∧ fk_pl D f r.length (fk_ex D r).1 ts (fk_cC J G) (fk_cC J G) (fk_cD J' G') (fk_cD J' G') (fk_cG J' G') ∧ fk_op I' (fk_ex D r).2 ((fk_ex D r).1 + D.2.2.1 f) fs ∧ fk_el D I I' (fk_cC J G) (fk_cD J' G') r ∧ ((fk_ex D r).1 ≤ 26 * r.length ∧ (fk_ex D r).2 ≤ 8 * r.length) ∧ fk_sc D K I ∧ fk_mD I' D ∧ fk_dk D := by
  obtain ⟨⟨⟨⟨a1, a2, a3, a4, a5, a6⟩, ⟨b1, b2⟩, ⟨c1, c2, c3, c4⟩, d, e, g, rest⟩, h8, i5, i6, j29, j28, j30, j18, u1, u2, gl⟩, hsc, hmD, htop⟩ := h
  have hdk := fk_dk_of hsc.1
  have hlen : ((f, p, ts, fs) :: r).length = r.length + 1 := rfl
  rw [hlen] at h8 i5 i6 j29
  exact ⟨⟨by omega, a1, a2, a3, a4, a5, a6⟩, ⟨⟨b1, b2, i5, i6 (by simp)⟩, ⟨c1, c2, c3, c4⟩, j29, j28, j30, j18⟩, ⟨u1, u2⟩, ⟨fun _ _ => rfl, fun _ _ => rfl, d, e, gl⟩, g, rest, fk_ex_le hdk rest, hsc, hmD, hdk⟩
theorem fk_mk {D : fk_D} {K : Nat → fk_K} {I I1 : fm_MI} {J1 : fm_MJ} {G1 : fm_MG} {I' I1' : fm_MI} {J1' : fm_MJ} {G1' : fm_MG} {C E : Nat → fk_cell} {f p : Nat} {ts : List Int32} {fs : List fk_F} {r : List fk_en'} (hdk : fk_dk D) (hel : fk_el D I I' C E r) (fa : ∀ k s, (k = 22 ∨ k = 23) → s < r.length → I1 k 0 s = I k 0 s) (fb : ∀ k s, (k = 42 ∨ k = 43 ∨ k = 44 ∨ k = 47) → s < r.length → I1' k 0 s = I' k 0 s) (fc : ∀ k s, (k = 45 ∨ k = 46) → s < (fk_ex D r).2 → I1' k 0 s = I' k 0 s)
    (hv : fk_vd D f p r.length ts fs) (hh : fk_hm D f p r.length (fk_ex D r).1 (fk_ex D r).2 ts.length fs.length I1 I1') (hu : fk_ud I1 I1') (hpl : fk_pl D f r.length (fk_ex D r).1 ts C (fk_cC J1 G1) E (fk_cD J1' G1') (fk_cG J1' G1')) (hop : fk_op I1' (fk_ex D r).2 ((fk_ex D r).1 + D.2.2.1 f) fs) : fk_Rn D K I1 J1 G1 I1' J1' G1' ((f, p, ts, fs) :: r) := by
  obtain ⟨hc, hf, ht, hp, h20, hl1, hl9⟩ := hv
  obtain ⟨⟨b1, b2, i5, i6⟩, ⟨c1, c2, c3, c4⟩, j29, j28, j30, j18⟩ := hh
  obtain ⟨q1, q2, q3, q4, q5⟩ := hpl
  have hlen : ((f, p, ts, fs) :: r).length = r.length + 1 := rfl
  refine ⟨⟨⟨hf, ht, hp, h20, hl1, hl9⟩, ⟨b1, b2⟩, ⟨c1, c2, c3, c4⟩, q3, q4, hop, fk_el_c hdk fa fb fc q1 q2 hel⟩, by rw [hlen]; omega, by rw [hlen]; exact i5, fun _ => by rw [hlen]; exact i6, by rw [hlen]; exact j29, j28, j30, j18, hu.1, hu.2, q5⟩
def fk_RL (D : fk_D) (K : Nat → fk_K) (f : Nat) (r : List fk_en') (I : fm_MI) (J : fm_MJ) (G : fm_MG) (I' : fm_MI) (J' : fm_MJ) (G' : fm_MG) (T : Nat) : Prop :=
  (r.length < 8 ∧ f < 4 ∧ D.1 f = true) ∧ fk_el D I I' (fk_cC J G) (fk_cD J' G') r ∧ fk_wt D K f r ∧ (I 22 0 r.length = Int32.ofNat f ∧ I 23 0 r.length = Int32.ofNat (K f).2.2.1 ∧ I 18 0 5 = Int32.ofNat (r.length + 1) ∧ I 18 0 6 = Int32.ofNat (26 * r.length)) ∧
  (I' 42 0 r.length = Int32.ofNat f ∧ I' 44 0 r.length = Int32.ofNat (fk_ex D r).1 ∧ I' 47 0 r.length = Int32.ofNat (fk_ex D r).2) ∧ (I' 24 0 29 = Int32.ofNat (r.length + 1) ∧ I' 24 0 28 = Int32.ofNat T ∧ I' 24 0 18 = 0) ∧ (T ≤ 260 ∧ (D.2.2.2.1 f ≠ 4 → (fk_ex D r).1 + 1 ≤ T ∧ fk_V (D.2.2.2.1 f) (fk_cC J G (26 * r.length + D.2.2.1 f)) (fk_cD J' G' (T - 1)))) ∧
  fk_ud I I' ∧ (∀ g, g < 4 → fk_V (Int32.ofNat g) (fk_cC J G (208 + g)) (fk_cG J' G' g)) ∧ fk_sc D K I ∧ fk_mD I' D
theorem fk_keep0 (I : fm_MI) (J : fm_MJ) (G : fm_MG) (h : Nat) : fmD_keep_f I J G 0 (Int32.ofNat h) = (fm_u I 24 0 28 (Int32.ofNat h), J, G) := by
  unfold fmD_keep_f
  rw [if_pos rfl]
  simp
theorem fk_keep1 {I : fm_MI} (J : fm_MJ) (G : fm_MG) {h T : Nat} (hT : 1 ≤ T) (hh : h < 1000) (hT2 : T < 1000) (h28 : I 24 0 28 = Int32.ofNat T) : fmD_keep_f I J G 1 (Int32.ofNat h) = (fm_u I 24 0 28 (Int32.ofNat (h + 1)), fm_u J 40 0 h (J 40 0 (T - 1)), fm_u G 41 0 h (G 41 0 (T - 1))) := by
  unfold fmD_keep_f
  rw [if_neg (by decide), h28, fk_d (by omega), fk_cl (by omega), fk_cl (by omega), fk_s]
theorem fk_leaveD {I : fm_MI} {J : fm_MJ} {G : fm_MG} {f c b0 ob T : Nat} {rs : Int32} (hc : c < 8) (hf : f < 4) (hb : b0 < 260) (h31 : I 31 0 f = rs) (h29 : I 24 0 29 = Int32.ofNat (c + 1)) (h44 : I 44 0 c = Int32.ofNat b0) (h47 : I 47 0 c = Int32.ofNat ob) (h28 : I 24 0 28 = Int32.ofNat T) (hT : rs ≠ 4 → 1 ≤ T ∧ T ≤ 260) :
    fmD_leave_p I J G (Int32.ofNat f) ∧ (fmD_leave_f I J G (Int32.ofNat f)).1 = fm_u (fm_u (fm_u I 24 0 28 (Int32.ofNat (b0 + if rs = 4 then 0 else 1))) 24 0 30 (Int32.ofNat ob)) 24 0 29 (Int32.ofNat c) ∧ fk_cD (fmD_leave_f I J G (Int32.ofNat f)).2.1 (fmD_leave_f I J G (Int32.ofNat f)).2.2 = (if rs = 4 then fk_cD J G else fk_up (fk_cD J G) b0 (fk_cD J G (T - 1))) ∧ fk_cG (fmD_leave_f I J G (Int32.ofNat f)).2.1 (fmD_leave_f I J G (Int32.ofNat f)).2.2 = fk_cG J G := by
  have e29 : I 24 0 29 - 1 = Int32.ofNat c := by rw [h29, fk_d (by omega)]; rfl
  have c29 : (Int32.ofNat c).toNatClampNeg = c := fk_cl (by omega)
  have v29 : vp_in (Int32.ofNat c) 10 := (fk_in (by omega)).mpr (by omega)
  have vf : vp_in (Int32.ofNat f) 4 := (fk_in (by omega)).mpr hf
  have cf : (Int32.ofNat f).toNatClampNeg = f := fk_cl (by omega)
  have k28 : ∀ (x : Int32), fm_u I 24 0 28 x 24 0 29 = I 24 0 29 := fun x => fk_ne3 _ _ (by omega)
  have k47 : ∀ (x : Int32) (s : Nat), fm_u I 24 0 28 x 47 0 s = I 47 0 s := fun x s => fk_ne _ _ (by omega)
  by_cases h4 : rs = 4
  · have hk : fmD_keep_f I J G 0 (I 44 0 c) = (fm_u I 24 0 28 (Int32.ofNat b0), J, G) := by rw [h44]; exact fk_keep0 I J G b0
    have hlv : fmD_leave_f I J G (Int32.ofNat f) = (fm_u (fm_u (fm_u I 24 0 28 (Int32.ofNat b0)) 24 0 30 (Int32.ofNat ob)) 24 0 29 (Int32.ofNat c), J, G) := by
      unfold fmD_leave_f
      rw [cf, h31, if_pos h4, e29, c29, hk, fm_letE]
      dsimp only
      rw [k28, e29, c29, k47, h47]
    rw [hlv, if_pos h4, if_pos h4]
    refine ⟨?_, rfl, rfl, rfl⟩
    unfold fmD_leave_p
    rw [cf, h31, e29, c29, hk]
    refine ⟨vf, fun _ => ⟨v29, ⟨fun _ => trivial, fun q => absurd rfl q⟩, fm_letQ ?_⟩, fun q => absurd h4 q⟩
    dsimp only
    rw [k28, e29]
    exact v29
  · obtain ⟨t1, t2⟩ := hT h4
    have hk : fmD_keep_f I J G 1 (I 44 0 c) = (fm_u I 24 0 28 (Int32.ofNat (b0 + 1)), fm_u J 40 0 b0 (J 40 0 (T - 1)), fm_u G 41 0 b0 (G 41 0 (T - 1))) := by rw [h44]; exact fk_keep1 J G t1 (by omega) (by omega) h28
    have hlv : fmD_leave_f I J G (Int32.ofNat f) = (fm_u (fm_u (fm_u I 24 0 28 (Int32.ofNat (b0 + 1))) 24 0 30 (Int32.ofNat ob)) 24 0 29 (Int32.ofNat c), fm_u J 40 0 b0 (J 40 0 (T - 1)), fm_u G 41 0 b0 (G 41 0 (T - 1))) := by
      unfold fmD_leave_f
      rw [cf, h31, if_neg h4, e29, c29, hk, fm_letE]
      dsimp only
      rw [k28, e29, c29, k47, h47]
    rw [hlv, if_neg h4, if_neg h4]
    refine ⟨?_, rfl, fk_cDB _ _ _ _ _, fk_cGD _ _ _ _ _⟩
    unfold fmD_leave_p
    rw [cf, h31, e29, c29, hk]
    have vt : vp_in (I 24 0 28 - 1) 260 := by rw [h28, fk_d (by omega)]; exact (fk_in (by omega)).mpr (by omega)
    have vb : vp_in (I 44 0 c) 260 := by rw [h44]; exact (fk_in (by omega)).mpr hb
    refine ⟨vf, fun q => absurd q h4, fun _ => ⟨v29, ⟨fun q => absurd q (by decide), fun _ => ⟨vt, vb, vt, vb⟩⟩, fm_letQ ?_⟩⟩
    dsimp only
    rw [k28, e29]
    exact v29
theorem fk_sc_k {D : fk_D} {K : Nat → fk_K} {I I1 : fm_MI} (h : fk_sc D K I) (hx : ∀ k i s, k ≠ 18 → k ≠ 22 → k ≠ 23 → I1 k i s = I k i s) : fk_sc D K I1 := fk_sc_fr h (fun k i s a b => hx k i s (by omega) (by omega) (by omega))
theorem fk_mD_k {D : fk_D} {I I1 : fm_MI} (h : fk_mD I D) (hx : ∀ k i s, k < 42 ∨ 47 < k → (k = 24 → s = 19) → I1 k i s = I k i s) : fk_mD I1 D := fk_mD_fr h (fun k i s a b => hx k i s (by omega) (by omega))
theorem fk_s26 (n : Nat) : Int32.ofNat (26 * (n + 1)) - 26 = Int32.ofNat (26 * n) := by
  have h : Int32.ofNat (26 * (n + 1)) - Int32.ofNat 26 = Int32.ofNat (26 * (n + 1) - 26) := fk_sb (by omega)
  rw [show 26 * (n + 1) - 26 = 26 * n by omega] at h
  exact h
theorem fk_lvJ {D : fk_D} {K : Nat → fk_K} {f T : Nat} {r : List fk_en'} {I : fm_MI} {J : fm_MJ} {G : fm_MG} {I' : fm_MI} {J' : fm_MJ} {G' : fm_MG} (h : fk_RL D K f r I J G I' J' G' T) {x : fm_MI × fm_MJ × fm_MG} (hx : x = if r.length = 0 then (fm_u I 18 0 5 (Int32.ofNat r.length), J, G) else fmM_backToCaller_f (fm_u I 18 0 5 (Int32.ofNat r.length)) J G f) {y : fm_MI × fm_MJ × fm_MG} (hy : y = fmD_leave_f I' J' G' (Int32.ofNat f)) :
    (0 < r.length → fmM_backToCaller_p (fm_u I 18 0 5 (Int32.ofNat r.length)) f) ∧ fk_ch I r.length f (K f).2.2.1 (K f).2.2.1 ∧ fmD_leave_p I' J' G' (Int32.ofNat f) ∧
    (r = [] → x.1 18 0 5 = 0 ∧ y.1 24 0 29 = 0 ∧ y.1 24 0 18 = 0 ∧ fk_ud x.1 y.1 ∧ (∀ g, g < 4 → fk_V (Int32.ofNat g) (fk_cC x.2.1 x.2.2 (208 + g)) (fk_cG y.2.1 y.2.2 g)) ∧ (D.2.2.2.1 f ≠ 4 → fk_V (D.2.2.2.1 f) (fk_cC x.2.1 x.2.2 (D.2.2.1 f)) (fk_cD y.2.1 y.2.2 0))) ∧
    (∀ g p ts fs r', r = (g, p, ts, fs) :: r' → fk_RR D K x.1 x.2.1 x.2.2 y.1 y.2.1 y.2.2 ((g, p, (if D.2.2.2.1 f = 4 then ts else D.2.2.2.1 f :: ts), fs) :: r')) := by
  obtain ⟨⟨hc, hf, ht⟩, hel, hwt, ⟨i22, i23, i5, i6⟩, ⟨j42, j44, j47⟩, ⟨j29, j28, j18⟩, ⟨hT, hV⟩, hud, hgl, hsc, hmD⟩ := h
  have hdk := fk_dk_of hsc.1
  obtain ⟨hx1, hx2⟩ := fk_ex_le hdk hel
  obtain ⟨hgd, k6, k40, krw⟩ := hsc.2 f hf ht
  obtain ⟨m1, m2, m3, m4, m5, m6, m7⟩ := hdk f hf ht
  have mC := (hsc.1 f hf).2.2 ht
  obtain ⟨z1, z2, z3, z4⟩ := fk_leaveD (J := J') (G := G') (f := f) hc hf (by omega) ((hmD f hf).2 ht).2.2.1 j29 j44 j47 j28 (fun q => ⟨by have := (hV q).1; omega, hT⟩)
  have hch : fk_ch I r.length f (K f).2.2.1 (K f).2.2.1 := ⟨hc, hf, i5, i22, i23, k6, by omega, by omega⟩
  rw [← hy] at z2 z3 z4
  have yI : ∀ k i s, k < 42 ∨ 47 < k → (k = 24 → s = 19) → y.1 k i s = I' k i s := fun k i s a b => by rw [z2, fk_ne3 _ _ (by omega), fk_ne3 _ _ (by omega), fk_ne3 _ _ (by omega)]
  have y24 : ∀ s, s ≠ 28 → s ≠ 29 → s ≠ 30 → y.1 24 0 s = I' 24 0 s := fun s a b c => by rw [z2, fk_ne3 _ _ (by omega), fk_ne3 _ _ (by omega), fk_ne3 _ _ (by omega)]
  have yk : ∀ k i s, k ≠ 24 → y.1 k i s = I' k i s := fun k i s a => by rw [z2, fk_ne _ _ a, fk_ne _ _ a, fk_ne _ _ a]
  cases r with
  | nil =>
    have hx' : x = (fm_u I 18 0 5 (Int32.ofNat 0), J, G) := hx
    refine ⟨fun q => absurd q (Nat.lt_irrefl 0), hch, z1, fun _ => ⟨by rw [hx']; dsimp only; rw [fk_u_eq]; rfl, by rw [z2, fk_u_eq]; rfl, by rw [y24 18 (by omega) (by omega) (by omega)]; exact j18, ⟨?_, ?_⟩, fun g hg => by rw [z4, hx']; exact hgl g hg, fun q => ?_⟩, fun g p ts fs r' q => by cases q⟩
    · rw [hx', y24 31 (by omega) (by omega) (by omega)]
      dsimp only
      rw [fk_ne3 _ _ (by omega)]
      exact hud.1
    · rw [hx', y24 32 (by omega) (by omega) (by omega)]
      dsimp only
      rw [fk_ne3 _ _ (by omega)]
      exact hud.2
    · rw [z3, if_neg q, hx']
      have e0 : (fk_ex D []).1 = 0 := rfl
      rw [e0, fk_up_eq]
      have := (hV q).2
      have e1 : 26 * ([] : List fk_en').length + D.2.2.1 f = D.2.2.1 f := by simp
      rw [e1] at this
      exact this
  | cons q0 r' =>
    obtain ⟨g, p, ts, fs⟩ := q0
    obtain ⟨⟨w1, w2, w3, w4, w5, w6⟩, hwt'⟩ := hwt
    obtain ⟨⟨a1, a2, a3, a4, a5, a6⟩, ⟨b1, b2⟩, ⟨c1, c2, c3, c4⟩, d, e, go, rest⟩ := hel
    obtain ⟨hgdg, kg6, kg40, kgrw⟩ := hsc.2 g a1 a2
    obtain ⟨n1, n2, n3, n4, n5, n6, n7⟩ := hdk g a1 a2
    have hlen : ((g, p, ts, fs) :: r').length = r'.length + 1 := rfl
    have hxne : ¬ (r'.length + 1 = 0) := by omega
    rw [hlen] at hx hc i22 i23 i5 i6 j42 j44 j47 j29 hV hch hx1 hx2
    rw [if_neg hxne] at hx
    have hex : fk_ex D ((g, p, ts, fs) :: r') = ((fk_ex D r').1 + D.2.2.1 g + ts.length, (fk_ex D r').2 + (fs.length - 1)) := rfl
    rw [hex] at j44 j47 hV hx1 hx2 z2 z3
    dsimp only at j44 j47 hV hx1 hx2 z2 z3
    obtain ⟨hx1', hx2'⟩ := fk_ex_le hdk rest
    have hJg := fk_J_tr hgdg n7 p a3
    have hG := (fk_G_tr hgdg n7 n5 p a3).2
    have hrl : (fk_tr D g p).2.2.1 ≤ (K g).2.2.1 := by
      obtain ⟨nn, hnn⟩ : ∃ nn, D.2.2.2.2.2.1 g = p + nn := ⟨D.2.2.2.2.2.1 g - p, by omega⟩
      have := (fk_stay hgdg n7 n5 (i := p) (p := (fk_tr D g p).2.2.1 - 1) (by omega) nn (by omega)).1
      rw [(fk_fin_r hgdg).1, hnn]
      exact this
    obtain ⟨r1, r2, r3, -⟩ := kgrw ((fk_tr D g p).2.2.1 - 1) (by omega)
    rw [w6] at r3
    have ht20 : (if D.2.2.2.1 f = 4 then ts else D.2.2.2.1 f :: ts).length ≤ 20 := by
      have := hJg.2.1
      rcases w4 with ⟨w4, w4'⟩ | ⟨w4, w4'⟩
      · rw [if_pos w4]; exact a4
      · rw [if_neg w4, ← w4']; exact this
    have xI5 : ∀ k i s, k ≠ 18 → x.1 k i s = I k i s := fun k i s a => by rw [hx, fk_back5, fk_ne _ _ a, fk_ne _ _ a]
    have x18 : ∀ s, s ≠ 5 → s ≠ 6 → x.1 18 0 s = I 18 0 s := fun s a b => by rw [hx, fk_back5, fk_ne3 _ _ (by omega), fk_ne3 _ _ (by omega)]
    have x5 : x.1 18 0 5 = Int32.ofNat (r'.length + 1) := by rw [hx, fk_back5, fk_ne3 _ _ (by omega), fk_u_eq]
    have x6 : x.1 18 0 6 = Int32.ofNat (26 * r'.length) := by
      rw [hx, fk_back5, fk_u_eq, fk_ne3 _ _ (by omega), i6]
      exact fk_s26 _
    have hback : fmM_backToCaller_p (fm_u I 18 0 5 (Int32.ofNat (r'.length + 1))) f ∧ fk_cC x.2.1 x.2.2 = (if D.2.2.2.1 f = 4 then fk_cC J G else fk_up (fk_cC J G) (26 * r'.length + D.2.2.1 g + ts.length) (fk_cC J G (26 * (r'.length + 1) + D.2.2.1 f))) := by
      have g0 : ∀ k i s, k ≠ 18 → fm_u I 18 0 5 (Int32.ofNat (r'.length + 1)) k i s = I k i s := fun k i s a => fk_ne _ _ a
      have g6 : fm_u I 18 0 5 (Int32.ofNat (r'.length + 1)) 18 0 6 = Int32.ofNat (26 * (r'.length + 1)) := by rw [fk_ne3 _ _ (by omega)]; exact i6
      have g5 : fm_u I 18 0 5 (Int32.ofNat (r'.length + 1)) 18 0 5 - 1 = Int32.ofNat r'.length := by rw [fk_u_eq, fk_d (by omega)]; rfl
      have cr : (Int32.ofNat r'.length).toNatClampNeg = r'.length := fk_cl (by omega)
      have vr : vp_in (Int32.ofNat r'.length) 8 := (fk_in (by omega)).mpr (by omega)
      have vg : vp_in (Int32.ofNat g) 4 := (fk_in (by omega)).mpr a1
      have cg : (Int32.ofNat g).toNatClampNeg = g := fk_cl (by omega)
      have e3 : Int32.ofNat (fk_tr D g p).2.2.1 - 1 = Int32.ofNat ((fk_tr D g p).2.2.1 - 1) := fk_d (by omega)
      have c3' : (Int32.ofNat ((fk_tr D g p).2.2.1 - 1)).toNatClampNeg = (fk_tr D g p).2.2.1 - 1 := fk_cl (by omega)
      have v3 : vp_in (Int32.ofNat ((fk_tr D g p).2.2.1 - 1)) 40 := (fk_in (by omega)).mpr (by omega)
      have ef : Int32.ofNat (26 * (r'.length + 1)) + Int32.ofNat (D.2.2.1 f) = Int32.ofNat (26 * (r'.length + 1) + D.2.2.1 f) := fk_add _ _
      have et : Int32.ofNat (26 * (r'.length + 1)) - 26 + Int32.ofNat (D.2.2.1 g + ts.length) = Int32.ofNat (26 * r'.length + D.2.2.1 g + ts.length) := by
        rw [show Int32.ofNat (26 * (r'.length + 1)) - 26 = Int32.ofNat (26 * r'.length) from fk_s26 _, fk_add]
        exact congrArg Int32.ofNat (by omega)
      obtain ⟨q1, q2, q3⟩ := fk_copy_v (a := 26 * (r'.length + 1) + D.2.2.1 f) (b := 26 * r'.length + D.2.2.1 g + ts.length) (by omega) (by omega) J G
      rw [hx]
      unfold fmM_backToCaller_p fmM_backToCaller_f
      rw [g0 2 f 3 (by omega), g0 2 f 2 (by omega), mC.2.2.2.2.2.1, mC.2.2.1, g6, g5, cr, g0 22 0 _ (by omega), g0 23 0 _ (by omega), b1, b2, cg, e3, c3', g0 9 _ _ (by omega), r3, ef, et]
      by_cases h4 : D.2.2.2.1 f = 4
      · rw [if_pos h4, if_pos h4]
        exact ⟨⟨fun _ => trivial, fun q => absurd h4 q⟩, rfl⟩
      · rw [if_neg h4, if_neg h4, q2, fm_letE]
        exact ⟨⟨fun q => absurd q h4, fun _ => ⟨vr, vg, vr, v3, q1⟩⟩, q3⟩
    refine ⟨fun _ => hback.1, hch, z1, fun q => (by cases q), fun g' p' ts' fs' r'' hq => ?_⟩
    cases hq
    have hpl0 : fk_pl D g r'.length (fk_ex D r').1 ts (fk_cC J G) (fk_cC J G) (fk_cD J' G') (fk_cD J' G') (fk_cG J' G') := ⟨fun _ _ => rfl, fun _ _ => rfl, d, e, hgl⟩
    have hpl1 : fk_pl D g r'.length (fk_ex D r').1 (if D.2.2.2.1 f = 4 then ts else D.2.2.2.1 f :: ts) (fk_cC J G) (fk_cC x.2.1 x.2.2) (fk_cD J' G') (fk_cD y.2.1 y.2.2) (fk_cG y.2.1 y.2.2) := by
      rw [hback.2, z3, z4]
      by_cases h4 : D.2.2.2.1 f = 4
      · rw [if_pos h4, if_pos h4, if_pos h4]; exact hpl0
      · rw [if_neg h4, if_neg h4, if_neg h4]
        rw [if_neg h4] at ht20
        exact fk_pl_push (by omega) n3 (by simp at ht20; omega) hpl0 (hV h4).2
    refine ⟨fk_mk hdk rest (fun k s a b => xI5 k 0 s (by omega)) (fun k s a b => yk k 0 s (by omega)) (fun k s a b => yk k 0 s (by omega)) ⟨by omega, a1, a2, a3, ht20, a5, a6⟩ ⟨⟨by rw [xI5 22 _ _ (by omega)]; exact b1, by rw [xI5 23 _ _ (by omega)]; exact b2, x5, x6⟩, ⟨by rw [yk 42 _ _ (by omega)]; exact c1, by rw [yk 43 _ _ (by omega)]; exact c2, by rw [yk 44 _ _ (by omega)]; exact c3, by rw [yk 47 _ _ (by omega)]; exact c4⟩, by rw [z2, fk_u_eq]; rfl, ?_, ?_, by rw [y24 18 (by omega) (by omega) (by omega)]; exact j18⟩ ⟨?_, ?_⟩ hpl1 (fk_op_c (fun j hj => ⟨yk 45 0 _ (by omega), yk 46 0 _ (by omega)⟩) go), fk_sc_k hsc (fun k i s a _ _ => xI5 k i s a), fk_mD_k hmD yI, ⟨⟨?_, w3, ?_⟩, hwt'⟩⟩
    · rw [z2, fk_ne3 _ _ (by omega), fk_ne3 _ _ (by omega), fk_u_eq]
      by_cases h4 : D.2.2.2.1 f = 4
      · rw [if_pos h4, if_pos h4]; rfl
      · rw [if_neg h4, if_neg h4]; rfl
    · rw [z2, fk_ne3 _ _ (by omega), fk_u_eq]
    · rw [x18 0 (by omega) (by omega), y24 31 (by omega) (by omega) (by omega)]; exact hud.1
    · rw [x18 1 (by omega) (by omega), y24 32 (by omega) (by omega) (by omega)]; exact hud.2
    · rcases w4 with ⟨w4, w4'⟩ | ⟨w4, w4'⟩
      · rw [if_pos w4]; exact w4'
      · rw [if_neg w4]; exact w4'
    · rw [← w3]; exact w2
def fk_cz (I : fm_MI) (J : fm_MJ) (G : fm_MG) (o : Nat) (a rg : Int32) : Nat × fm_MJ × fm_MG := if o ≤ 10 then (0, fmM_moveValues_f I J G (Int32.ofNat o) a rg) else fmM_compute_f J G (Int32.ofNat o) a rg
def fk_czp (I : fm_MI) (J : fm_MJ) (G : fm_MG) (o : Nat) (a rg : Int32) : Prop := if o ≤ 10 then fmM_moveValues_p I J (Int32.ofNat o) a rg else fmM_compute_p J G (Int32.ofNat o) a rg
theorem fk_wb4c {a : Int32} (h : fk_wb a 4 = true) : a = 0 ∨ a = 1 ∨ a = 2 ∨ a = 3 := by
  obtain ⟨h1, h2⟩ := fk_wbi h
  have h3 := fk_ofc h1
  have : a.toNatClampNeg = 0 ∨ a.toNatClampNeg = 1 ∨ a.toNatClampNeg = 2 ∨ a.toNatClampNeg = 3 := by omega
  rcases this with q | q | q | q <;> rw [q] at h3
  · exact Or.inl h3
  · exact Or.inr (Or.inl h3)
  · exact Or.inr (Or.inr (Or.inl h3))
  · exact Or.inr (Or.inr (Or.inr h3))
theorem fk_wb2c {a : Int32} (h : fk_wb a 2 = true) : a = 0 ∨ a = 1 := by
  obtain ⟨h1, h2⟩ := fk_wbi h
  have h3 := fk_ofc h1
  have : a.toNatClampNeg = 0 ∨ a.toNatClampNeg = 1 := by omega
  rcases this with q | q <;> rw [q] at h3
  · exact Or.inl h3
  · exact Or.inr h3
theorem fk_valop (HF : fk_FL) {D : fk_D} {f c b0 o n : Nat} {ts tm ts' : List Int32} {I I' : fm_MI} {J : fm_MJ} {G : fm_MG} {J' : fm_MJ} {G' : fm_MG} {a : Int32} (pa pb : Nat × Nat) (ati : Int32) (ho : o ≤ 20) (hf : f < 4) (ht : D.1 f = true) (hD : fk_mD I' D) (hy : fk_hy D f c b0 ts I I') (hk : fk_okn D f o a n = true) (hvi : fk_vi D f o a ts tm ts') (h20 : ts'.length ≤ 20) (hpl : fk_pl D f c b0 ts (fk_cC J G) (fk_cC J G) (fk_cD J' G') (fk_cD J' G') (fk_cG J' G')) :
    fk_czp I J G o a (Int32.ofNat (26 * c + D.2.2.1 f + tm.length)) ∧ fmD_perform_p I' J' G' pa pb (Int32.ofNat f) (Int32.ofNat o) a ati ∧ fk_rq D f c b0 ts' (fk_cC J G) (fk_cD J' G') I' (fk_cz I J G o a (Int32.ofNat (26 * c + D.2.2.1 f + tm.length))) (fmD_perform_f I' J' G' pa pb (Int32.ofNat f) (Int32.ofNat o) a ati) := by
  have hva : fk_wb a (D.2.2.1 f) = true → vp_in a 6 := fun q => by
    obtain ⟨q1, q2⟩ := fk_wbi q
    have := hy.2.1
    have h3 := fk_ofc q1
    rw [h3]
    exact (fk_in (by omega)).mpr (by omega)
  unfold fk_czp fk_cz
  have hlow : o ≤ 10 → (fmM_moveValues_p I J (Int32.ofNat o) a (Int32.ofNat (26 * c + D.2.2.1 f + tm.length)) ∧ fmD_perform_p I' J' G' pa pb (Int32.ofNat f) (Int32.ofNat o) a ati ∧ fk_rz D f c b0 ts' (fk_cC J G) (fk_cD J' G') I' (fmM_moveValues_f I J G (Int32.ofNat o) a (Int32.ofNat (26 * c + D.2.2.1 f + tm.length))) (fmD_perform_f I' J' G' pa pb (Int32.ofNat f) (Int32.ofNat o) a ati)) := by
    intro h10
    have hc : o = 0 ∨ o = 1 ∨ o = 2 ∨ o = 3 ∨ o = 4 ∨ o = 5 ∨ o = 6 ∨ o = 7 ∨ o = 8 ∨ o = 9 ∨ o = 10 := by omega
    rcases hc with rfl | rfl | rfl | rfl | rfl | rfl | rfl | rfl | rfl | rfl | rfl
    · exact fk_mv0 a pa pb ati hf ht hD hy hvi h20 hpl
    · exact fk_mv1 a pa pb ati hf ht hD hy hvi h20 hpl
    · exact fk_mv2 a pa pb ati hf ht hD hy (HF.2.2.2.2.2 a).2 hvi h20 hpl
    · exact fk_mv3 a pa pb ati hf ht hD hy (HF.2.2.2.2.2 a).1 hvi h20 hpl
    · exact fk_mv4 a pa pb ati hf ht hD hy (hva hk) hvi h20 hpl
    · exact fk_mv5 a pa pb ati hf ht hD hy (hva hk) hvi h20 hpl
    · exact fk_mv6 a pa pb ati hf ht hD hy (hva hk) hvi h20 hpl
    · exact fk_mv7 a pa pb ati hf ht hD hy hvi h20 hpl
    · exact fk_mv8 a pa pb ati hf ht hD hy hvi h20 hpl
    · exact fk_mv9 a pa pb ati hf ht hD hy hvi h20 hpl
    · exact fk_mv10 a pa pb ati hf ht hD hy hvi h20 hpl
  by_cases h10 : o ≤ 10
  · rw [if_pos h10, if_pos h10]
    obtain ⟨q1, q2, q3⟩ := hlow h10
    exact ⟨q1, q2, Or.inl ⟨rfl, q3⟩⟩
  · rw [if_neg h10, if_neg h10]
    have hA : ∀ o', (o' = 11 ∨ o' = 12 ∨ o' = 13 ∨ o' = 14) → o = o' → fk_wb a 4 = true ∧ ts = a :: a :: tm ∧ ts' = a :: tm → (fmM_compute_p J G (Int32.ofNat o) a (Int32.ofNat (26 * c + D.2.2.1 f + tm.length)) ∧ fmD_perform_p I' J' G' pa pb (Int32.ofNat f) (Int32.ofNat o) a ati ∧ fk_rq D f c b0 ts' (fk_cC J G) (fk_cD J' G') I' (fmM_compute_f J G (Int32.ofNat o) a (Int32.ofNat (26 * c + D.2.2.1 f + tm.length))) (fmD_perform_f I' J' G' pa pb (Int32.ofNat f) (Int32.ofNat o) a ati)) := fun o' ho' e hq => by
      subst e
      obtain ⟨w1, w2, w3⟩ := hq
      subst w2; subst w3
      rcases fk_wb4c w1 with z | z | z | z
      · exact fk_ar1 (o := o) pa pb ati (by omega) (Or.inl z) hy hpl
      · exact fk_ar1 (o := o) pa pb ati (by omega) (Or.inr z) hy hpl
      · exact fk_ar3 HF (o := o) pa pb ati ho' (Or.inl z) hy hpl
      · exact fk_ar3 HF (o := o) pa pb ati ho' (Or.inr z) hy hpl
    have hB : ∀ o', (o' = 15 ∨ o' = 16 ∨ o' = 17) → o = o' → fk_wb a 2 = true ∧ ts = a :: a :: tm ∧ ts' = a :: tm → (fmM_compute_p J G (Int32.ofNat o) a (Int32.ofNat (26 * c + D.2.2.1 f + tm.length)) ∧ fmD_perform_p I' J' G' pa pb (Int32.ofNat f) (Int32.ofNat o) a ati ∧ fk_rq D f c b0 ts' (fk_cC J G) (fk_cD J' G') I' (fmM_compute_f J G (Int32.ofNat o) a (Int32.ofNat (26 * c + D.2.2.1 f + tm.length))) (fmD_perform_f I' J' G' pa pb (Int32.ofNat f) (Int32.ofNat o) a ati)) := fun o' ho' e hq => by
      subst e
      obtain ⟨w1, w2, w3⟩ := hq
      subst w2; subst w3
      exact fk_ar1 (o := o) pa pb ati (by omega) (fk_wb2c w1) hy hpl
    have hC : ∀ o', (o' = 18 ∨ o' = 19) → o = o' → fk_wb a 4 = true ∧ ts = a :: a :: tm ∧ ts' = 0 :: tm → (fmM_compute_p J G (Int32.ofNat o) a (Int32.ofNat (26 * c + D.2.2.1 f + tm.length)) ∧ fmD_perform_p I' J' G' pa pb (Int32.ofNat f) (Int32.ofNat o) a ati ∧ fk_rq D f c b0 ts' (fk_cC J G) (fk_cD J' G') I' (fmM_compute_f J G (Int32.ofNat o) a (Int32.ofNat (26 * c + D.2.2.1 f + tm.length))) (fmD_perform_f I' J' G' pa pb (Int32.ofNat f) (Int32.ofNat o) a ati)) := fun o' ho' e hq => by
      subst e
      obtain ⟨w1, w2, w3⟩ := hq
      subst w2; subst w3
      exact fk_ar2 (o := o) pa pb ati ho' (fk_wb4c w1) hy hpl
    have hc : o = 11 ∨ o = 12 ∨ o = 13 ∨ o = 14 ∨ o = 15 ∨ o = 16 ∨ o = 17 ∨ o = 18 ∨ o = 19 ∨ o = 20 := by omega
    rcases hc with rfl | rfl | rfl | rfl | rfl | rfl | rfl | rfl | rfl | rfl
    · exact hA 11 (by omega) rfl hvi
    · exact hA 12 (by omega) rfl hvi
    · exact hA 13 (by omega) rfl hvi
    · exact hA 14 (by omega) rfl hvi
    · exact hB 15 (by omega) rfl hvi
    · exact hB 16 (by omega) rfl hvi
    · exact hB 17 (by omega) rfl hvi
    · exact hC 18 (by omega) rfl hvi
    · exact hC 19 (by omega) rfl hvi
    · obtain ⟨w1, w2, w3⟩ := (show fk_wb a 16 = true ∧ ts = (a / 4) :: tm ∧ ts' = (a - a / 4 * 4) :: tm from hvi)
      subst w2; subst w3
      obtain ⟨v1, v2⟩ := fk_div_wb w1
      obtain ⟨q1, q2, q3⟩ := fk_cvt HF (fk_wb4c v1) (fk_wb4c v2) hy hpl
      obtain ⟨⟨-, v29, -⟩, -⟩ := fk_un hy hpl
      obtain ⟨p1, p2⟩ := fk_pe20 (J := J') (G := G') pa pb (Int32.ofNat f) a ati v29 q2
      refine ⟨?_, p1, ?_⟩
      · unfold fmM_compute_p
        exact ⟨fun _ => q1, fun q => absurd rfl q⟩
      · rw [p2, fk_lE3]
        unfold fmM_compute_f
        rw [if_pos (show Int32.ofNat 20 = 20 from rfl), fm_letE]
        generalize fmM_convert_f J G (a / 4) (a - a / 4 * 4) (Int32.ofNat (26 * c + D.2.2.1 f + tm.length)) = z at q3 ⊢
        obtain ⟨z1, z2, z3⟩ := z
        dsimp only at q3 ⊢
        by_cases hz : z1 = 0
        · rw [if_pos hz]; rw [hz] at q3; exact q3
        · rw [if_neg hz]; exact q3
def fk_bot (f0 : Nat) : Nat → List fk_en' → Prop
  | f, [] => f = f0
  | _, (g, _) :: r => fk_bot f0 g r
def fk_gl (J : fm_MJ) (G : fm_MG) (J' : fm_MJ) (G' : fm_MG) : Prop := ∀ g, g < 4 → fk_V (Int32.ofNat g) (fk_cC J G (208 + g)) (fk_cG J' G' g)
def fk_nx (D : fk_D) (K : Nat → fk_K) (f0 : Nat) (w : Int32) (S : Nat × fm_MI × fm_MJ × fm_MG) (Y : fm_MI × fm_MJ × fm_MG) : Prop :=
  (S.1 = 0 ∧ S.2.1 18 0 0 = w ∧ ∃ f p ts fs r, fk_bot f0 f r ∧ fk_RR D K S.2.1 S.2.2.1 S.2.2.2 Y.1 Y.2.1 Y.2.2 ((f, p, ts, fs) :: r)) ∨
  ((S.1 = 2 ∨ S.1 = 3 ∨ S.1 = 4) ∧ Y.1 24 0 18 = Int32.ofNat S.1 ∧ fk_ud S.2.1 Y.1 ∧ fk_gl S.2.2.1 S.2.2.2 Y.2.1 Y.2.2) ∨
  (S.1 = 0 ∧ S.2.1 18 0 0 = w ∧ ∃ (f : Nat) (r : List fk_en') (T : Nat) (Z : fm_MI × fm_MJ × fm_MG), fk_bot f0 f r ∧ fk_RL D K f r S.2.1 S.2.2.1 S.2.2.2 Z.1 Z.2.1 Z.2.2 T ∧ (Y = fmD_leave_f Z.1 Z.2.1 Z.2.2 (Int32.ofNat f) ∨ (Y = Z ∧ Z.1 43 0 r.length = Int32.ofNat (D.2.2.2.2.2.1 f))))
def fk_AD (I I2 I' I3 : fm_MI) (c p : Nat) : Prop := (∀ k i s, (k = 18 → s ≠ 0) → I2 k i s = I k i s) ∧ I2 18 0 0 = I 18 0 0 + 1 ∧ (∀ k i s, (k = 24 → s ≠ 31) → (k = 43 → s ≠ c) → I3 k i s = I' k i s) ∧ I3 43 0 c = Int32.ofNat (p + 1) ∧ I3 24 0 31 = I' 24 0 31 + 1
theorem fk_AD_mk (I I' : fm_MI) (c p : Nat) : fk_AD I (fm_u I 18 0 0 (I 18 0 0 + 1)) I' (fm_u (fm_u I' 24 0 31 (I' 24 0 31 + 1)) 43 0 c (Int32.ofNat (p + 1))) c p :=
  ⟨fun k i s h => fk_ne3 _ _ h, fk_u_eq _, fun k i s h g => by rw [fk_ne3 _ _ g, fk_ne3 _ _ h], fk_u_eq _, by rw [fk_ne _ _ (by decide), fk_u_eq]⟩
theorem fk_pre {D : fk_D} {K : Nat → fk_K} {I : fm_MI} {J : fm_MJ} {G : fm_MG} {I' : fm_MI} {J' : fm_MJ} {G' : fm_MG} {f p : Nat} {ts : List Int32} {fs : List fk_F} {r : List fk_en'} (h : fk_RR D K I J G I' J' G' ((f, p, ts, fs) :: r)) (hp : p < D.2.2.2.2.2.1 f) :
    ∃ x l q, fs = x :: l ∧ fk_tr D f p = (ts, x :: l, q) ∧ fk_lv (x :: l) = true ∧ fk_cc ts ∧ x.2.2.1 ≤ ts.length ∧ fk_stp D f p (D.2.2.2.2.2.2.1 f p) (D.2.2.2.2.2.2.2 f p) (ts, x :: l, q) = .inr (fk_tr D f (p + 1)) ∧ D.2.2.2.2.2.2.1 f p ≤ 30 ∧ (I' 25 0 (f * 40 + p) = Int32.ofNat (D.2.2.2.2.2.2.1 f p) ∧ I' 26 0 (f * 40 + p) = D.2.2.2.2.2.2.2 f p ∧ I' 27 0 f = Int32.ofNat (D.2.2.2.2.2.1 f)) ∧ fk_gd D f (K f) ∧ D.2.2.2.2.2.1 f ≤ 40 ∧ (∀ i, i < D.2.2.2.2.2.1 f → D.2.2.2.2.2.2.1 f i ≤ 30) ∧ fk_wt D K f r := by
  obtain ⟨⟨hc, hf, ht, hp', h20, hl1, hl9⟩, hhm, hud, hpl, hop, hel, hex, hsc, hmD, hdk⟩ := fk_at h
  obtain ⟨-, -, -, ⟨t1, t2, t3⟩, hwt⟩ := h
  obtain ⟨m1, m2, m3, m4, m5, m6, m7⟩ := hdk f hf ht
  obtain ⟨hgd, k6, k40, krw⟩ := hsc.2 f hf ht
  obtain ⟨d1, d2, d3, d4, d5, d6⟩ := (hmD f hf).2 ht
  obtain ⟨g25, g26⟩ := d6 p hp
  have hJ := fk_J_tr hgd m7 p (by omega)
  have hCv := fk_Cv_tr hdk hf ht hgd p (by omega)
  cases fs with
  | nil => simp at hl1
  | cons x l =>
    have htr : fk_tr D f p = (ts, x :: l, (fk_tr D f p).2.2) := by
      generalize fk_tr D f p = z at t1 t2
      obtain ⟨z1, z2, z3⟩ := z
      dsimp only at t1 t2
      rw [t1, t2]
    refine ⟨x, l, (fk_tr D f p).2.2, rfl, htr, t3, ?_, ?_, ?_, m7 p hp, ⟨g25, g26, d4⟩, hgd, m5, m7, hwt⟩
    · rw [← t1]; exact hCv.1 (by rw [t2]; exact t3)
    · have := hJ.1
      rw [t1, t2] at this
      exact this.1
    · rw [← htr]; exact hgd.1 p hp
theorem fk_rowS {D : fk_D} {K : Nat → fk_K} {I : fm_MI} {f p : Nat} {ts tm : List Int32} {x : fk_F} {l : List fk_F} {q : Nat × fk_R} {op a : Int32} (hs : fk_sc D K I) (hf : f < 4) (ht : D.1 f = true) (hp : p < D.2.2.2.2.2.1 f) (htr : fk_tr D f p = (ts, x :: l, q)) (hl : fk_lv (x :: l) = true) (ho : D.2.2.2.2.2.2.1 f p ≠ 21 ∧ D.2.2.2.2.2.2.1 f p ≠ 22 ∧ D.2.2.2.2.2.2.1 f p ≠ 25) (hq : (fk_tr D f (p + 1)).2.2 = (fk_row (D.2.2.1 f) op a (tm, x :: l, q)).2.2) :
    q.1 < 40 ∧ (fk_tr D f (p + 1)).2.2.1 = q.1 + 1 ∧ I 7 f q.1 = op ∧ I 8 f q.1 = a ∧ I 9 f q.1 = Int32.ofNat (D.2.2.1 f + tm.length) ∧ I 10 f q.1 = -1 ∧ I 11 f q.1 = (K f).2.2.2.2.2.2.2.1 q.1 ∧ (K f).2.2.2.2.2.1 q.1 = Int32.ofNat (D.2.2.1 f + tm.length) ∧ q.1 < (K f).2.2.1 := by
  have e1 : (fk_tr D f p).2.2 = q := by rw [htr]
  obtain ⟨a1, a2, a3, a4, a5, a6, a7, a8, a9⟩ := fk_rowC hs hf ht hp (by rw [htr]; exact hl) ho
  obtain ⟨b1, b2, b3, b4, b5, b6⟩ := fk_row_new (D.2.2.1 f) op a tm (x :: l) q hl
  rw [e1] at a1 a2 a3 a4 a5 a6 a7 a8 a9
  rw [hq] at a4 a5 a6 a7 a9
  exact ⟨a1, a2, a4.trans b1, a5.trans b2, a6.trans b3, a7.trans b4, a8, a9.trans b3, a3⟩
theorem fk_re {D : fk_D} {K : Nat → fk_K} {I : fm_MI} {J : fm_MJ} {G : fm_MG} {I' : fm_MI} {J' : fm_MJ} {G' : fm_MG} {f p : Nat} {ts : List Int32} {fs : List fk_F} {r : List fk_en'} {I1 : fm_MI} {J1 : fm_MJ} {G1 : fm_MG} {I1' : fm_MI} {J1' : fm_MJ} {G1' : fm_MG} {p' : Nat} {ts' : List Int32} {fs' : List fk_F} (h : fk_RR D K I J G I' J' G' ((f, p, ts, fs) :: r))
    (hC : ∀ k i s, (k = 18 → s ≠ 0) → (k = 23 → s ≠ r.length) → I1 k i s = I k i s) (hC23 : I1 23 0 r.length = Int32.ofNat (fk_tr D f p').2.2.1)
    (hD : ∀ k i s, (k = 24 → s ≠ 28 ∧ s ≠ 30 ∧ s ≠ 31) → (k = 43 → s ≠ r.length) → (k = 45 ∨ k = 46 → s < (fk_ex D r).2) → I1' k i s = I' k i s) (hD43 : I1' 43 0 r.length = Int32.ofNat p') (hD28 : I1' 24 0 28 = Int32.ofNat ((fk_ex D r).1 + D.2.2.1 f + ts'.length)) (hD30 : I1' 24 0 30 = Int32.ofNat ((fk_ex D r).2 + (fs'.length - 1))) (hu : I1 18 0 0 = I1' 24 0 31)
    (hpl : fk_pl D f r.length (fk_ex D r).1 ts' (fk_cC J G) (fk_cC J1 G1) (fk_cD J' G') (fk_cD J1' G1') (fk_cG J1' G1')) (hop : fk_op I1' (fk_ex D r).2 ((fk_ex D r).1 + D.2.2.1 f) fs')
    (hp' : p' ≤ D.2.2.2.2.2.1 f) (h1 : (fk_tr D f p').1 = ts') (h2 : (fk_tr D f p').2.1 = fs') (h3 : fk_lv fs' = true) : fk_RR D K I1 J1 G1 I1' J1' G1' ((f, p', ts', fs') :: r) := by
  have h0 := h
  obtain ⟨⟨hc, hf, ht, hp0, h20, hl1, hl9⟩, ⟨⟨b1, b2, i5, i6⟩, ⟨c1, c2, c3, c4⟩, j29, j28, j30, j18⟩, hud, -, -, hel, hex, hsc, hmD, hdk⟩ := fk_at h0
  obtain ⟨-, -, -, -, hwt⟩ := h
  obtain ⟨m1, m2, m3, m4, m5, m6, m7⟩ := hdk f hf ht
  obtain ⟨hgd, -⟩ := hsc.2 f hf ht
  have hJ := fk_J_tr hgd m7 p' hp'
  refine ⟨fk_mk hdk hel (fun k s a b => hC k 0 s (by omega) (by omega)) (fun k s a b => hD k 0 s (by omega) (by omega) (by omega)) (fun k s a b => hD k 0 s (by omega) (by omega) (by omega)) ⟨hc, hf, ht, hp', ?_, ?_, ?_⟩ ⟨⟨?_, hC23, ?_, ?_⟩, ⟨?_, hD43, ?_, ?_⟩, ?_, hD28, hD30, ?_⟩ ⟨hu, ?_⟩ hpl hop, fk_sc_k hsc (fun k i s a1 a2 a3 => hC k i s (by omega) (by omega)), fk_mD_k hmD (fun k i s a1 a2 => hD k i s (by omega) (by omega) (by omega)), ⟨h1, h2, h3⟩, hwt⟩
  · rw [← h1]; exact hJ.2.1
  · rw [← h2]; exact hJ.2.2.1
  · rw [← h2]; exact hJ.2.2.2.1
  · rw [hC 22 0 _ (by omega) (by omega)]; exact b1
  · rw [hC 18 0 5 (by omega) (by omega)]; exact i5
  · rw [hC 18 0 6 (by omega) (by omega)]; exact i6
  · rw [hD 42 0 _ (by omega) (by omega) (by omega)]; exact c1
  · rw [hD 44 0 _ (by omega) (by omega) (by omega)]; exact c3
  · rw [hD 47 0 _ (by omega) (by omega) (by omega)]; exact c4
  · rw [hD 24 0 29 (by omega) (by omega) (by omega)]; exact j29
  · rw [hD 24 0 18 (by omega) (by omega) (by omega)]; exact j18
  · rw [hC 18 0 1 (by omega) (by omega), hD 24 0 32 (by omega) (by omega) (by omega)]; exact hud.2
theorem fk_st20 (HF : fk_FL) {D : fk_D} {K : Nat → fk_K} {I : fm_MI} {J : fm_MJ} {G : fm_MG} {I' : fm_MI} {J' : fm_MJ} {G' : fm_MG} {f p : Nat} {ts : List Int32} {fs : List fk_F} {r : List fk_en'} {f0 : Nat} {I2 I3 : fm_MI} (pa pa' pb' : Nat × Nat) (h : fk_RR D K I J G I' J' G' ((f, p, ts, fs) :: r)) (hb0 : fk_bot f0 f r) (hp : p < D.2.2.2.2.2.1 f) (ho : D.2.2.2.2.2.2.1 f p ≤ 20) (hA : fk_AD I I2 I' I3 r.length p) :
    fmM_step_p I2 J G pa ∧ fmD_perform_p I3 J' G' pa' pb' (Int32.ofNat f) (Int32.ofNat (D.2.2.2.2.2.2.1 f p)) (D.2.2.2.2.2.2.2 f p) (Int32.ofNat p) ∧ fk_nx D K f0 (I2 18 0 0) (fmM_step_f I2 J G pa) (fmD_perform_f I3 J' G' pa' pb' (Int32.ofNat f) (Int32.ofNat (D.2.2.2.2.2.2.1 f p)) (D.2.2.2.2.2.2.2 f p) (Int32.ofNat p)) := by
  have hRR := h
  obtain ⟨x, l, q, rfl, htr, hlv, hcc, hbs, hst, h30, ⟨g25, g26, g27⟩, hgd, h40, hop30, hwt⟩ := fk_pre h hp
  obtain ⟨⟨hc, hf, ht, hp0, h20, hl1, hl9⟩, ⟨⟨b1, b2, i5, i6⟩, ⟨c1, c2, c3, c4⟩, j29, j28, j30, j18⟩, hud, hpl, hop, hel, ⟨hex1, hex2⟩, hsc, hmD, hdk⟩ := fk_at h
  obtain ⟨m1, m2, m3, m4, m5, m6, m7⟩ := hdk f hf ht
  obtain ⟨A1, A2, A3, A4, A5⟩ := hA
  obtain ⟨tm, hvi, hk', hbm, hcc'⟩ := fk_inv hdk hf ht hst (Or.inl ho) hlv hcc hbs
  have hJ := fk_J_tr hgd m7 (p + 1) (by omega)
  have hsc2 : fk_sc D K I2 := fk_sc_k hsc (fun k i s a b c => A1 k i s (by omega))
  obtain ⟨r1, r2, r3, r4, r5, r6, r7, r8, r9⟩ := fk_rowS hsc2 hf ht hp htr hlv (by omega) (show (fk_tr D f (p + 1)).2.2 = _ by rw [hk'])
  have htm : tm.length ≤ 20 := by
    obtain ⟨-, hok⟩ : True ∧ True := ⟨trivial, trivial⟩
    have := hvi
    revert this
    unfold fk_vi
    dsimp only
    split
    all_goals first
      | (rintro ⟨-, rfl, -⟩; omega)
      | (rintro ⟨-, rfl, -⟩; simp at h20; omega)
      | (rintro ⟨t, rfl, -⟩; simp at h20; omega)
      | (exfalso; omega)
  have hrg : I2 18 0 6 + I2 9 f q.1 = Int32.ofNat (26 * r.length + D.2.2.1 f + tm.length) := by
    rw [A1 18 0 6 (by omega), i6, r5, fk_add]
    exact congrArg Int32.ofNat (by omega)
  have b2' : I2 23 0 r.length = Int32.ofNat q.1 := by
    rw [A1 23 0 _ (by omega), b2, htr]
  obtain ⟨s1, s2, -⟩ := fk_stepC (J := J) (G := G) pa hc hf r1 (by omega) (by rw [A1 18 0 5 (by omega)]; exact i5) (by rw [A1 22 0 _ (by omega)]; exact b1) b2' r3 r4 hrg
  have hy : fk_hy D f r.length (fk_ex D r).1 ts (fm_u I2 23 0 r.length (Int32.ofNat (q.1 + 1))) I3 := by
    refine ⟨hc, m3, hex1, h20, ?_, ?_, ?_, ?_⟩
    · rw [fk_ne _ _ (by decide), A1 18 0 6 (by omega)]; exact i6
    · rw [A3 24 0 28 (by omega) (by omega)]; exact j28
    · rw [A3 24 0 29 (by omega) (by omega)]; exact j29
    · rw [A3 44 0 _ (by omega) (by omega)]; exact c3
  have hok : fk_okn D f (D.2.2.2.2.2.2.1 f p) (D.2.2.2.2.2.2.2 f p) (x :: l).length = true := by
    unfold fk_stp at hst
    dsimp only at hst
    cases hz : fk_okn D f (D.2.2.2.2.2.2.1 f p) (D.2.2.2.2.2.2.2 f p) (x :: l).length
    · rw [hz] at hst; cases hst
    · rfl
  have hmD3 : fk_mD I3 D := fk_mD_k hmD (fun k i s a b => A3 k i s (by omega) (by omega))
  obtain ⟨v1, v2, v3⟩ := fk_valop HF (J := J) (G := G) (J' := J') (G' := G') pa' pb' (Int32.ofNat p) ho hf ht hmD3 hy hok hvi hJ.2.1 hpl
  have l10 : (D.2.2.2.2.2.2.1 f p ≤ 10) ↔ ¬ (10 : Int32) < Int32.ofNat (D.2.2.2.2.2.2.1 f p) := by
    rw [show (10 : Int32) = Int32.ofNat 10 from rfl, fk_lt (by omega) (by omega)]; omega
  have l20 : ¬ (20 : Int32) < Int32.ofNat (D.2.2.2.2.2.2.1 f p) := by
    rw [show (20 : Int32) = Int32.ofNat 20 from rfl, fk_lt (by omega) (by omega)]; omega
  have hstep : (fmM_step_p I2 J G pa) ∧ fmM_step_f I2 J G pa = ((fk_cz (fm_u I2 23 0 r.length (Int32.ofNat (q.1 + 1))) J G (D.2.2.2.2.2.2.1 f p) (D.2.2.2.2.2.2.2 f p) (Int32.ofNat (26 * r.length + D.2.2.1 f + tm.length))).1, fm_u I2 23 0 r.length (Int32.ofNat (q.1 + 1)), (fk_cz (fm_u I2 23 0 r.length (Int32.ofNat (q.1 + 1))) J G (D.2.2.2.2.2.2.1 f p) (D.2.2.2.2.2.2.2 f p) (Int32.ofNat (26 * r.length + D.2.2.1 f + tm.length))).2) := by
    by_cases h10 : D.2.2.2.2.2.2.1 f p ≤ 10
    · obtain ⟨z1, z2⟩ := s1 (l10.mp h10)
      unfold fk_czp at v1
      rw [if_pos h10] at v1
      rw [z2]
      unfold fk_cz
      rw [if_pos h10]
      exact ⟨z1.mpr v1, rfl⟩
    · have h10' : (10 : Int32) < Int32.ofNat (D.2.2.2.2.2.2.1 f p) := Classical.byContradiction (fun w => h10 (l10.mpr w))
      obtain ⟨z1, z2⟩ := s2 h10' l20
      unfold fk_czp at v1
      rw [if_neg h10] at v1
      rw [z2]
      unfold fk_cz
      rw [if_neg h10]
      exact ⟨z1.mpr v1, rfl⟩
  refine ⟨hstep.1, v2, ?_⟩
  rw [hstep.2]
  generalize fk_cz (fm_u I2 23 0 r.length (Int32.ofNat (q.1 + 1))) J G (D.2.2.2.2.2.2.1 f p) (D.2.2.2.2.2.2.2 f p) (Int32.ofNat (26 * r.length + D.2.2.1 f + tm.length)) = z at v3 ⊢
  generalize fmD_perform_f I3 J' G' pa' pb' (Int32.ofNat f) (Int32.ofNat (D.2.2.2.2.2.2.1 f p)) (D.2.2.2.2.2.2.2 f p) (Int32.ofNat p) = y at v3 ⊢
  rcases v3 with ⟨z0, w1, w2, w3⟩ | v3
  · refine Or.inl ⟨z0, by dsimp only; rw [fk_ne _ _ (by decide)], f, p + 1, (fk_tr D f (p + 1)).1, x :: l, r, hb0, ?_⟩
    dsimp only
    have w1' : ∀ k i s, (k = 24 → s ≠ 28) → y.1 k i s = I3 k i s := fun k i s a => w1 k i s (fun ⟨e1, e2, e3⟩ => a e1 e3)
    refine fk_re hRR (fun k i s a b => by rw [fk_ne3 _ _ b, A1 k i s a]) ?_ (fun k i s a b c => by rw [w1' k i s (by omega), A3 k i s (by omega) b]) ?_ w2 ?_ ?_ w3 ?_ (by omega) rfl (by rw [hk']) hlv
    · rw [fk_u_eq, r2]
    · rw [w1' _ _ _ (by omega), A4]
    · rw [w1' _ _ _ (by omega), A3 _ _ _ (by omega) (by omega), j30]
    · rw [fk_ne _ _ (by decide), w1' _ _ _ (by omega), A2, A5, hud.1]
    · refine fk_op_c (fun j hj => ?_) hop
      rw [w1' _ _ _ (by omega), w1' _ _ _ (by omega), A3 _ _ _ (by omega) (by omega), A3 _ _ _ (by omega) (by omega)]
      exact ⟨rfl, rfl⟩
  · obtain ⟨z3, w1, w2, w3⟩ := v3
    refine Or.inr (Or.inl ⟨Or.inr (Or.inl z3), by dsimp only; rw [w2, z3]; rfl, ⟨?_, ?_⟩, w3⟩)
    · dsimp only
      rw [fk_ne _ _ (by decide), w1 24 0 31 (by omega), A2, A5, hud.1]
    · dsimp only
      rw [fk_ne _ _ (by decide), w1 24 0 32 (by omega), A1 _ _ _ (by omega), A3 _ _ _ (by omega) (by omega), hud.2]
