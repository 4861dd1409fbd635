abbrev fk_cell : Type := Int64 × UInt64
def fk_fi (x : UInt64) : Prop := vf_n64 x ∧ fmD_large_f x = 0
def fk_flt (x : UInt64) : Prop := fk_fi x ∧ vf_n32 (FP.d2f x) ∧ FP.f2d (FP.d2f x) = x
def fk_V (t : Int32) (u v : fk_cell) : Prop := (t = 0 → u.1 = v.1 ∧ v.1.toInt32.toInt64 = v.1) ∧ (t = 1 → u.1 = v.1) ∧ (t = 2 → u.2 = v.2 ∧ fk_flt v.2) ∧ (t = 3 → u.2 = v.2 ∧ fk_fi v.2)
def fk_cC (J : fm_MJ) (G : fm_MG) (n : Nat) : fk_cell := (J 20 0 n, G 21 0 n)
def fk_cD (J : fm_MJ) (G : fm_MG) (n : Nat) : fk_cell := (J 40 0 n, G 41 0 n)
def fk_cG (J : fm_MJ) (G : fm_MG) (n : Nat) : fk_cell := (J 33 0 n, G 34 0 n)
def fk_vs (C E : Nat → fk_cell) (b c : Nat) : List Int32 → Prop
  | [] => True
  | t :: r => fk_V t (C (b + r.length)) (E (c + r.length)) ∧ fk_vs C E b c r
theorem fk_vs_c {C C' E E' : Nat → fk_cell} {b c : Nat} : ∀ {l : List Int32}, (∀ j, j < l.length → C' (b + j) = C (b + j)) → (∀ j, j < l.length → E' (c + j) = E (c + j)) → fk_vs C E b c l → fk_vs C' E' b c l
  | [], _, _, _ => trivial
  | t :: r, h1, h2, h => ⟨by rw [h1 _ (by simp), h2 _ (by simp)]; exact h.1, fk_vs_c (fun j hj => h1 j (by simp; omega)) (fun j hj => h2 j (by simp; omega)) h.2⟩
theorem fk_vs_app {C E : Nat → fk_cell} {b c : Nat} : ∀ {ps tm : List Int32}, fk_vs C E b c (ps ++ tm) → fk_vs C E b c tm ∧ ∀ j t, ps[j]? = some t → fk_V t (C (b + tm.length + (ps.length - 1 - j))) (E (c + tm.length + (ps.length - 1 - j)))
  | [], tm, h => ⟨h, fun j t q => by simp at q⟩
  | p :: ps, tm, h => by
    obtain ⟨h1, h2⟩ := fk_vs_app h.2
    refine ⟨h1, fun j t q => ?_⟩
    cases j with
    | zero =>
      simp at q
      subst q
      have e1 : b + (ps ++ tm).length = b + tm.length + ((p :: ps).length - 1 - 0) := by simp; omega
      have e2 : c + (ps ++ tm).length = c + tm.length + ((p :: ps).length - 1 - 0) := by simp; omega
      rw [← e1, ← e2]
      exact h.1
    | succ j =>
      have q' : ps[j]? = some t := by simpa using q
      have hlt : j < ps.length := (List.getElem?_eq_some_iff.mp q').1
      have e : (p :: ps).length - 1 - (j + 1) = ps.length - 1 - j := by simp; omega
      rw [e]
      exact h2 j t q'
def fk_op (I : fm_MI) (ob hb : Nat) : List fk_F → Prop
  | [] => True
  | x :: r => (r ≠ [] → I 45 0 (ob + (r.length - 1)) = Int32.ofNat x.2.2.2.2.2.1 ∧ I 46 0 (ob + (r.length - 1)) = Int32.ofNat (hb + x.2.2.1)) ∧ fk_op I ob hb r
theorem fk_op_c {I I' : fm_MI} {ob hb : Nat} : ∀ {l : List fk_F}, (∀ j, j + 1 < l.length → I' 45 0 (ob + j) = I 45 0 (ob + j) ∧ I' 46 0 (ob + j) = I 46 0 (ob + j)) → fk_op I ob hb l → fk_op I' ob hb l
  | [], _, _ => trivial
  | x :: r, h, ⟨h1, h2⟩ => by
    refine ⟨fun hr => ?_, fk_op_c (fun j hj => h j (by simp; omega)) h2⟩
    have hl : 0 < r.length := by
      cases r with
      | nil => exact absurd rfl hr
      | cons _ _ => simp
    obtain ⟨a, b⟩ := h (r.length - 1) (by simp; omega)
    rw [a, b]
    exact h1 hr
theorem fk_op_sm {I : fm_MI} {ob hb : Nat} {x y : fk_F} {l : List fk_F} (hs : y.2.2.1 = x.2.2.1) (ha : y.2.2.2.2.2 = x.2.2.2.2.2) (h : fk_op I ob hb (x :: l)) : fk_op I ob hb (y :: l) := ⟨fun hr => by rw [hs, ha]; exact h.1 hr, h.2⟩
theorem fk_op_in {I : fm_MI} {ob hb : Nat} : ∀ {pre : List fk_F} {x : fk_F} {r : List fk_F}, fk_op I ob hb (pre ++ x :: r) → fk_op I ob hb (x :: r)
  | [], _, _, h => h
  | _ :: pre, _, _, h => fk_op_in h.2
abbrev fk_en' : Type := Nat × Nat × List Int32 × List fk_F
def fk_ex (D : fk_D) : List fk_en' → Nat × Nat
  | [] => (0, 0)
  | (f, _, ts, fs) :: r => ((fk_ex D r).1 + D.2.2.1 f + ts.length, (fk_ex D r).2 + (fs.length - 1))
def fk_el (D : fk_D) (I I' : fm_MI) (C E : Nat → fk_cell) : List fk_en' → Prop
  | [] => True
  | (f, p, ts, fs) :: r => (f < 4 ∧ D.1 f = true ∧ p ≤ D.2.2.2.2.2.1 f ∧ ts.length ≤ 20 ∧ 1 ≤ fs.length ∧ fs.length ≤ 9) ∧
    (I 22 0 r.length = Int32.ofNat f ∧ I 23 0 r.length = Int32.ofNat (fk_tr D f p).2.2.1) ∧
    (I' 42 0 r.length = Int32.ofNat f ∧ I' 43 0 r.length = Int32.ofNat p ∧ I' 44 0 r.length = Int32.ofNat (fk_ex D r).1 ∧ I' 47 0 r.length = Int32.ofNat (fk_ex D r).2) ∧
    (∀ j, j < D.2.2.1 f → fk_V (D.2.2.2.2.1 f j) (C (26 * r.length + j)) (E ((fk_ex D r).1 + j))) ∧
    fk_vs C E (26 * r.length + D.2.2.1 f) ((fk_ex D r).1 + D.2.2.1 f) ts ∧
    fk_op I' (fk_ex D r).2 ((fk_ex D r).1 + D.2.2.1 f) fs ∧ fk_el D I I' C E r
theorem fk_el_c {D : fk_D} {I I1 I' I1' : fm_MI} {C C1 E E1 : Nat → fk_cell} (hdk : fk_dk D) : ∀ {es : List fk_en'}, (∀ k s, (k = 22 ∨ k = 23) → s < es.length → I1 k 0 s = I k 0 s) → (∀ k s, (k = 42 ∨ k = 43 ∨ k = 44 ∨ k = 47) → s < es.length → I1' k 0 s = I' k 0 s) → (∀ k s, (k = 45 ∨ k = 46) → s < (fk_ex D es).2 → I1' k 0 s = I' k 0 s) → (∀ n, n < 26 * es.length → C1 n = C n) → (∀ n, n < (fk_ex D es).1 → E1 n = E n) → fk_el D I I' C E es → fk_el D I1 I1' C1 E1 es
  | [], _, _, _, _, _, _ => trivial
  | (f, p, ts, fs) :: r, h1, h2, h3, h4, h5, ⟨⟨a1, a2, a3, a4, a5, a6⟩, ⟨b1, b2⟩, ⟨c1, c2, c3, c4⟩, d, e, g, rest⟩ => by
    have hnl := (hdk f a1 a2).2.2.1
    have hx : (fk_ex D ((f, p, ts, fs) :: r)) = ((fk_ex D r).1 + D.2.2.1 f + ts.length, (fk_ex D r).2 + (fs.length - 1)) := rfl
    rw [hx] at h3 h5
    dsimp only at h3 h5
    have hlen : ((f, p, ts, fs) :: r).length = r.length + 1 := rfl
    rw [hlen] at h1 h2 h4
    refine ⟨⟨a1, a2, a3, a4, a5, a6⟩, ⟨(h1 _ _ (by omega) (by omega)).trans b1, (h1 _ _ (by omega) (by omega)).trans b2⟩, ⟨(h2 _ _ (by omega) (by omega)).trans c1, (h2 _ _ (by omega) (by omega)).trans c2, (h2 _ _ (by omega) (by omega)).trans c3, (h2 _ _ (by omega) (by omega)).trans c4⟩, fun j hj => ?_, ?_, ?_, ?_⟩
    · rw [h4 _ (by omega), h5 _ (by omega)]; exact d j hj
    · exact fk_vs_c (fun j hj => h4 _ (by omega)) (fun j hj => h5 _ (by omega)) e
    · exact fk_op_c (fun j hj => ⟨h3 _ _ (by omega) (by omega), h3 _ _ (by omega) (by omega)⟩) g
    · exact fk_el_c hdk (fun k s a b => h1 k s a (by omega)) (fun k s a b => h2 k s a (by omega)) (fun k s a b => h3 k s a (by omega)) (fun n hn => h4 n (by omega)) (fun n hn => h5 n (by omega)) rest
theorem fk_ex_le {D : fk_D} (hdk : fk_dk D) {I I' : fm_MI} {C E : Nat → fk_cell} : ∀ {es : List fk_en'}, fk_el D I I' C E es → (fk_ex D es).1 ≤ 26 * es.length ∧ (fk_ex D es).2 ≤ 8 * es.length
  | [], _ => ⟨Nat.le_refl _, Nat.le_refl _⟩
  | (f, p, ts, fs) :: r, ⟨⟨a1, a2, a3, a4, a5, a6⟩, _, _, _, _, _, rest⟩ => by
    have hnl := (hdk f a1 a2).2.2.1
    obtain ⟨h1, h2⟩ := fk_ex_le hdk rest
    have hx : (fk_ex D ((f, p, ts, fs) :: r)) = ((fk_ex D r).1 + D.2.2.1 f + ts.length, (fk_ex D r).2 + (fs.length - 1)) := rfl
    rw [hx]
    simp only [List.length_cons]
    constructor <;> omega
def fk_wt (D : fk_D) (K : Nat → fk_K) : Nat → List fk_en' → Prop
  | _, [] => True
  | h, (g, p, ts, fs) :: r => (1 ≤ p ∧ fk_lv (fk_tr D g p).2.1 = true ∧ (fk_tr D g p).2.1 = fs ∧ ((D.2.2.2.1 h = 4 ∧ (fk_tr D g p).1 = ts) ∨ (D.2.2.2.1 h ≠ 4 ∧ (fk_tr D g p).1 = D.2.2.2.1 h :: ts)) ∧ 1 ≤ (fk_tr D g p).2.2.1 ∧ (K g).2.2.2.2.2.1 ((fk_tr D g p).2.2.1 - 1) = Int32.ofNat (D.2.2.1 g + ts.length)) ∧ fk_wt D K g r
def fk_Rn (D : fk_D) (K : Nat → fk_K) (I : fm_MI) (J : fm_MJ) (G : fm_MG) (I' : fm_MI) (J' : fm_MJ) (G' : fm_MG) (es : List fk_en') : Prop :=
  fk_el D I I' (fk_cC J G) (fk_cD J' G') es ∧ es.length ≤ 8 ∧ I 18 0 5 = Int32.ofNat es.length ∧ (es ≠ [] → I 18 0 6 = Int32.ofNat (26 * (es.length - 1))) ∧ I' 24 0 29 = Int32.ofNat es.length ∧ I' 24 0 28 = Int32.ofNat (fk_ex D es).1 ∧ I' 24 0 30 = Int32.ofNat (fk_ex D es).2 ∧ I' 24 0 18 = 0 ∧ I 18 0 0 = I' 24 0 31 ∧ I 18 0 1 = I' 24 0 32 ∧ (∀ g, g < 4 → fk_V (Int32.ofNat g) (fk_cC J G (208 + g)) (fk_cG J' G' g))
def fk_sc (D : fk_D) (K : Nat → fk_K) (I : fm_MI) : Prop := fk_mC I D ∧ ∀ g, g < 4 → D.1 g = true → fk_gd D g (K g) ∧ I 6 g 0 = Int32.ofNat (K g).2.2.1 ∧ (K g).2.2.1 ≤ 40 ∧ fk_rws I g (K g).2.2.1 (K g).2.2.2
theorem fk_sc_fr {D : fk_D} {K : Nat → fk_K} {I I1 : fm_MI} (h : fk_sc D K I) (hf : ∀ k i s, 2 ≤ k → k ≤ 12 → I1 k i s = I k i s) : fk_sc D K I1 := by
  refine ⟨fk_mC_fr h.1 (fun k i s a b => hf k i s a (by omega)), fun g hg ht => ?_⟩
  obtain ⟨a, b, c, d⟩ := h.2 g hg ht
  refine ⟨a, (hf _ _ _ (by omega) (by omega)).trans b, c, fun r hr => ?_⟩
  obtain ⟨b1, b2, b3, b4, b5, b6⟩ := d r hr
  exact ⟨(hf _ _ _ (by omega) (by omega)).trans b1, (hf _ _ _ (by omega) (by omega)).trans b2, (hf _ _ _ (by omega) (by omega)).trans b3, (hf _ _ _ (by omega) (by omega)).trans b4, (hf _ _ _ (by omega) (by omega)).trans b5, (hf _ _ _ (by omega) (by omega)).trans b6⟩
theorem fk_rowC {D : fk_D} {K : Nat → fk_K} {I : fm_MI} (hs : fk_sc D K I) {g p : Nat} (hg : g < 4) (ht : D.1 g = true) (hp : p < D.2.2.2.2.2.1 g) (hl : fk_lv (fk_tr D g p).2.1 = true) (ho : D.2.2.2.2.2.2.1 g p ≠ 21 ∧ D.2.2.2.2.2.2.1 g p ≠ 22 ∧ D.2.2.2.2.2.2.1 g p ≠ 25) :
    (fk_tr D g p).2.2.1 < 40 ∧ (fk_tr D g (p + 1)).2.2.1 = (fk_tr D g p).2.2.1 + 1 ∧ (fk_tr D g p).2.2.1 < (K g).2.2.1 ∧ I 7 g (fk_tr D g p).2.2.1 = (fk_tr D g (p + 1)).2.2.2.1 (fk_tr D g p).2.2.1 ∧ I 8 g (fk_tr D g p).2.2.1 = (fk_tr D g (p + 1)).2.2.2.2.1 (fk_tr D g p).2.2.1 ∧ I 9 g (fk_tr D g p).2.2.1 = (fk_tr D g (p + 1)).2.2.2.2.2.1 (fk_tr D g p).2.2.1 ∧ I 10 g (fk_tr D g p).2.2.1 = (fk_tr D g (p + 1)).2.2.2.2.2.2.1 (fk_tr D g p).2.2.1 ∧ I 11 g (fk_tr D g p).2.2.1 = (K g).2.2.2.2.2.2.2.1 (fk_tr D g p).2.2.1 ∧ (K g).2.2.2.2.2.1 (fk_tr D g p).2.2.1 = (fk_tr D g (p + 1)).2.2.2.2.2.1 (fk_tr D g p).2.2.1 := by
  obtain ⟨hgd, h6, h40, hr⟩ := hs.2 g hg ht
  obtain ⟨d1, d2, d3, d4, d5, d6, d7⟩ := fk_dk_of hs.1 g hg ht
  have hJ := fk_J_tr hgd d7 p (by omega)
  have hL := (fk_G_tr hgd d7 d5 p (by omega)).2
  cases hfs : (fk_tr D g p).2.1 with
  | nil => have := hJ.2.2.1; rw [hfs] at this; simp at this
  | cons x l =>
    obtain ⟨e1, -, -⟩ := fk_tr_en hgd d7 d5 hp hfs
    rw [if_pos ⟨by rw [← hfs]; exact hl, ho.1, ho.2.1, ho.2.2⟩] at e1
    have hr1 : (fk_tr D g p).2.2.1 < (fk_tr D g (p + 1)).2.2.1 := by omega
    obtain ⟨n, hn⟩ : ∃ n, D.2.2.2.2.2.1 g = p + 1 + n := ⟨D.2.2.2.2.2.1 g - (p + 1), by omega⟩
    obtain ⟨s1, s2, s3, s4, s5, -⟩ := fk_stay hgd d7 d5 hr1 n (by omega)
    obtain ⟨f1, f2⟩ := fk_fin_r hgd
    rw [hn] at f1 f2
    obtain ⟨t1, t2, t3, t4, -⟩ := f2 (fk_tr D g p).2.2.1
    have hlt : (fk_tr D g p).2.2.1 < (K g).2.2.1 := by omega
    obtain ⟨b1, b2, b3, b4, b5, b6⟩ := hr _ hlt
    exact ⟨by omega, e1, hlt, b1.trans (t1.trans s2), b2.trans (t2.trans s3), b3.trans (t3.trans s4), b4.trans (t4.trans s5), b5, t3.trans s4⟩
theorem fk_row_new (nl : Nat) (op a : Int32) (ts : List Int32) (fs : List fk_F) (q : Nat × fk_R) (hl : fk_lv fs = true) : (fk_row nl op a (ts, fs, q)).2.2.2.1 q.1 = op ∧ (fk_row nl op a (ts, fs, q)).2.2.2.2.1 q.1 = a ∧ (fk_row nl op a (ts, fs, q)).2.2.2.2.2.1 q.1 = Int32.ofNat (nl + ts.length) ∧ (fk_row nl op a (ts, fs, q)).2.2.2.2.2.2.1 q.1 = -1 ∧ (fk_row nl op a (ts, fs, q)).2.2.2.2.2.2.2.1 q.1 = -1 ∧ (fk_row nl op a (ts, fs, q)).2.2.2.2.2.2.2.2 q.1 = -1 := by
  obtain ⟨L, r1, r2, r3, r4, r5, r6⟩ := q
  unfold fk_row
  dsimp only
  rw [if_pos hl]
  exact ⟨fk_up_eq, fk_up_eq, fk_up_eq, fk_up_eq, fk_up_eq, fk_up_eq⟩
theorem fk_add (a b : Nat) : Int32.ofNat a + Int32.ofNat b = Int32.ofNat (a + b) := (Int32.ofNat_add a b).symm
theorem fk_stepC {I : fm_MI} {J : fm_MJ} {G : fm_MG} (pa : Nat × Nat) {c f r rg : Nat} {op a : Int32} (hc : c < 8) (hf : f < 4) (hr : r < 40) (hrg : rg < 1000) (h5 : I 18 0 5 = Int32.ofNat (c + 1)) (h22 : I 22 0 c = Int32.ofNat f) (h23 : I 23 0 c = Int32.ofNat r) (h7 : I 7 f r = op) (h8 : I 8 f r = a) (h9 : I 18 0 6 + I 9 f r = Int32.ofNat rg) :
    (¬ 10 < op → (fmM_step_p I J G pa ↔ fmM_moveValues_p (fm_u I 23 0 c (Int32.ofNat (r + 1))) J op a (Int32.ofNat rg)) ∧ fmM_step_f I J G pa = (0, fm_u I 23 0 c (Int32.ofNat (r + 1)), fmM_moveValues_f (fm_u I 23 0 c (Int32.ofNat (r + 1))) J G op a (Int32.ofNat rg))) ∧
    (10 < op → ¬ 20 < op → (fmM_step_p I J G pa ↔ fmM_compute_p J G op a (Int32.ofNat rg)) ∧ fmM_step_f I J G pa = ((fmM_compute_f J G op a (Int32.ofNat rg)).1, fm_u I 23 0 c (Int32.ofNat (r + 1)), (fmM_compute_f J G op a (Int32.ofNat rg)).2)) ∧
    (20 < op → (10 < op) → (fmM_step_p I J G pa ↔ fmM_goOnElsewhere_p (fm_u I 23 0 c (Int32.ofNat (r + 1))) J G pa f (Int32.ofNat r) (Int32.ofNat rg)) ∧ fmM_step_f I J G pa = fmM_goOnElsewhere_f (fm_u I 23 0 c (Int32.ofNat (r + 1))) J G pa f (Int32.ofNat r) (Int32.ofNat rg)) := by
  have e5 : I 18 0 5 - 1 = Int32.ofNat c := by rw [h5, fk_d (by omega)]; rfl
  have ec : (I 18 0 5 - 1).toNatClampNeg = c := by rw [e5]; exact fk_cl (by omega)
  have ef : (I 22 0 c).toNatClampNeg = f := by rw [h22]; exact fk_cl (by omega)
  have er : (I 23 0 c).toNatClampNeg = r := by rw [h23]; exact fk_cl (by omega)
  have er1 : I 23 0 c + 1 = Int32.ofNat (r + 1) := by rw [h23, fk_s]
  have v5 : vp_in (I 18 0 5 - 1) 8 := by rw [e5]; exact (fk_in (by omega)).mpr hc
  have v22 : vp_in (I 22 0 c) 4 := by rw [h22]; exact (fk_in (by omega)).mpr hf
  have v23 : vp_in (I 23 0 c) 40 := by rw [h23]; exact (fk_in (by omega)).mpr hr
  refine ⟨fun h10 => ?_, fun h10 h20 => ?_, fun h20 h10 => ?_⟩
  · unfold fmM_step_p fmM_step_f
    rw [ec, ef, er, er1, h7, h8, h9, if_neg h10]
    refine ⟨⟨fun h => h.2.2.2.2.2.2.2.2 h10, fun h => ⟨v5, v22, v5, v5, v23, v23, v23, fun q => absurd q h10, fun _ => h⟩⟩, ?_⟩
    rw [fm_letE]
  · unfold fmM_step_p fmM_step_f
    rw [ec, ef, er, er1, h7, h8, h9, if_pos h10, if_neg h20]
    refine ⟨⟨fun h => (h.2.2.2.2.2.2.2.1 h10).2 h20, fun h => ⟨v5, v22, v5, v5, v23, v23, v23, fun _ => ⟨fun q => absurd q h20, fun _ => h⟩, fun q => absurd h10 q⟩⟩, ?_⟩
    rw [fm_letE]
    split
    · rename_i h0
      rw [h0]
    · rfl
  · unfold fmM_step_p fmM_step_f
    rw [ec, ef, er, er1, h7, h8, h9, if_pos h10, if_pos h20, h23]
    refine ⟨⟨fun h => (h.2.2.2.2.2.2.2.1 h10).1 h20, fun h => ⟨v5, v22, v5, v5, h23 ▸ v23, h23 ▸ v23, h23 ▸ v23, fun _ => ⟨fun _ => h, fun q => absurd h20 q⟩, fun q => absurd h10 q⟩⟩, ?_⟩
    rw [fm_letE]
    split
    · rename_i h0
      generalize fmM_goOnElsewhere_f (fm_u I 23 0 c (Int32.ofNat (r + 1))) J G pa f (Int32.ofNat r) (Int32.ofNat rg) = z at h0 ⊢
      obtain ⟨z1, z2, z3, z4⟩ := z
      dsimp only at h0 ⊢
      rw [h0]
    · rfl
def fk_pl (D : fk_D) (f c b0 : Nat) (ts : List Int32) (C C1 E E1 H1 : Nat → fk_cell) : Prop := (∀ n, n < 26 * c → C1 n = C n) ∧ (∀ n, n < b0 → E1 n = E n) ∧ (∀ j, j < D.2.2.1 f → fk_V (D.2.2.2.2.1 f j) (C1 (26 * c + j)) (E1 (b0 + j))) ∧ fk_vs C1 E1 (26 * c + D.2.2.1 f) (b0 + D.2.2.1 f) ts ∧ ∀ g, g < 4 → fk_V (Int32.ofNat g) (C1 (208 + g)) (H1 g)
theorem fk_pl_push {D : fk_D} {f c b0 : Nat} {tm : List Int32} {C C1 E E1 H : Nat → fk_cell} {t : Int32} {u v : fk_cell} (hc : c < 8) (hn : D.2.2.1 f ≤ 6) (h20 : tm.length < 20) (h : fk_pl D f c b0 tm C C1 E E1 H) (hv : fk_V t u v) : fk_pl D f c b0 (t :: tm) C (fk_up C1 (26 * c + D.2.2.1 f + tm.length) u) E (fk_up E1 (b0 + D.2.2.1 f + tm.length) v) H := by
  obtain ⟨h1, h2, h3, h4, h5⟩ := h
  refine ⟨fun n hn' => ?_, fun n hn' => ?_, fun j hj => ?_, ⟨?_, ?_⟩, fun g hg => ?_⟩
  · rw [fk_up_ne (by omega)]; exact h1 n hn'
  · rw [fk_up_ne (by omega)]; exact h2 n hn'
  · rw [fk_up_ne (by omega), fk_up_ne (by omega)]; exact h3 j hj
  · rw [fk_up_eq, fk_up_eq]; exact hv
  · exact fk_vs_c (fun j hj => fk_up_ne (by omega)) (fun j hj => fk_up_ne (by omega)) h4
  · rw [fk_up_ne (by omega)]; exact h5 g hg
theorem fk_pl_pop {D : fk_D} {f c b0 : Nat} {t : Int32} {tm : List Int32} {C C1 E E1 H : Nat → fk_cell} (h : fk_pl D f c b0 (t :: tm) C C1 E E1 H) : fk_pl D f c b0 tm C C1 E E1 H ∧ fk_V t (C1 (26 * c + D.2.2.1 f + tm.length)) (E1 (b0 + D.2.2.1 f + tm.length)) := by
  obtain ⟨h1, h2, h3, h4, h5⟩ := h
  exact ⟨⟨h1, h2, h3, h4.2, h5⟩, h4.1⟩
theorem fk_pl_set {D : fk_D} {f c b0 j : Nat} {tm : List Int32} {C C1 E E1 H : Nat → fk_cell} {u v : fk_cell} (hc : c < 8) (hn : D.2.2.1 f ≤ 6) (h20 : tm.length ≤ 20) (hj : j < D.2.2.1 f) (h : fk_pl D f c b0 tm C C1 E E1 H) (hv : fk_V (D.2.2.2.2.1 f j) u v) : fk_pl D f c b0 tm C (fk_up C1 (26 * c + j) u) E (fk_up E1 (b0 + j) v) H := by
  obtain ⟨h1, h2, h3, h4, h5⟩ := h
  refine ⟨fun n hn' => ?_, fun n hn' => ?_, fun i hi => ?_, ?_, fun g hg => ?_⟩
  · rw [fk_up_ne (by omega)]; exact h1 n hn'
  · rw [fk_up_ne (by omega)]; exact h2 n hn'
  · by_cases hij : i = j
    · subst hij; rw [fk_up_eq, fk_up_eq]; exact hv
    · rw [fk_up_ne (by omega), fk_up_ne (by omega)]; exact h3 i hi
  · exact fk_vs_c (fun j hj => fk_up_ne (by omega)) (fun j hj => fk_up_ne (by omega)) h4
  · rw [fk_up_ne (by omega)]; exact h5 g hg
theorem fk_pl_glo {D : fk_D} {f c b0 g : Nat} {tm : List Int32} {C C1 E E1 H : Nat → fk_cell} {u v : fk_cell} (hc : c < 8) (hn : D.2.2.1 f ≤ 6) (h20 : tm.length ≤ 20) (hg : g < 4) (h : fk_pl D f c b0 tm C C1 E E1 H) (hv : fk_V (Int32.ofNat g) u v) : fk_pl D f c b0 tm C (fk_up C1 (208 + g) u) E E1 (fk_up H g v) := by
  obtain ⟨h1, h2, h3, h4, h5⟩ := h
  refine ⟨fun n hn' => ?_, h2, fun i hi => ?_, ?_, fun i hi => ?_⟩
  · rw [fk_up_ne (by omega)]; exact h1 n hn'
  · rw [fk_up_ne (by omega)]; exact h3 i hi
  · exact fk_vs_c (fun j hj => fk_up_ne (by omega)) (fun j hj => rfl) h4
  · by_cases hij : i = g
    · subst hij; rw [fk_up_eq, fk_up_eq]; exact hv
    · rw [fk_up_ne (by omega), fk_up_ne (by omega)]; exact h5 i hi
theorem fk_cCJ (J : fm_MJ) (G : fm_MG) (n : Nat) (w : Int64) : fk_cC (fm_u J 20 0 n w) G = fk_up (fk_cC J G) n (w, G 21 0 n) := by
  funext m
  unfold fk_cC fk_up
  rw [fm_u_if]
  by_cases h : m = n
  · subst h; simp
  · simp [h]
theorem fk_cCG (J : fm_MJ) (G : fm_MG) (n : Nat) (w : UInt64) : fk_cC J (fm_u G 21 0 n w) = fk_up (fk_cC J G) n (J 20 0 n, w) := by
  funext m
  unfold fk_cC fk_up
  rw [fm_u_if]
  by_cases h : m = n
  · subst h; simp
  · simp [h]
theorem fk_cCB (J : fm_MJ) (G : fm_MG) (n : Nat) (w : Int64) (z : UInt64) : fk_cC (fm_u J 20 0 n w) (fm_u G 21 0 n z) = fk_up (fk_cC J G) n (w, z) := by
  funext m
  unfold fk_cC fk_up
  rw [fm_u_if, fm_u_if]
  by_cases h : m = n
  · subst h; simp
  · simp [h]
theorem fk_cDB (J : fm_MJ) (G : fm_MG) (n : Nat) (w : Int64) (z : UInt64) : fk_cD (fm_u J 40 0 n w) (fm_u G 41 0 n z) = fk_up (fk_cD J G) n (w, z) := by
  funext m
  unfold fk_cD fk_up
  rw [fm_u_if, fm_u_if]
  by_cases h : m = n
  · subst h; simp
  · simp [h]
theorem fk_cGB (J : fm_MJ) (G : fm_MG) (n : Nat) (w : Int64) (z : UInt64) : fk_cG (fm_u J 33 0 n w) (fm_u G 34 0 n z) = fk_up (fk_cG J G) n (w, z) := by
  funext m
  unfold fk_cG fk_up
  rw [fm_u_if, fm_u_if]
  by_cases h : m = n
  · subst h; simp
  · simp [h]
theorem fk_cGD (J : fm_MJ) (G : fm_MG) (n : Nat) (w : Int64) (z : UInt64) : fk_cG (fm_u J 40 0 n w) (fm_u G 41 0 n z) = fk_cG J G := by
  funext m
  unfold fk_cG
  rw [fk_u_ne _ _ _ (by decide), fk_u_ne _ _ _ (by decide)]
theorem fk_cDG (J : fm_MJ) (G : fm_MG) (n : Nat) (w : Int64) (z : UInt64) : fk_cD (fm_u J 33 0 n w) (fm_u G 34 0 n z) = fk_cD J G := by
  funext m
  unfold fk_cD
  rw [fk_u_ne _ _ _ (by decide), fk_u_ne _ _ _ (by decide)]
theorem fk_pushD {I : fm_MI} (J : fm_MJ) (G : fm_MG) {top : Nat} (t : Int32) (v : Int64) (x : UInt64) (h28 : I 24 0 28 = Int32.ofNat top) (ht : top < 260) (h2 : t = 2 → vf_n32 (FP.d2f x) ∧ vf_n64 (FP.f2d (FP.d2f x))) : fmD_push_p I t x ∧ fmD_push_f I J G t v x = (fm_u I 24 0 28 (Int32.ofNat (top + 1)), fm_u J 40 0 top (if t = 0 then v.toInt32.toInt64 else v), fm_u G 41 0 top (if t = 2 then FP.f2d (FP.d2f x) else x)) := by
  unfold fmD_push_p fmD_push_f
  have hv : vp_in (I 24 0 28) 260 := by rw [h28]; exact (fk_in (by omega)).mpr ht
  refine ⟨⟨fun _ => ⟨hv, fun q => ⟨(h2 q).1, (h2 q).2, hv⟩, fun _ => hv⟩, fun _ => ⟨hv, fun q => ⟨(h2 q).1, (h2 q).2, hv⟩, fun _ => hv⟩⟩, ?_⟩
  rw [h28, fk_cl (by omega), fk_s]
  by_cases h0 : t = 0
  · have hne : ¬ t = 2 := by rw [h0]; decide
    rw [if_pos h0, if_pos h0, if_neg hne, if_neg hne]
  · rw [if_neg h0, if_neg h0]
    by_cases h2' : t = 2
    · rw [if_pos h2', if_pos h2']
    · rw [if_neg h2', if_neg h2']
theorem fk_V_push {t : Int32} {u : fk_cell} {v : Int64} {x : UInt64} (h : fk_V t u (v, x)) : (t = 2 → vf_n32 (FP.d2f x) ∧ vf_n64 (FP.f2d (FP.d2f x))) ∧ fk_V t u (if t = 0 then v.toInt32.toInt64 else v, if t = 2 then FP.f2d (FP.d2f x) else x) := by
  obtain ⟨h0, h1, h2, h3⟩ := h
  refine ⟨fun q => ⟨(h2 q).2.2.1, by rw [(h2 q).2.2.2]; exact (h2 q).2.1.1⟩, ⟨fun q => ?_, fun q => ?_, fun q => ?_, fun q => ?_⟩⟩
  · rw [if_pos q]
    obtain ⟨a, b⟩ := h0 q
    dsimp only at a b ⊢
    rw [b]
    exact ⟨a, b⟩
  · rw [if_neg (by rw [q]; decide)]; exact h1 q
  · rw [if_pos q]
    obtain ⟨a, b⟩ := h2 q
    dsimp only at a b ⊢
    rw [b.2.2]
    exact ⟨a, b⟩
  · rw [if_neg (show ¬ t = 2 by rw [q]; decide)]; exact h3 q
def fk_hy (D : fk_D) (f c b0 : Nat) (ts : List Int32) (I I' : fm_MI) : Prop := c < 8 ∧ D.2.2.1 f ≤ 6 ∧ b0 ≤ 26 * c ∧ ts.length ≤ 20 ∧ I 18 0 6 = Int32.ofNat (26 * c) ∧ I' 24 0 28 = Int32.ofNat (b0 + D.2.2.1 f + ts.length) ∧ I' 24 0 29 = Int32.ofNat (c + 1) ∧ I' 44 0 c = Int32.ofNat b0
def fk_rz (D : fk_D) (f c b0 : Nat) (ts : List Int32) (C E : Nat → fk_cell) (I' : fm_MI) (x : fm_MJ × fm_MG) (y : fm_MI × fm_MJ × fm_MG) : Prop := (∀ k i s, ¬ (k = 24 ∧ i = 0 ∧ s = 28) → y.1 k i s = I' k i s) ∧ y.1 24 0 28 = Int32.ofNat (b0 + D.2.2.1 f + ts.length) ∧ fk_pl D f c b0 ts C (fk_cC x.1 x.2) E (fk_cD y.2.1 y.2.2) (fk_cG y.2.1 y.2.2)
theorem fk_28 (I : fm_MI) (x : Int32) : ∀ k i s, ¬ (k = 24 ∧ i = 0 ∧ s = 28) → fm_u I 24 0 28 x k i s = I k i s := by
  intro k i s h
  rw [fm_u_if, if_neg h]
theorem fk_rz_push {D : fk_D} {f c b0 : Nat} {tm : List Int32} {C1 C E : Nat → fk_cell} {I' : fm_MI} {J1 : fm_MJ} {G1 : fm_MG} {J' : fm_MJ} {G' : fm_MG} {t : Int32} {u : fk_cell} {v : Int64} {x : UInt64} (hc : c < 8) (hn : D.2.2.1 f ≤ 6) (hb : b0 ≤ 26 * c) (h20 : tm.length < 20) (h28 : I' 24 0 28 = Int32.ofNat (b0 + D.2.2.1 f + tm.length)) (hpl : fk_pl D f c b0 tm C C1 E (fk_cD J' G') (fk_cG J' G')) (hC : fk_cC J1 G1 = fk_up C1 (26 * c + D.2.2.1 f + tm.length) u) (hv : fk_V t u (v, x)) : fmD_push_p I' t x ∧ fk_rz D f c b0 (t :: tm) C E I' (J1, G1) (fmD_push_f I' J' G' t v x) := by
  obtain ⟨h2, hv'⟩ := fk_V_push hv
  obtain ⟨p1, p2⟩ := fk_pushD J' G' t v x h28 (by omega) h2
  refine ⟨p1, ?_⟩
  rw [p2]
  refine ⟨fk_28 _ _, ?_, ?_⟩
  · dsimp only
    rw [fk_u_eq]; rfl
  · dsimp only
    rw [hC, fk_cDB, fk_cGD]
    exact fk_pl_push hc hn h20 hpl hv'
theorem fk_copy_v {a b : Nat} (ha : a < 212) (hb : b < 212) (J : fm_MJ) (G : fm_MG) : fmM_copy_p (Int32.ofNat a) (Int32.ofNat b) ∧ fmM_copy_f J G (Int32.ofNat a) (Int32.ofNat b) = (fm_u J 20 0 b (J 20 0 a), fm_u G 21 0 b (G 21 0 a)) ∧ fk_cC (fm_u J 20 0 b (J 20 0 a)) (fm_u G 21 0 b (G 21 0 a)) = fk_up (fk_cC J G) b (fk_cC J G a) := by
  have va : vp_in (Int32.ofNat a) 212 := (fk_in (by omega)).mpr ha
  have vb : vp_in (Int32.ofNat b) 212 := (fk_in (by omega)).mpr hb
  refine ⟨⟨va, vb, va, vb⟩, ?_, fk_cCB J G b (J 20 0 a) (G 21 0 a)⟩
  unfold fmM_copy_f
  rw [fk_cl (by omega), fk_cl (by omega)]
theorem fk_lE2 {α : Type} (x : α) (f : α → fm_MJ × fm_MG) : fm_let x f = f x := rfl
theorem fk_lE3 {α : Type} (x : α) (f : α → fm_MI × fm_MJ × fm_MG) : fm_let x f = f x := rfl
theorem fk_i32 (a : Int32) : a.toInt64.toInt32.toInt64 = a.toInt64 := by simp
theorem fk_28m {I' : fm_MI} {n m : Nat} (h : I' 24 0 28 = Int32.ofNat n) (hm : m ≤ n) : I' 24 0 28 - Int32.ofNat m = Int32.ofNat (n - m) := by rw [h]; exact fk_sb hm
theorem fk_mv0 {D : fk_D} {f c b0 : Nat} {ts tm ts' : List Int32} {I I' : fm_MI} {J : fm_MJ} {G : fm_MG} {J' : fm_MJ} {G' : fm_MG} (a : Int32) (pa pb : Nat × Nat) (ati : Int32) (hf : f < 4) (ht : D.1 f = true) (hD : fk_mD I' D) (hy : fk_hy D f c b0 ts I I') (hvi : fk_vi D f 0 a ts tm ts') (h20 : ts'.length ≤ 20) (hpl : fk_pl D f c b0 ts (fk_cC J G) (fk_cC J G) (fk_cD J' G') (fk_cD J' G') (fk_cG J' G')) : fmM_moveValues_p I J (Int32.ofNat 0) a (Int32.ofNat (26 * c + D.2.2.1 f + tm.length)) ∧ fmD_perform_p I' J' G' pa pb (Int32.ofNat f) (Int32.ofNat 0) a ati ∧ fk_rz D f c b0 ts' (fk_cC J G) (fk_cD J' G') I' (fmM_moveValues_f I J G (Int32.ofNat 0) a (Int32.ofNat (26 * c + D.2.2.1 f + tm.length))) (fmD_perform_f I' J' G' pa pb (Int32.ofNat f) (Int32.ofNat 0) a ati) := by
  obtain ⟨hc, hn, hb0, ht20, h6, h28, h29, h44⟩ := hy
  have e29 : I' 24 0 29 - 1 = Int32.ofNat c := by rw [h29, fk_d (by omega)]; rfl
  have v29 : vp_in (I' 24 0 29 - 1) 10 := by rw [e29]; exact (fk_in (by omega)).mpr (by omega)
  have c29 : (I' 24 0 29 - 1).toNatClampNeg = c := by rw [e29]; exact fk_cl (by omega)
  obtain ⟨-, rfl, rfl⟩ := (show 0 ≤ 3 ∧ tm = ts ∧ ts' = Int32.ofNat 0 :: ts from hvi)
  have hlt : tm.length < 20 := by simp at h20; omega
  have hrg : vp_in (Int32.ofNat (26 * c + D.2.2.1 f + tm.length)) 212 := (fk_in (by omega)).mpr (by omega)
  have crg : (Int32.ofNat (26 * c + D.2.2.1 f + tm.length)).toNatClampNeg = 26 * c + D.2.2.1 f + tm.length := fk_cl (by omega)
  obtain ⟨p1, p2⟩ := fk_rz_push (t := Int32.ofNat 0) (u := (a.toInt64, G 21 0 (26 * c + D.2.2.1 f + tm.length))) (v := a.toInt64) (x := FP.dconst0) hc hn hb0 hlt h28 hpl (fk_cCJ J G _ a.toInt64) ⟨fun _ => ⟨(fk_i32 a).symm ▸ rfl, fk_i32 a⟩, fun q => absurd q (by decide), fun q => absurd q (by decide), fun q => absurd q (by decide)⟩
  unfold fmM_moveValues_p fmM_moveValues_f fmD_perform_p fmD_perform_f
  rw [if_pos (show Int32.ofNat 0 = 0 by decide), if_pos (show Int32.ofNat 0 = 0 by decide)]
  refine ⟨⟨fun _ => hrg, fun h => absurd (show Int32.ofNat 0 = 0 by decide) h⟩, ⟨v29, ⟨fun _ => p1, fun h => absurd (show Int32.ofNat 0 = 0 by decide) h⟩⟩, ?_⟩
  rw [crg, fk_lE3]
  exact p2
theorem fk_mv1 {D : fk_D} {f c b0 : Nat} {ts tm ts' : List Int32} {I I' : fm_MI} {J : fm_MJ} {G : fm_MG} {J' : fm_MJ} {G' : fm_MG} (a : Int32) (pa pb : Nat × Nat) (ati : Int32) (hf : f < 4) (ht : D.1 f = true) (hD : fk_mD I' D) (hy : fk_hy D f c b0 ts I I') (hvi : fk_vi D f 1 a ts tm ts') (h20 : ts'.length ≤ 20) (hpl : fk_pl D f c b0 ts (fk_cC J G) (fk_cC J G) (fk_cD J' G') (fk_cD J' G') (fk_cG J' G')) : fmM_moveValues_p I J (Int32.ofNat 1) a (Int32.ofNat (26 * c + D.2.2.1 f + tm.length)) ∧ fmD_perform_p I' J' G' pa pb (Int32.ofNat f) (Int32.ofNat 1) a ati ∧ fk_rz D f c b0 ts' (fk_cC J G) (fk_cD J' G') I' (fmM_moveValues_f I J G (Int32.ofNat 1) a (Int32.ofNat (26 * c + D.2.2.1 f + tm.length))) (fmD_perform_f I' J' G' pa pb (Int32.ofNat f) (Int32.ofNat 1) a ati) := by
  obtain ⟨hc, hn, hb0, ht20, h6, h28, h29, h44⟩ := hy
  have e29 : I' 24 0 29 - 1 = Int32.ofNat c := by rw [h29, fk_d (by omega)]; rfl
  have v29 : vp_in (I' 24 0 29 - 1) 10 := by rw [e29]; exact (fk_in (by omega)).mpr (by omega)
  have c29 : (I' 24 0 29 - 1).toNatClampNeg = c := by rw [e29]; exact fk_cl (by omega)
  obtain ⟨-, rfl, rfl⟩ := (show 1 ≤ 3 ∧ tm = ts ∧ ts' = Int32.ofNat 1 :: ts from hvi)
  have hlt : tm.length < 20 := by simp at h20; omega
  have hrg : vp_in (Int32.ofNat (26 * c + D.2.2.1 f + tm.length)) 212 := (fk_in (by omega)).mpr (by omega)
  have crg : (Int32.ofNat (26 * c + D.2.2.1 f + tm.length)).toNatClampNeg = 26 * c + D.2.2.1 f + tm.length := fk_cl (by omega)
  obtain ⟨p1, p2⟩ := fk_rz_push (t := Int32.ofNat 1) (u := (a.toInt64, G 21 0 (26 * c + D.2.2.1 f + tm.length))) (v := a.toInt64) (x := FP.dconst0) hc hn hb0 hlt h28 hpl (fk_cCJ J G _ a.toInt64) ⟨fun q => absurd q (by decide), fun _ => rfl, fun q => absurd q (by decide), fun q => absurd q (by decide)⟩
  unfold fmM_moveValues_p fmM_moveValues_f fmD_perform_p fmD_perform_f
  rw [if_neg (show ¬ Int32.ofNat 1 = 0 by decide), if_pos (show Int32.ofNat 1 = 1 by decide), if_neg (show ¬ Int32.ofNat 1 = 0 by decide), if_pos (show Int32.ofNat 1 = 1 by decide)]
  refine ⟨⟨fun h => absurd h (show ¬ Int32.ofNat 1 = 0 by decide), fun _ => ⟨fun _ => hrg, fun h => absurd (show Int32.ofNat 1 = 1 by decide) h⟩⟩, ⟨v29, ⟨fun h => absurd h (show ¬ Int32.ofNat 1 = 0 by decide), fun _ => ⟨fun _ => p1, fun h => absurd (show Int32.ofNat 1 = 1 by decide) h⟩⟩⟩, ?_⟩
  rw [crg, fk_lE3]
  exact p2
theorem fk_mv2 {D : fk_D} {f c b0 : Nat} {ts tm ts' : List Int32} {I I' : fm_MI} {J : fm_MJ} {G : fm_MG} {J' : fm_MJ} {G' : fm_MG} (a : Int32) (pa pb : Nat × Nat) (ati : Int32) (hf : f < 4) (ht : D.1 f = true) (hD : fk_mD I' D) (hy : fk_hy D f c b0 ts I I') (hF : vf_n32 (FP.fmul (FP.i2f a) 1040187392) ∧ fk_flt (FP.f2d (FP.fmul (FP.i2f a) 1040187392))) (hvi : fk_vi D f 2 a ts tm ts') (h20 : ts'.length ≤ 20) (hpl : fk_pl D f c b0 ts (fk_cC J G) (fk_cC J G) (fk_cD J' G') (fk_cD J' G') (fk_cG J' G')) : fmM_moveValues_p I J (Int32.ofNat 2) a (Int32.ofNat (26 * c + D.2.2.1 f + tm.length)) ∧ fmD_perform_p I' J' G' pa pb (Int32.ofNat f) (Int32.ofNat 2) a ati ∧ fk_rz D f c b0 ts' (fk_cC J G) (fk_cD J' G') I' (fmM_moveValues_f I J G (Int32.ofNat 2) a (Int32.ofNat (26 * c + D.2.2.1 f + tm.length))) (fmD_perform_f I' J' G' pa pb (Int32.ofNat f) (Int32.ofNat 2) a ati) := by
  obtain ⟨hc, hn, hb0, ht20, h6, h28, h29, h44⟩ := hy
  have e29 : I' 24 0 29 - 1 = Int32.ofNat c := by rw [h29, fk_d (by omega)]; rfl
  have v29 : vp_in (I' 24 0 29 - 1) 10 := by rw [e29]; exact (fk_in (by omega)).mpr (by omega)
  have c29 : (I' 24 0 29 - 1).toNatClampNeg = c := by rw [e29]; exact fk_cl (by omega)
  obtain ⟨-, rfl, rfl⟩ := (show 2 ≤ 3 ∧ tm = ts ∧ ts' = Int32.ofNat 2 :: ts from hvi)
  have hlt : tm.length < 20 := by simp at h20; omega
  have hrg : vp_in (Int32.ofNat (26 * c + D.2.2.1 f + tm.length)) 212 := (fk_in (by omega)).mpr (by omega)
  have crg : (Int32.ofNat (26 * c + D.2.2.1 f + tm.length)).toNatClampNeg = 26 * c + D.2.2.1 f + tm.length := fk_cl (by omega)
  obtain ⟨p1, p2⟩ := fk_rz_push (t := Int32.ofNat 2) (u := (J 20 0 (26 * c + D.2.2.1 f + tm.length), FP.f2d (FP.fmul (FP.i2f a) 1040187392))) (v := 0) (x := FP.f2d (FP.fmul (FP.i2f a) 1040187392)) hc hn hb0 hlt h28 hpl (fk_cCG J G _ _) ⟨fun q => absurd q (by decide), fun q => absurd q (by decide), fun _ => ⟨rfl, hF.2⟩, fun q => absurd q (by decide)⟩
  unfold fmM_moveValues_p fmM_moveValues_f fmD_perform_p fmD_perform_f
  rw [if_neg (show ¬ Int32.ofNat 2 = 0 by decide), if_neg (show ¬ Int32.ofNat 2 = 1 by decide), if_pos (show Int32.ofNat 2 = 2 by decide), if_neg (show ¬ Int32.ofNat 2 = 0 by decide), if_neg (show ¬ Int32.ofNat 2 = 1 by decide), if_pos (show Int32.ofNat 2 = 2 by decide)]
  refine ⟨⟨fun h => absurd h (show ¬ Int32.ofNat 2 = 0 by decide), fun _ => ⟨fun h => absurd h (show ¬ Int32.ofNat 2 = 1 by decide), fun _ => ⟨fun _ => ⟨hF.1, hF.2.1.1, hrg⟩, fun h => absurd (show Int32.ofNat 2 = 2 by decide) h⟩⟩⟩, ⟨v29, ⟨fun h => absurd h (show ¬ Int32.ofNat 2 = 0 by decide), fun _ => ⟨fun h => absurd h (show ¬ Int32.ofNat 2 = 1 by decide), fun _ => ⟨fun _ => ⟨hF.1, hF.2.1.1, p1⟩, fun h => absurd (show Int32.ofNat 2 = 2 by decide) h⟩⟩⟩⟩, ?_⟩
  rw [crg, fk_lE3]
  exact p2
theorem fk_mv3 {D : fk_D} {f c b0 : Nat} {ts tm ts' : List Int32} {I I' : fm_MI} {J : fm_MJ} {G : fm_MG} {J' : fm_MJ} {G' : fm_MG} (a : Int32) (pa pb : Nat × Nat) (ati : Int32) (hf : f < 4) (ht : D.1 f = true) (hD : fk_mD I' D) (hy : fk_hy D f c b0 ts I I') (hF : fk_fi (FP.dmul (FP.i2d a) 4593671619917905920)) (hvi : fk_vi D f 3 a ts tm ts') (h20 : ts'.length ≤ 20) (hpl : fk_pl D f c b0 ts (fk_cC J G) (fk_cC J G) (fk_cD J' G') (fk_cD J' G') (fk_cG J' G')) : fmM_moveValues_p I J (Int32.ofNat 3) a (Int32.ofNat (26 * c + D.2.2.1 f + tm.length)) ∧ fmD_perform_p I' J' G' pa pb (Int32.ofNat f) (Int32.ofNat 3) a ati ∧ fk_rz D f c b0 ts' (fk_cC J G) (fk_cD J' G') I' (fmM_moveValues_f I J G (Int32.ofNat 3) a (Int32.ofNat (26 * c + D.2.2.1 f + tm.length))) (fmD_perform_f I' J' G' pa pb (Int32.ofNat f) (Int32.ofNat 3) a ati) := by
  obtain ⟨hc, hn, hb0, ht20, h6, h28, h29, h44⟩ := hy
  have e29 : I' 24 0 29 - 1 = Int32.ofNat c := by rw [h29, fk_d (by omega)]; rfl
  have v29 : vp_in (I' 24 0 29 - 1) 10 := by rw [e29]; exact (fk_in (by omega)).mpr (by omega)
  have c29 : (I' 24 0 29 - 1).toNatClampNeg = c := by rw [e29]; exact fk_cl (by omega)
  obtain ⟨-, rfl, rfl⟩ := (show 3 ≤ 3 ∧ tm = ts ∧ ts' = Int32.ofNat 3 :: ts from hvi)
  have hlt : tm.length < 20 := by simp at h20; omega
  have hrg : vp_in (Int32.ofNat (26 * c + D.2.2.1 f + tm.length)) 212 := (fk_in (by omega)).mpr (by omega)
  have crg : (Int32.ofNat (26 * c + D.2.2.1 f + tm.length)).toNatClampNeg = 26 * c + D.2.2.1 f + tm.length := fk_cl (by omega)
  obtain ⟨p1, p2⟩ := fk_rz_push (t := Int32.ofNat 3) (u := (J 20 0 (26 * c + D.2.2.1 f + tm.length), FP.dmul (FP.i2d a) 4593671619917905920)) (v := 0) (x := FP.dmul (FP.i2d a) 4593671619917905920) hc hn hb0 hlt h28 hpl (fk_cCG J G _ _) ⟨fun q => absurd q (by decide), fun q => absurd q (by decide), fun q => absurd q (by decide), fun _ => ⟨rfl, hF⟩⟩
  unfold fmM_moveValues_p fmM_moveValues_f fmD_perform_p fmD_perform_f
  rw [if_neg (show ¬ Int32.ofNat 3 = 0 by decide), if_neg (show ¬ Int32.ofNat 3 = 1 by decide), if_neg (show ¬ Int32.ofNat 3 = 2 by decide), if_pos (show Int32.ofNat 3 = 3 by decide), if_neg (show ¬ Int32.ofNat 3 = 0 by decide), if_neg (show ¬ Int32.ofNat 3 = 1 by decide), if_neg (show ¬ Int32.ofNat 3 = 2 by decide), if_pos (show Int32.ofNat 3 = 3 by decide)]
  refine ⟨⟨fun h => absurd h (show ¬ Int32.ofNat 3 = 0 by decide), fun _ => ⟨fun h => absurd h (show ¬ Int32.ofNat 3 = 1 by decide), fun _ => ⟨fun h => absurd h (show ¬ Int32.ofNat 3 = 2 by decide), fun _ => ⟨fun _ => ⟨hF.1, hrg⟩, fun h => absurd (show Int32.ofNat 3 = 3 by decide) h⟩⟩⟩⟩, ⟨v29, ⟨fun h => absurd h (show ¬ Int32.ofNat 3 = 0 by decide), fun _ => ⟨fun h => absurd h (show ¬ Int32.ofNat 3 = 1 by decide), fun _ => ⟨fun h => absurd h (show ¬ Int32.ofNat 3 = 2 by decide), fun _ => ⟨fun _ => ⟨hF.1, p1⟩, fun h => absurd (show Int32.ofNat 3 = 3 by decide) h⟩⟩⟩⟩⟩, ?_⟩
  rw [crg, fk_lE3]
  exact p2
theorem fk_mv4 {D : fk_D} {f c b0 : Nat} {ts tm ts' : List Int32} {I I' : fm_MI} {J : fm_MJ} {G : fm_MG} {J' : fm_MJ} {G' : fm_MG} (a : Int32) (pa pb : Nat × Nat) (ati : Int32) (hf : f < 4) (ht : D.1 f = true) (hD : fk_mD I' D) (hy : fk_hy D f c b0 ts I I') (hva : vp_in a 6) (hvi : fk_vi D f 4 a ts tm ts') (h20 : ts'.length ≤ 20) (hpl : fk_pl D f c b0 ts (fk_cC J G) (fk_cC J G) (fk_cD J' G') (fk_cD J' G') (fk_cG J' G')) : fmM_moveValues_p I J (Int32.ofNat 4) a (Int32.ofNat (26 * c + D.2.2.1 f + tm.length)) ∧ fmD_perform_p I' J' G' pa pb (Int32.ofNat f) (Int32.ofNat 4) a ati ∧ fk_rz D f c b0 ts' (fk_cC J G) (fk_cD J' G') I' (fmM_moveValues_f I J G (Int32.ofNat 4) a (Int32.ofNat (26 * c + D.2.2.1 f + tm.length))) (fmD_perform_f I' J' G' pa pb (Int32.ofNat f) (Int32.ofNat 4) a ati) := by
  obtain ⟨hc, hn, hb0, ht20, h6, h28, h29, h44⟩ := hy
  have e29 : I' 24 0 29 - 1 = Int32.ofNat c := by rw [h29, fk_d (by omega)]; rfl
  have v29 : vp_in (I' 24 0 29 - 1) 10 := by rw [e29]; exact (fk_in (by omega)).mpr (by omega)
  have c29 : (I' 24 0 29 - 1).toNatClampNeg = c := by rw [e29]; exact fk_cl (by omega)
  obtain ⟨hal, rfl, rfl⟩ := (show a.toNatClampNeg < D.2.2.1 f ∧ tm = ts ∧ ts' = D.2.2.2.2.1 f a.toNatClampNeg :: ts from hvi)
  have hlt : tm.length < 20 := by simp at h20; omega
  have ha : a = Int32.ofNat a.toNatClampNeg := fk_ofc hva
  obtain ⟨-, hg⟩ := hD f hf
  obtain ⟨-, -, -, -, g5, -⟩ := hg ht
  obtain ⟨m1, m2, m3⟩ := fk_mem a hf ha (by omega)
  have h30 : I' 30 0 ((Int32.ofNat f * 6 + a).toNatClampNeg) = D.2.2.2.2.1 f a.toNatClampNeg := by rw [m2]; exact g5 _ hal
  have ecl : I 18 0 6 + a = Int32.ofNat (26 * c + a.toNatClampNeg) := by
    rw [h6]
    conv => lhs; rw [ha]
    exact fk_add _ _
  have erl : I' 44 0 ((I' 24 0 29 - 1).toNatClampNeg) + a = Int32.ofNat (b0 + a.toNatClampNeg) := by
    rw [c29, h44]
    conv => lhs; rw [ha]
    exact fk_add _ _
  have crl : (I' 44 0 ((I' 24 0 29 - 1).toNatClampNeg) + a).toNatClampNeg = b0 + a.toNatClampNeg := by rw [erl]; exact fk_cl (by omega)
  have vrl : vp_in (I' 44 0 ((I' 24 0 29 - 1).toNatClampNeg) + a) 260 := by rw [erl]; exact (fk_in (by omega)).mpr (by omega)
  have hrg : vp_in (Int32.ofNat (26 * c + D.2.2.1 f + tm.length)) 212 := (fk_in (by omega)).mpr (by omega)
  have crg : (Int32.ofNat (26 * c + D.2.2.1 f + tm.length)).toNatClampNeg = 26 * c + D.2.2.1 f + tm.length := fk_cl (by omega)
  obtain ⟨q1, q2, q3⟩ := fk_copy_v (a := 26 * c + a.toNatClampNeg) (b := 26 * c + D.2.2.1 f + tm.length) (by omega) (by omega) J G
  obtain ⟨p1, p2⟩ := fk_rz_push (v := J' 40 0 (b0 + a.toNatClampNeg)) (x := G' 41 0 (b0 + a.toNatClampNeg)) hc hn hb0 hlt h28 hpl q3 (hpl.2.2.1 _ hal)
  unfold fmM_moveValues_p fmM_moveValues_f fmD_perform_p fmD_perform_f
  rw [if_neg (show ¬ Int32.ofNat 4 = 0 by decide), if_neg (show ¬ Int32.ofNat 4 = 1 by decide), if_neg (show ¬ Int32.ofNat 4 = 2 by decide), if_neg (show ¬ Int32.ofNat 4 = 3 by decide), if_pos (show Int32.ofNat 4 = 4 by decide), if_neg (show ¬ Int32.ofNat 4 = 0 by decide), if_neg (show ¬ Int32.ofNat 4 = 1 by decide), if_neg (show ¬ Int32.ofNat 4 = 2 by decide), if_neg (show ¬ Int32.ofNat 4 = 3 by decide), if_pos (show Int32.ofNat 4 = 4 by decide)]
  rw [ecl, h30, crl]
  refine ⟨⟨fun h => absurd h (show ¬ Int32.ofNat 4 = 0 by decide), fun _ => ⟨fun h => absurd h (show ¬ Int32.ofNat 4 = 1 by decide), fun _ => ⟨fun h => absurd h (show ¬ Int32.ofNat 4 = 2 by decide), fun _ => ⟨fun h => absurd h (show ¬ Int32.ofNat 4 = 3 by decide), fun _ => ⟨fun _ => q1, fun h => absurd (show Int32.ofNat 4 = 4 by decide) h⟩⟩⟩⟩⟩, ⟨v29, ⟨fun h => absurd h (show ¬ Int32.ofNat 4 = 0 by decide), fun _ => ⟨fun h => absurd h (show ¬ Int32.ofNat 4 = 1 by decide), fun _ => ⟨fun h => absurd h (show ¬ Int32.ofNat 4 = 2 by decide), fun _ => ⟨fun h => absurd h (show ¬ Int32.ofNat 4 = 3 by decide), fun _ => ⟨fun _ => ⟨m3, vrl, vrl, p1⟩, fun h => absurd (show Int32.ofNat 4 = 4 by decide) h⟩⟩⟩⟩⟩⟩, ?_⟩
  rw [fk_lE2, fk_lE3, q2]
  exact p2
theorem fk_mv5 {D : fk_D} {f c b0 : Nat} {ts tm ts' : List Int32} {I I' : fm_MI} {J : fm_MJ} {G : fm_MG} {J' : fm_MJ} {G' : fm_MG} (a : Int32) (pa pb : Nat × Nat) (ati : Int32) (hf : f < 4) (ht : D.1 f = true) (hD : fk_mD I' D) (hy : fk_hy D f c b0 ts I I') (hva : vp_in a 6) (hvi : fk_vi D f 5 a ts tm ts') (h20 : ts'.length ≤ 20) (hpl : fk_pl D f c b0 ts (fk_cC J G) (fk_cC J G) (fk_cD J' G') (fk_cD J' G') (fk_cG J' G')) : fmM_moveValues_p I J (Int32.ofNat 5) a (Int32.ofNat (26 * c + D.2.2.1 f + tm.length)) ∧ fmD_perform_p I' J' G' pa pb (Int32.ofNat f) (Int32.ofNat 5) a ati ∧ fk_rz D f c b0 ts' (fk_cC J G) (fk_cD J' G') I' (fmM_moveValues_f I J G (Int32.ofNat 5) a (Int32.ofNat (26 * c + D.2.2.1 f + tm.length))) (fmD_perform_f I' J' G' pa pb (Int32.ofNat f) (Int32.ofNat 5) a ati) := by
  obtain ⟨hc, hn, hb0, ht20, h6, h28, h29, h44⟩ := hy
  have e29 : I' 24 0 29 - 1 = Int32.ofNat c := by rw [h29, fk_d (by omega)]; rfl
  have v29 : vp_in (I' 24 0 29 - 1) 10 := by rw [e29]; exact (fk_in (by omega)).mpr (by omega)
  have c29 : (I' 24 0 29 - 1).toNatClampNeg = c := by rw [e29]; exact fk_cl (by omega)
  obtain ⟨hal, rfl, e0⟩ := (show a.toNatClampNeg < D.2.2.1 f ∧ ts = D.2.2.2.2.1 f a.toNatClampNeg :: tm ∧ ts' = tm from hvi)
  have e0' := e0.symm
  subst e0'
  have hlt : tm.length < 20 := by simp at ht20; omega
  have ha : a = Int32.ofNat a.toNatClampNeg := fk_ofc hva
  obtain ⟨-, hg⟩ := hD f hf
  obtain ⟨-, -, -, -, g5, -⟩ := hg ht
  obtain ⟨m1, m2, m3⟩ := fk_mem a hf ha (by omega)
  have h30 : I' 30 0 ((Int32.ofNat f * 6 + a).toNatClampNeg) = D.2.2.2.2.1 f a.toNatClampNeg := by rw [m2]; exact g5 _ hal
  have ecl : I 18 0 6 + a = Int32.ofNat (26 * c + a.toNatClampNeg) := by
    rw [h6]
    conv => lhs; rw [ha]
    exact fk_add _ _
  have erl : I' 44 0 ((I' 24 0 29 - 1).toNatClampNeg) + a = Int32.ofNat (b0 + a.toNatClampNeg) := by
    rw [c29, h44]
    conv => lhs; rw [ha]
    exact fk_add _ _
  have crl : (I' 44 0 ((I' 24 0 29 - 1).toNatClampNeg) + a).toNatClampNeg = b0 + a.toNatClampNeg := by rw [erl]; exact fk_cl (by omega)
  have vrl : vp_in (I' 44 0 ((I' 24 0 29 - 1).toNatClampNeg) + a) 260 := by rw [erl]; exact (fk_in (by omega)).mpr (by omega)
  have hrg : vp_in (Int32.ofNat (26 * c + D.2.2.1 f + tm.length)) 212 := (fk_in (by omega)).mpr (by omega)
  have crg : (Int32.ofNat (26 * c + D.2.2.1 f + tm.length)).toNatClampNeg = 26 * c + D.2.2.1 f + tm.length := fk_cl (by omega)
  obtain ⟨w1, w2⟩ := fk_pl_pop hpl
  obtain ⟨q1, q2, q3⟩ := fk_copy_v (a := 26 * c + D.2.2.1 f + tm.length) (b := 26 * c + a.toNatClampNeg) (by omega) (by omega) J G
  have hlen : ∀ t : Int32, (t :: tm).length = tm.length + 1 := fun _ => rfl
  rw [hlen] at h28
  have e28 : I' 24 0 28 - 1 = Int32.ofNat (b0 + D.2.2.1 f + tm.length) := by rw [h28, fk_d (by omega)]; rfl
  have v28 : vp_in (I' 24 0 28 - 1) 260 := by rw [e28]; exact (fk_in (by omega)).mpr (by omega)
  have c28 : (I' 24 0 28 - 1).toNatClampNeg = b0 + D.2.2.1 f + tm.length := by rw [e28]; exact fk_cl (by omega)
  unfold fmM_moveValues_p fmM_moveValues_f fmD_perform_p fmD_perform_f
  rw [if_neg (show ¬ Int32.ofNat 5 = 0 by decide), if_neg (show ¬ Int32.ofNat 5 = 1 by decide), if_neg (show ¬ Int32.ofNat 5 = 2 by decide), if_neg (show ¬ Int32.ofNat 5 = 3 by decide), if_neg (show ¬ Int32.ofNat 5 = 4 by decide), if_pos (show Int32.ofNat 5 = 5 by decide), if_neg (show ¬ Int32.ofNat 5 = 0 by decide), if_neg (show ¬ Int32.ofNat 5 = 1 by decide), if_neg (show ¬ Int32.ofNat 5 = 2 by decide), if_neg (show ¬ Int32.ofNat 5 = 3 by decide), if_neg (show ¬ Int32.ofNat 5 = 4 by decide), if_pos (show Int32.ofNat 5 = 5 by decide)]
  rw [ecl, crl, c28]
  refine ⟨⟨fun h => absurd h (show ¬ Int32.ofNat 5 = 0 by decide), fun _ => ⟨fun h => absurd h (show ¬ Int32.ofNat 5 = 1 by decide), fun _ => ⟨fun h => absurd h (show ¬ Int32.ofNat 5 = 2 by decide), fun _ => ⟨fun h => absurd h (show ¬ Int32.ofNat 5 = 3 by decide), fun _ => ⟨fun h => absurd h (show ¬ Int32.ofNat 5 = 4 by decide), fun _ => ⟨fun _ => q1, fun h => absurd (show Int32.ofNat 5 = 5 by decide) h⟩⟩⟩⟩⟩⟩, ⟨v29, ⟨fun h => absurd h (show ¬ Int32.ofNat 5 = 0 by decide), fun _ => ⟨fun h => absurd h (show ¬ Int32.ofNat 5 = 1 by decide), fun _ => ⟨fun h => absurd h (show ¬ Int32.ofNat 5 = 2 by decide), fun _ => ⟨fun h => absurd h (show ¬ Int32.ofNat 5 = 3 by decide), fun _ => ⟨fun h => absurd h (show ¬ Int32.ofNat 5 = 4 by decide), fun _ => ⟨fun _ => ⟨v28, vrl, v28, vrl⟩, fun h => absurd (show Int32.ofNat 5 = 5 by decide) h⟩⟩⟩⟩⟩⟩⟩, ?_⟩
  rw [fk_lE2, q2]
  refine ⟨fk_28 _ _, ?_, ?_⟩
  · dsimp only
    rw [fk_u_eq, show (6 : Int32) - Int32.ofNat 5 = 1 by decide, e28]
  · dsimp only
    rw [q3, fk_cDB, fk_cGD]
    exact fk_pl_set hc hn (by omega) hal w1 w2
theorem fk_mv6 {D : fk_D} {f c b0 : Nat} {ts tm ts' : List Int32} {I I' : fm_MI} {J : fm_MJ} {G : fm_MG} {J' : fm_MJ} {G' : fm_MG} (a : Int32) (pa pb : Nat × Nat) (ati : Int32) (hf : f < 4) (ht : D.1 f = true) (hD : fk_mD I' D) (hy : fk_hy D f c b0 ts I I') (hva : vp_in a 6) (hvi : fk_vi D f 6 a ts tm ts') (h20 : ts'.length ≤ 20) (hpl : fk_pl D f c b0 ts (fk_cC J G) (fk_cC J G) (fk_cD J' G') (fk_cD J' G') (fk_cG J' G')) : fmM_moveValues_p I J (Int32.ofNat 6) a (Int32.ofNat (26 * c + D.2.2.1 f + tm.length)) ∧ fmD_perform_p I' J' G' pa pb (Int32.ofNat f) (Int32.ofNat 6) a ati ∧ fk_rz D f c b0 ts' (fk_cC J G) (fk_cD J' G') I' (fmM_moveValues_f I J G (Int32.ofNat 6) a (Int32.ofNat (26 * c + D.2.2.1 f + tm.length))) (fmD_perform_f I' J' G' pa pb (Int32.ofNat f) (Int32.ofNat 6) a ati) := by
  obtain ⟨hc, hn, hb0, ht20, h6, h28, h29, h44⟩ := hy
  have e29 : I' 24 0 29 - 1 = Int32.ofNat c := by rw [h29, fk_d (by omega)]; rfl
  have v29 : vp_in (I' 24 0 29 - 1) 10 := by rw [e29]; exact (fk_in (by omega)).mpr (by omega)
  have c29 : (I' 24 0 29 - 1).toNatClampNeg = c := by rw [e29]; exact fk_cl (by omega)
  obtain ⟨hal, rfl, rfl⟩ := (show a.toNatClampNeg < D.2.2.1 f ∧ ts = D.2.2.2.2.1 f a.toNatClampNeg :: tm ∧ ts' = ts from hvi)
  have hlt : tm.length < 20 := by simp at ht20; omega
  have ha : a = Int32.ofNat a.toNatClampNeg := fk_ofc hva
  obtain ⟨-, hg⟩ := hD f hf
  obtain ⟨-, -, -, -, g5, -⟩ := hg ht
  obtain ⟨m1, m2, m3⟩ := fk_mem a hf ha (by omega)
  have h30 : I' 30 0 ((Int32.ofNat f * 6 + a).toNatClampNeg) = D.2.2.2.2.1 f a.toNatClampNeg := by rw [m2]; exact g5 _ hal
  have ecl : I 18 0 6 + a = Int32.ofNat (26 * c + a.toNatClampNeg) := by
    rw [h6]
    conv => lhs; rw [ha]
    exact fk_add _ _
  have erl : I' 44 0 ((I' 24 0 29 - 1).toNatClampNeg) + a = Int32.ofNat (b0 + a.toNatClampNeg) := by
    rw [c29, h44]
    conv => lhs; rw [ha]
    exact fk_add _ _
  have crl : (I' 44 0 ((I' 24 0 29 - 1).toNatClampNeg) + a).toNatClampNeg = b0 + a.toNatClampNeg := by rw [erl]; exact fk_cl (by omega)
  have vrl : vp_in (I' 44 0 ((I' 24 0 29 - 1).toNatClampNeg) + a) 260 := by rw [erl]; exact (fk_in (by omega)).mpr (by omega)
  have hrg : vp_in (Int32.ofNat (26 * c + D.2.2.1 f + tm.length)) 212 := (fk_in (by omega)).mpr (by omega)
  have crg : (Int32.ofNat (26 * c + D.2.2.1 f + tm.length)).toNatClampNeg = 26 * c + D.2.2.1 f + tm.length := fk_cl (by omega)
  obtain ⟨w1, w2⟩ := fk_pl_pop hpl
  obtain ⟨q1, q2, q3⟩ := fk_copy_v (a := 26 * c + D.2.2.1 f + tm.length) (b := 26 * c + a.toNatClampNeg) (by omega) (by omega) J G
  have hlen : ∀ t : Int32, (t :: tm).length = tm.length + 1 := fun _ => rfl
  rw [hlen] at h28
  have e28 : I' 24 0 28 - 1 = Int32.ofNat (b0 + D.2.2.1 f + tm.length) := by rw [h28, fk_d (by omega)]; rfl
  have v28 : vp_in (I' 24 0 28 - 1) 260 := by rw [e28]; exact (fk_in (by omega)).mpr (by omega)
  have c28 : (I' 24 0 28 - 1).toNatClampNeg = b0 + D.2.2.1 f + tm.length := by rw [e28]; exact fk_cl (by omega)
  unfold fmM_moveValues_p fmM_moveValues_f fmD_perform_p fmD_perform_f
  rw [if_neg (show ¬ Int32.ofNat 6 = 0 by decide), if_neg (show ¬ Int32.ofNat 6 = 1 by decide), if_neg (show ¬ Int32.ofNat 6 = 2 by decide), if_neg (show ¬ Int32.ofNat 6 = 3 by decide), if_neg (show ¬ Int32.ofNat 6 = 4 by decide), if_neg (show ¬ Int32.ofNat 6 = 5 by decide), if_pos (show Int32.ofNat 6 = 6 by decide), if_neg (show ¬ Int32.ofNat 6 = 0 by decide), if_neg (show ¬ Int32.ofNat 6 = 1 by decide), if_neg (show ¬ Int32.ofNat 6 = 2 by decide), if_neg (show ¬ Int32.ofNat 6 = 3 by decide), if_neg (show ¬ Int32.ofNat 6 = 4 by decide), if_neg (show ¬ Int32.ofNat 6 = 5 by decide), if_pos (show Int32.ofNat 6 = 6 by decide)]
  rw [ecl, crl, c28]
  refine ⟨⟨fun h => absurd h (show ¬ Int32.ofNat 6 = 0 by decide), fun _ => ⟨fun h => absurd h (show ¬ Int32.ofNat 6 = 1 by decide), fun _ => ⟨fun h => absurd h (show ¬ Int32.ofNat 6 = 2 by decide), fun _ => ⟨fun h => absurd h (show ¬ Int32.ofNat 6 = 3 by decide), fun _ => ⟨fun h => absurd h (show ¬ Int32.ofNat 6 = 4 by decide), fun _ => ⟨fun h => absurd h (show ¬ Int32.ofNat 6 = 5 by decide), fun _ => ⟨fun _ => q1, fun h => absurd (show Int32.ofNat 6 = 6 by decide) h⟩⟩⟩⟩⟩⟩⟩, ⟨v29, ⟨fun h => absurd h (show ¬ Int32.ofNat 6 = 0 by decide), fun _ => ⟨fun h => absurd h (show ¬ Int32.ofNat 6 = 1 by decide), fun _ => ⟨fun h => absurd h (show ¬ Int32.ofNat 6 = 2 by decide), fun _ => ⟨fun h => absurd h (show ¬ Int32.ofNat 6 = 3 by decide), fun _ => ⟨fun h => absurd h (show ¬ Int32.ofNat 6 = 4 by decide), fun _ => ⟨fun h => absurd h (show ¬ Int32.ofNat 6 = 5 by decide), fun _ => ⟨fun _ => ⟨v28, vrl, v28, vrl⟩, fun h => absurd (show Int32.ofNat 6 = 6 by decide) h⟩⟩⟩⟩⟩⟩⟩⟩, ?_⟩
  rw [fk_lE2, q2]
  refine ⟨fk_28 _ _, ?_, ?_⟩
  · dsimp only
    rw [fk_u_eq, show (6 : Int32) - Int32.ofNat 6 = 0 by decide, h28]
    simp
  · dsimp only
    rw [q3, fk_cDB, fk_cGD]
    exact fk_pl_set hc hn ht20 hal hpl w2
theorem fk_mv7 {D : fk_D} {f c b0 : Nat} {ts tm ts' : List Int32} {I I' : fm_MI} {J : fm_MJ} {G : fm_MG} {J' : fm_MJ} {G' : fm_MG} (a : Int32) (pa pb : Nat × Nat) (ati : Int32) (hf : f < 4) (ht : D.1 f = true) (hD : fk_mD I' D) (hy : fk_hy D f c b0 ts I I') (hvi : fk_vi D f 7 a ts tm ts') (h20 : ts'.length ≤ 20) (hpl : fk_pl D f c b0 ts (fk_cC J G) (fk_cC J G) (fk_cD J' G') (fk_cD J' G') (fk_cG J' G')) : fmM_moveValues_p I J (Int32.ofNat 7) a (Int32.ofNat (26 * c + D.2.2.1 f + tm.length)) ∧ fmD_perform_p I' J' G' pa pb (Int32.ofNat f) (Int32.ofNat 7) a ati ∧ fk_rz D f c b0 ts' (fk_cC J G) (fk_cD J' G') I' (fmM_moveValues_f I J G (Int32.ofNat 7) a (Int32.ofNat (26 * c + D.2.2.1 f + tm.length))) (fmD_perform_f I' J' G' pa pb (Int32.ofNat f) (Int32.ofNat 7) a ati) := by
  obtain ⟨hc, hn, hb0, ht20, h6, h28, h29, h44⟩ := hy
  have e29 : I' 24 0 29 - 1 = Int32.ofNat c := by rw [h29, fk_d (by omega)]; rfl
  have v29 : vp_in (I' 24 0 29 - 1) 10 := by rw [e29]; exact (fk_in (by omega)).mpr (by omega)
  have c29 : (I' 24 0 29 - 1).toNatClampNeg = c := by rw [e29]; exact fk_cl (by omega)
  obtain ⟨hga, rfl, rfl⟩ := (show fk_wb a 4 = true ∧ tm = ts ∧ ts' = a :: ts from hvi)
  have hlt : tm.length < 20 := by simp at h20; omega
  obtain ⟨hva, ha4⟩ := fk_wbi hga
  have ha : a = Int32.ofNat a.toNatClampNeg := fk_ofc hva
  have ecg : 208 + a = Int32.ofNat (208 + a.toNatClampNeg) := by
    conv => lhs; rw [ha]
    exact fk_add 208 _
  have hrg : vp_in (Int32.ofNat (26 * c + D.2.2.1 f + tm.length)) 212 := (fk_in (by omega)).mpr (by omega)
  have crg : (Int32.ofNat (26 * c + D.2.2.1 f + tm.length)).toNatClampNeg = 26 * c + D.2.2.1 f + tm.length := fk_cl (by omega)
  obtain ⟨q1, q2, q3⟩ := fk_copy_v (a := 208 + a.toNatClampNeg) (b := 26 * c + D.2.2.1 f + tm.length) (by omega) (by omega) J G
  have hV : fk_V a (fk_cC J G (208 + a.toNatClampNeg)) (J' 33 0 a.toNatClampNeg, G' 34 0 a.toNatClampNeg) := by
    have := hpl.2.2.2.2 _ ha4
    rw [← ha] at this
    exact this
  obtain ⟨p1, p2⟩ := fk_rz_push (v := J' 33 0 a.toNatClampNeg) (x := G' 34 0 a.toNatClampNeg) hc hn hb0 hlt h28 hpl q3 hV
  unfold fmM_moveValues_p fmM_moveValues_f fmD_perform_p fmD_perform_f
  rw [if_neg (show ¬ Int32.ofNat 7 = 0 by decide), if_neg (show ¬ Int32.ofNat 7 = 1 by decide), if_neg (show ¬ Int32.ofNat 7 = 2 by decide), if_neg (show ¬ Int32.ofNat 7 = 3 by decide), if_neg (show ¬ Int32.ofNat 7 = 4 by decide), if_neg (show ¬ Int32.ofNat 7 = 5 by decide), if_neg (show ¬ Int32.ofNat 7 = 6 by decide), if_pos (show Int32.ofNat 7 = 7 by decide), if_neg (show ¬ Int32.ofNat 7 = 0 by decide), if_neg (show ¬ Int32.ofNat 7 = 1 by decide), if_neg (show ¬ Int32.ofNat 7 = 2 by decide), if_neg (show ¬ Int32.ofNat 7 = 3 by decide), if_neg (show ¬ Int32.ofNat 7 = 4 by decide), if_neg (show ¬ Int32.ofNat 7 = 5 by decide), if_neg (show ¬ Int32.ofNat 7 = 6 by decide), if_pos (show Int32.ofNat 7 = 7 by decide)]
  rw [ecg]
  refine ⟨⟨fun h => absurd h (show ¬ Int32.ofNat 7 = 0 by decide), fun _ => ⟨fun h => absurd h (show ¬ Int32.ofNat 7 = 1 by decide), fun _ => ⟨fun h => absurd h (show ¬ Int32.ofNat 7 = 2 by decide), fun _ => ⟨fun h => absurd h (show ¬ Int32.ofNat 7 = 3 by decide), fun _ => ⟨fun h => absurd h (show ¬ Int32.ofNat 7 = 4 by decide), fun _ => ⟨fun h => absurd h (show ¬ Int32.ofNat 7 = 5 by decide), fun _ => ⟨fun h => absurd h (show ¬ Int32.ofNat 7 = 6 by decide), fun _ => ⟨fun _ => q1, fun h => absurd (show Int32.ofNat 7 = 7 by decide) h⟩⟩⟩⟩⟩⟩⟩⟩, ⟨v29, ⟨fun h => absurd h (show ¬ Int32.ofNat 7 = 0 by decide), fun _ => ⟨fun h => absurd h (show ¬ Int32.ofNat 7 = 1 by decide), fun _ => ⟨fun h => absurd h (show ¬ Int32.ofNat 7 = 2 by decide), fun _ => ⟨fun h => absurd h (show ¬ Int32.ofNat 7 = 3 by decide), fun _ => ⟨fun h => absurd h (show ¬ Int32.ofNat 7 = 4 by decide), fun _ => ⟨fun h => absurd h (show ¬ Int32.ofNat 7 = 5 by decide), fun _ => ⟨fun h => absurd h (show ¬ Int32.ofNat 7 = 6 by decide), fun _ => ⟨fun _ => ⟨hva, hva, p1⟩, fun h => absurd (show Int32.ofNat 7 = 7 by decide) h⟩⟩⟩⟩⟩⟩⟩⟩⟩, ?_⟩
  rw [fk_lE2, fk_lE3, q2]
  exact p2
theorem fk_mv8 {D : fk_D} {f c b0 : Nat} {ts tm ts' : List Int32} {I I' : fm_MI} {J : fm_MJ} {G : fm_MG} {J' : fm_MJ} {G' : fm_MG} (a : Int32) (pa pb : Nat × Nat) (ati : Int32) (hf : f < 4) (ht : D.1 f = true) (hD : fk_mD I' D) (hy : fk_hy D f c b0 ts I I') (hvi : fk_vi D f 8 a ts tm ts') (h20 : ts'.length ≤ 20) (hpl : fk_pl D f c b0 ts (fk_cC J G) (fk_cC J G) (fk_cD J' G') (fk_cD J' G') (fk_cG J' G')) : fmM_moveValues_p I J (Int32.ofNat 8) a (Int32.ofNat (26 * c + D.2.2.1 f + tm.length)) ∧ fmD_perform_p I' J' G' pa pb (Int32.ofNat f) (Int32.ofNat 8) a ati ∧ fk_rz D f c b0 ts' (fk_cC J G) (fk_cD J' G') I' (fmM_moveValues_f I J G (Int32.ofNat 8) a (Int32.ofNat (26 * c + D.2.2.1 f + tm.length))) (fmD_perform_f I' J' G' pa pb (Int32.ofNat f) (Int32.ofNat 8) a ati) := by
  obtain ⟨hc, hn, hb0, ht20, h6, h28, h29, h44⟩ := hy
  have e29 : I' 24 0 29 - 1 = Int32.ofNat c := by rw [h29, fk_d (by omega)]; rfl
  have v29 : vp_in (I' 24 0 29 - 1) 10 := by rw [e29]; exact (fk_in (by omega)).mpr (by omega)
  have c29 : (I' 24 0 29 - 1).toNatClampNeg = c := by rw [e29]; exact fk_cl (by omega)
  obtain ⟨hga, rfl, e0⟩ := (show fk_wb a 4 = true ∧ ts = a :: tm ∧ ts' = tm from hvi)
  have e0' := e0.symm
  subst e0'
  have hlt : tm.length < 20 := by simp at ht20; omega
  obtain ⟨hva, ha4⟩ := fk_wbi hga
  have ha : a = Int32.ofNat a.toNatClampNeg := fk_ofc hva
  have ecg : 208 + a = Int32.ofNat (208 + a.toNatClampNeg) := by
    conv => lhs; rw [ha]
    exact fk_add 208 _
  have hrg : vp_in (Int32.ofNat (26 * c + D.2.2.1 f + tm.length)) 212 := (fk_in (by omega)).mpr (by omega)
  have crg : (Int32.ofNat (26 * c + D.2.2.1 f + tm.length)).toNatClampNeg = 26 * c + D.2.2.1 f + tm.length := fk_cl (by omega)
  obtain ⟨w1, w2⟩ := fk_pl_pop hpl
  obtain ⟨q1, q2, q3⟩ := fk_copy_v (a := 26 * c + D.2.2.1 f + tm.length) (b := 208 + a.toNatClampNeg) (by omega) (by omega) J G
  have hlen : ∀ t : Int32, (t :: tm).length = tm.length + 1 := fun _ => rfl
  rw [hlen] at h28
  have e28 : I' 24 0 28 - 1 = Int32.ofNat (b0 + D.2.2.1 f + tm.length) := by rw [h28, fk_d (by omega)]; rfl
  have v28 : vp_in (I' 24 0 28 - 1) 260 := by rw [e28]; exact (fk_in (by omega)).mpr (by omega)
  have c28 : (I' 24 0 28 - 1).toNatClampNeg = b0 + D.2.2.1 f + tm.length := by rw [e28]; exact fk_cl (by omega)
  unfold fmM_moveValues_p fmM_moveValues_f fmD_perform_p fmD_perform_f
  rw [if_neg (show ¬ Int32.ofNat 8 = 0 by decide), if_neg (show ¬ Int32.ofNat 8 = 1 by decide), if_neg (show ¬ Int32.ofNat 8 = 2 by decide), if_neg (show ¬ Int32.ofNat 8 = 3 by decide), if_neg (show ¬ Int32.ofNat 8 = 4 by decide), if_neg (show ¬ Int32.ofNat 8 = 5 by decide), if_neg (show ¬ Int32.ofNat 8 = 6 by decide), if_neg (show ¬ Int32.ofNat 8 = 7 by decide), if_pos (show Int32.ofNat 8 = 8 by decide), if_neg (show ¬ Int32.ofNat 8 = 0 by decide), if_neg (show ¬ Int32.ofNat 8 = 1 by decide), if_neg (show ¬ Int32.ofNat 8 = 2 by decide), if_neg (show ¬ Int32.ofNat 8 = 3 by decide), if_neg (show ¬ Int32.ofNat 8 = 4 by decide), if_neg (show ¬ Int32.ofNat 8 = 5 by decide), if_neg (show ¬ Int32.ofNat 8 = 6 by decide), if_neg (show ¬ Int32.ofNat 8 = 7 by decide), if_pos (show Int32.ofNat 8 = 8 by decide)]
  rw [ecg, c28]
  refine ⟨⟨fun h => absurd h (show ¬ Int32.ofNat 8 = 0 by decide), fun _ => ⟨fun h => absurd h (show ¬ Int32.ofNat 8 = 1 by decide), fun _ => ⟨fun h => absurd h (show ¬ Int32.ofNat 8 = 2 by decide), fun _ => ⟨fun h => absurd h (show ¬ Int32.ofNat 8 = 3 by decide), fun _ => ⟨fun h => absurd h (show ¬ Int32.ofNat 8 = 4 by decide), fun _ => ⟨fun h => absurd h (show ¬ Int32.ofNat 8 = 5 by decide), fun _ => ⟨fun h => absurd h (show ¬ Int32.ofNat 8 = 6 by decide), fun _ => ⟨fun h => absurd h (show ¬ Int32.ofNat 8 = 7 by decide), fun _ => ⟨fun _ => q1, fun h => absurd (show Int32.ofNat 8 = 8 by decide) h⟩⟩⟩⟩⟩⟩⟩⟩⟩, ⟨v29, ⟨fun h => absurd h (show ¬ Int32.ofNat 8 = 0 by decide), fun _ => ⟨fun h => absurd h (show ¬ Int32.ofNat 8 = 1 by decide), fun _ => ⟨fun h => absurd h (show ¬ Int32.ofNat 8 = 2 by decide), fun _ => ⟨fun h => absurd h (show ¬ Int32.ofNat 8 = 3 by decide), fun _ => ⟨fun h => absurd h (show ¬ Int32.ofNat 8 = 4 by decide), fun _ => ⟨fun h => absurd h (show ¬ Int32.ofNat 8 = 5 by decide), fun _ => ⟨fun h => absurd h (show ¬ Int32.ofNat 8 = 6 by decide), fun _ => ⟨fun h => absurd h (show ¬ Int32.ofNat 8 = 7 by decide), fun _ => ⟨fun _ => ⟨v28, hva, v28, hva⟩, fun h => absurd (show Int32.ofNat 8 = 8 by decide) h⟩⟩⟩⟩⟩⟩⟩⟩⟩⟩, ?_⟩
  rw [fk_lE2, q2]
  refine ⟨fk_28 _ _, ?_, ?_⟩
  · dsimp only
    rw [fk_u_eq, e28]
  · dsimp only
    rw [q3, fk_cDG, fk_cGB]
    exact fk_pl_glo hc hn (by omega) ha4 w1 (by rw [← ha]; exact w2)
theorem fk_mv9 {D : fk_D} {f c b0 : Nat} {ts tm ts' : List Int32} {I I' : fm_MI} {J : fm_MJ} {G : fm_MG} {J' : fm_MJ} {G' : fm_MG} (a : Int32) (pa pb : Nat × Nat) (ati : Int32) (hf : f < 4) (ht : D.1 f = true) (hD : fk_mD I' D) (hy : fk_hy D f c b0 ts I I') (hvi : fk_vi D f 9 a ts tm ts') (h20 : ts'.length ≤ 20) (hpl : fk_pl D f c b0 ts (fk_cC J G) (fk_cC J G) (fk_cD J' G') (fk_cD J' G') (fk_cG J' G')) : fmM_moveValues_p I J (Int32.ofNat 9) a (Int32.ofNat (26 * c + D.2.2.1 f + tm.length)) ∧ fmD_perform_p I' J' G' pa pb (Int32.ofNat f) (Int32.ofNat 9) a ati ∧ fk_rz D f c b0 ts' (fk_cC J G) (fk_cD J' G') I' (fmM_moveValues_f I J G (Int32.ofNat 9) a (Int32.ofNat (26 * c + D.2.2.1 f + tm.length))) (fmD_perform_f I' J' G' pa pb (Int32.ofNat f) (Int32.ofNat 9) a ati) := by
  obtain ⟨hc, hn, hb0, ht20, h6, h28, h29, h44⟩ := hy
  have e29 : I' 24 0 29 - 1 = Int32.ofNat c := by rw [h29, fk_d (by omega)]; rfl
  have v29 : vp_in (I' 24 0 29 - 1) 10 := by rw [e29]; exact (fk_in (by omega)).mpr (by omega)
  have c29 : (I' 24 0 29 - 1).toNatClampNeg = c := by rw [e29]; exact fk_cl (by omega)
  obtain ⟨t, rfl, e0⟩ := (show ∃ t, ts = t :: tm ∧ ts' = tm from hvi)
  have e0' := e0.symm
  subst e0'
  obtain ⟨w1, w2⟩ := fk_pl_pop hpl
  have hlen : ∀ t : Int32, (t :: tm).length = tm.length + 1 := fun _ => rfl
  rw [hlen] at h28
  have e28 : I' 24 0 28 - 1 = Int32.ofNat (b0 + D.2.2.1 f + tm.length) := by rw [h28, fk_d (by omega)]; rfl
  unfold fmM_moveValues_p fmM_moveValues_f fmD_perform_p fmD_perform_f
  rw [if_neg (show ¬ Int32.ofNat 9 = 0 by decide), if_neg (show ¬ Int32.ofNat 9 = 1 by decide), if_neg (show ¬ Int32.ofNat 9 = 2 by decide), if_neg (show ¬ Int32.ofNat 9 = 3 by decide), if_neg (show ¬ Int32.ofNat 9 = 4 by decide), if_neg (show ¬ Int32.ofNat 9 = 5 by decide), if_neg (show ¬ Int32.ofNat 9 = 6 by decide), if_neg (show ¬ Int32.ofNat 9 = 7 by decide), if_neg (show ¬ Int32.ofNat 9 = 8 by decide), if_pos (show Int32.ofNat 9 = 9 by decide), if_neg (show ¬ Int32.ofNat 9 = 0 by decide), if_neg (show ¬ Int32.ofNat 9 = 1 by decide), if_neg (show ¬ Int32.ofNat 9 = 2 by decide), if_neg (show ¬ Int32.ofNat 9 = 3 by decide), if_neg (show ¬ Int32.ofNat 9 = 4 by decide), if_neg (show ¬ Int32.ofNat 9 = 5 by decide), if_neg (show ¬ Int32.ofNat 9 = 6 by decide), if_neg (show ¬ Int32.ofNat 9 = 7 by decide), if_neg (show ¬ Int32.ofNat 9 = 8 by decide), if_pos (show Int32.ofNat 9 = 9 by decide)]
  refine ⟨⟨fun h => absurd h (show ¬ Int32.ofNat 9 = 0 by decide), fun _ => ⟨fun h => absurd h (show ¬ Int32.ofNat 9 = 1 by decide), fun _ => ⟨fun h => absurd h (show ¬ Int32.ofNat 9 = 2 by decide), fun _ => ⟨fun h => absurd h (show ¬ Int32.ofNat 9 = 3 by decide), fun _ => ⟨fun h => absurd h (show ¬ Int32.ofNat 9 = 4 by decide), fun _ => ⟨fun h => absurd h (show ¬ Int32.ofNat 9 = 5 by decide), fun _ => ⟨fun h => absurd h (show ¬ Int32.ofNat 9 = 6 by decide), fun _ => ⟨fun h => absurd h (show ¬ Int32.ofNat 9 = 7 by decide), fun _ => ⟨fun h => absurd h (show ¬ Int32.ofNat 9 = 8 by decide), fun _ => ⟨fun _ => trivial, fun h => absurd (show Int32.ofNat 9 = 9 by decide) h⟩⟩⟩⟩⟩⟩⟩⟩⟩⟩, ⟨v29, ⟨fun h => absurd h (show ¬ Int32.ofNat 9 = 0 by decide), fun _ => ⟨fun h => absurd h (show ¬ Int32.ofNat 9 = 1 by decide), fun _ => ⟨fun h => absurd h (show ¬ Int32.ofNat 9 = 2 by decide), fun _ => ⟨fun h => absurd h (show ¬ Int32.ofNat 9 = 3 by decide), fun _ => ⟨fun h => absurd h (show ¬ Int32.ofNat 9 = 4 by decide), fun _ => ⟨fun h => absurd h (show ¬ Int32.ofNat 9 = 5 by decide), fun _ => ⟨fun h => absurd h (show ¬ Int32.ofNat 9 = 6 by decide), fun _ => ⟨fun h => absurd h (show ¬ Int32.ofNat 9 = 7 by decide), fun _ => ⟨fun h => absurd h (show ¬ Int32.ofNat 9 = 8 by decide), fun _ => ⟨fun _ => trivial, fun h => absurd (show Int32.ofNat 9 = 9 by decide) h⟩⟩⟩⟩⟩⟩⟩⟩⟩⟩⟩, ?_⟩
  refine ⟨fk_28 _ _, ?_, ?_⟩
  · dsimp only
    rw [fk_u_eq, e28]
  · exact w1
