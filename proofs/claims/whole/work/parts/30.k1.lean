theorem fk_cl {n : Nat} (h : n < 2147483648) : (Int32.ofNat n).toNatClampNeg = n := by
  rw [Int32.toNatClampNeg, Int32.toInt_ofNat_of_lt (by simpa using h)]
  simp
theorem fk_ie {a b : Nat} (ha : a < 2147483648) (hb : b < 2147483648) : Int32.ofNat a = Int32.ofNat b ↔ a = b := by
  refine ⟨fun h => ?_, fun h => h ▸ rfl⟩
  have := congrArg Int32.toNatClampNeg h
  rwa [fk_cl ha, fk_cl hb] at this
theorem fk_nn {n : Nat} (h : n < 2147483648) : ¬ (Int32.ofNat n < 0) := by
  rw [Int32.lt_iff_toInt_lt, Int32.toInt_ofNat_of_lt (by simpa using h)]
  simp
theorem fk_in {n m : Nat} (h : n < 2147483648) : vp_in (Int32.ofNat n) m ↔ n < m := by
  unfold vp_in
  rw [fk_cl h]
  simp [fk_nn h]
theorem fk_s (n : Nat) : Int32.ofNat n + 1 = Int32.ofNat (n + 1) := by
  rw [Int32.ofNat_add]; rfl
theorem fk_d {n : Nat} (h : 0 < n) : Int32.ofNat n - 1 = Int32.ofNat (n - 1) := by
  obtain ⟨m, rfl⟩ : ∃ m, n = m + 1 := ⟨n - 1, by omega⟩
  rw [← fk_s]
  simp
theorem fk_le {a b : Nat} (ha : a < 2147483648) (hb : b < 2147483648) : Int32.ofNat a ≤ Int32.ofNat b ↔ a ≤ b := by
  rw [Int32.le_iff_toInt_le, Int32.toInt_ofNat_of_lt (by simpa using ha), Int32.toInt_ofNat_of_lt (by simpa using hb)]
  omega
theorem fk_lt {a b : Nat} (ha : a < 2147483648) (hb : b < 2147483648) : Int32.ofNat a < Int32.ofNat b ↔ a < b := by
  rw [Int32.lt_iff_toInt_lt, Int32.toInt_ofNat_of_lt (by simpa using ha), Int32.toInt_ofNat_of_lt (by simpa using hb)]
  omega
abbrev fk_F : Type := Int32 × Int32 × Nat × Bool × Bool × Nat × Nat × Int32
abbrev fk_R : Type := (Nat → Int32) × (Nat → Int32) × (Nat → Int32) × (Nat → Int32) × (Nat → Int32) × (Nat → Int32)
abbrev fk_K : Type := List Int32 × List fk_F × Nat × fk_R
abbrev fk_D : Type := (Nat → Bool) × (Nat → Nat) × (Nat → Nat) × (Nat → Int32) × (Nat → Nat → Int32) × (Nat → Nat) × (Nat → Nat → Nat) × (Nat → Nat → Int32)
def fk_b (b : Bool) : Int32 := cond b 1 0
def fk_up {α : Type} (f : Nat → α) (n : Nat) (x : α) : Nat → α := fun m => if m = n then x else f m
def fk_lv : List fk_F → Bool
  | [] => false
  | f :: _ => f.2.2.2.1 && !f.2.2.2.2.1
def fk_take (w : Int32) (k : fk_K) : Int32 ⊕ (Int32 × fk_K) :=
  if w = 4 then .inr (w, k) else
  match k with
  | (_, [], _) => .inl 99
  | (ts, f :: fs, q) =>
    if ts.length = f.2.2.1 then (if f.2.2.2.2.1 = true then .inr (w, (ts, f :: fs, q)) else .inl 2)
    else match ts with
      | [] => .inl 99
      | t :: r => if t = 5 then .inr (w, (r, f :: fs, q)) else if w = 5 then .inr (t, (r, f :: fs, q)) else if w = t then .inr (t, (r, f :: fs, q)) else .inl 3
def fk_put (t : Int32) (k : fk_K) : Int32 ⊕ fk_K :=
  if t = 4 then .inr k else if k.1.length = 20 then .inl 7 else .inr (t :: k.1, k.2)
def fk_bind {α β : Type} (x : Int32 ⊕ α) (f : α → Int32 ⊕ β) : Int32 ⊕ β :=
  match x with
  | .inl c => .inl c
  | .inr k => f k
def fk_tk (w : Int32) (k : fk_K) : Int32 ⊕ fk_K := fk_bind (fk_take w k) (fun q => .inr q.2)
def fk_row (nl : Nat) (op a : Int32) (k : fk_K) : fk_K :=
  match k with
  | (ts, fs, L, (r1, r2, r3, r4, r5, r6)) =>
    if fk_lv fs = true then (ts, fs, L + 1, (fk_up r1 L op, fk_up r2 L a, fk_up r3 L (Int32.ofNat (nl + ts.length)), fk_up r4 L (-1), fk_up r5 L (-1), fk_up r6 L (-1)))
    else (ts, fs, L, (r1, r2, r3, r4, r5, r6))
def fk_die (k : fk_K) : fk_K :=
  match k with
  | (ts, [], q) => (ts, [], q)
  | (ts, (kd, gv, b, lv, de, ia, st, br) :: fs, q) => (ts.drop (ts.length - b), (kd, gv, b, lv, true, ia, st, br) :: fs, q)
def fk_open (i : Nat) (op t : Int32) (br : Int32) (k : fk_K) : Int32 ⊕ fk_K :=
  match k with
  | (ts, fs, L, R) => if fs.length = 9 then .inl 7 else .inr (ts, (op, t, ts.length, fk_lv fs, false, i, L, br) :: fs, L, R)
def fk_just (k : fk_K) : Int32 ⊕ fk_K :=
  match k with
  | (_, [], _) => .inl 99
  | (ts, f :: fs, q) => fk_bind (fk_tk f.2.1 (ts, f :: fs, q)) (fun k' => if f.2.2.1 < k'.1.length then .inl 4 else .inr k')
def fk_here (rw : Int32) (k : fk_K) : fk_K :=
  match k with
  | (ts, fs, L, (r1, r2, r3, r4, r5, r6)) => if rw = -1 then (ts, fs, L, (r1, r2, r3, r4, r5, r6)) else (ts, fs, L, (r1, r2, r3, r4, fk_up r5 rw.toNatClampNeg (Int32.ofNat L), r6))
def fk_all (j : Nat) (k : fk_K) : fk_K :=
  match k with
  | (ts, fs, L, (r1, r2, r3, r4, r5, r6)) => (ts, fs, L, (r1, r2, r3, r4, fun r => if r < L ∧ r6 r = Int32.ofNat j then Int32.ofNat L else r5 r, fun r => if r < L ∧ r6 r = Int32.ofNat j then -1 else r6 r))
def fk_w10 (s : Nat) (y : Int32) (k : fk_K) : fk_K :=
  match k with
  | (ts, fs, L, (r1, r2, r3, r4, r5, r6)) => (ts, fs, L, (r1, r2, r3, fk_up r4 s y, r5, r6))
def fk_w11 (s : Nat) (y : Int32) (k : fk_K) : fk_K :=
  match k with
  | (ts, fs, L, (r1, r2, r3, r4, r5, r6)) => (ts, fs, L, (r1, r2, r3, r4, fk_up r5 s y, r6))
def fk_w12 (s : Nat) (y : Int32) (k : fk_K) : fk_K :=
  match k with
  | (ts, fs, L, (r1, r2, r3, r4, r5, r6)) => (ts, fs, L, (r1, r2, r3, r4, r5, fk_up r6 s y))
def fk_kdx (kd : Int32) (de : Bool) (k : fk_K) : fk_K :=
  match k with
  | (ts, [], q) => (ts, [], q)
  | (ts, fr :: fs, q) => (ts, (kd, fr.2.1, fr.2.2.1, fr.2.2.2.1, de, fr.2.2.2.2.2) :: fs, q)
def fk_elz (nl o : Nat) (br : Int32) (k : fk_K) : fk_K :=
  fk_kdx 24 false (fk_here br (if fk_lv k.2.1 = true then fk_w12 k.2.2.1 (Int32.ofNat o) (fk_row nl 26 0 k) else k))
def fk_else (nl : Nat) (k : fk_K) : Int32 ⊕ fk_K :=
  match k with
  | (_, [], _) => .inl 5
  | (ts, f :: fs, q) =>
    if f.1 = 23 then fk_bind (fk_just (ts, f :: fs, q)) (fun k' => .inr (fk_elz nl fs.length f.2.2.2.2.2.2.2 k'))
    else .inl 5
def fk_pop (k : fk_K) : fk_K := (k.1, k.2.1.tail, k.2.2)
def fk_end (k : fk_K) : Int32 ⊕ fk_K :=
  match k with
  | (_, [], _) => .inl 5
  | (_, [_], _) => .inl 5
  | (ts, f :: g :: fs, q) => fk_bind (fk_just (ts, f :: g :: fs, q)) (fun k' =>
      if f.1 = 23 ∧ f.2.1 ≠ 4 then .inl 6 else
      fk_put f.2.1 (fk_pop (fk_all (fs.length + 1) (if f.1 = 23 then fk_here f.2.2.2.2.2.2.2 k' else k'))))
def fk_need (f : fk_F) : Int32 := if f.1 = 22 then 4 else f.2.1
def fk_jmz (nl o : Nat) (op : Int32) (f : fk_F) (k : fk_K) : fk_K :=
  if fk_lv k.2.1 = true then
    (if fk_need f = 4 then (if f.1 = 22 then fk_w11 k.2.2.1 (Int32.ofNat f.2.2.2.2.2.2.1) (fk_row nl op 0 k) else fk_w12 k.2.2.1 (Int32.ofNat o) (fk_row nl op 0 k))
     else (if f.1 = 22 then fk_w11 k.2.2.1 (Int32.ofNat f.2.2.2.2.2.2.1) (fk_w10 k.2.2.1 (Int32.ofNat (nl + f.2.2.1)) (fk_row nl op 0 k)) else fk_w12 k.2.2.1 (Int32.ofNat o) (fk_w10 k.2.2.1 (Int32.ofNat (nl + f.2.2.1)) (fk_row nl op 0 k))))
  else k
def fk_jump (nl : Nat) (op : Int32) (a : Nat) (k : fk_K) : Int32 ⊕ fk_K :=
  match k.2.1.drop a with
  | [] => .inl 99
  | f :: fs => fk_bind (fk_tk (fk_need f) k) (fun k' => .inr (fk_jmz nl fs.length op f k'))
def fk_pars (ty : Nat → Int32) : Nat → fk_K → Int32 ⊕ fk_K
  | 0, k => .inr k
  | n + 1, k => fk_bind (fk_tk (ty n) k) (fk_pars ty n)
def fk_wb (a : Int32) (m : Nat) : Bool := decide (¬ a < 0) && decide (a.toNatClampNeg < m)
def fk_okn (D : fk_D) (f o : Nat) (a : Int32) (fr : Nat) : Bool :=
  match o with
  | 4 | 5 | 6 => fk_wb a (D.2.2.1 f)
  | 7 | 8 => fk_wb a 4
  | 11 | 12 | 13 | 14 | 18 | 19 => fk_wb a 4
  | 15 | 16 | 17 => fk_wb a 2
  | 20 => fk_wb a 16
  | 21 | 22 | 23 => fk_wb a 5
  | 26 | 27 => fk_wb a fr
  | 29 => fk_wb a 4 && D.1 a.toNatClampNeg
  | _ => true
def fk_do (D : fk_D) (f i o : Nat) (a : Int32) (k : fk_K) : Int32 ⊕ fk_K :=
  let nl := D.2.2.1 f
  let ty := D.2.2.2.2.1
  let op := Int32.ofNat o
  match o with
  | 4 => fk_put (ty f a.toNatClampNeg) (fk_row nl op a k)
  | 5 => fk_bind (fk_tk (ty f a.toNatClampNeg) k) (fun k => .inr (fk_row nl op a k))
  | 6 => fk_bind (fk_tk (ty f a.toNatClampNeg) k) (fun k => fk_put (ty f a.toNatClampNeg) (fk_row nl op a k))
  | 7 => fk_put a (fk_row nl op a k)
  | 8 => fk_bind (fk_tk a k) (fun k => .inr (fk_row nl op a k))
  | 9 => fk_bind (fk_tk 5 k) (fun k => .inr (fk_row nl op a k))
  | 10 => fk_bind (fk_tk 0 k) (fun k => fk_bind (fk_take 5 k) (fun q => fk_bind (fk_take q.1 q.2) (fun p => fk_put p.1 (fk_row nl op a p.2))))
  | 11 | 12 | 13 | 14 | 15 | 16 | 17 => fk_bind (fk_tk a k) (fun k => fk_bind (fk_tk a k) (fun k => fk_put a (fk_row nl op a k)))
  | 18 | 19 => fk_bind (fk_tk a k) (fun k => fk_bind (fk_tk a k) (fun k => fk_put 0 (fk_row nl op a k)))
  | 20 => fk_bind (fk_tk (a / 4) k) (fun k => fk_put (a - a / 4 * 4) (fk_row nl op a k))
  | 21 | 22 => fk_open i op a (-1) k
  | 23 => fk_bind (fk_tk 0 k) (fun k => fk_open i op a (if fk_lv k.2.1 = true then Int32.ofNat k.2.2.1 else -1) (fk_row nl op a k))
  | 24 => fk_else nl k
  | 25 => fk_end k
  | 26 => fk_bind (fk_jump nl 26 a.toNatClampNeg k) (fun k => .inr (fk_die k))
  | 27 => fk_bind (fk_tk 0 k) (fun k => fk_bind (fk_jump nl 27 a.toNatClampNeg k) (fun k' => match k.2.1.drop a.toNatClampNeg with | [] => .inl 99 | f :: _ => fk_put (fk_need f) k'))
  | 28 => fk_bind (fk_jump nl 26 (k.2.1.length - 1) k) (fun k => .inr (fk_die k))
  | 29 => fk_bind (fk_pars (ty a.toNatClampNeg) (D.2.1 a.toNatClampNeg) k) (fun k => fk_put (D.2.2.2.1 a.toNatClampNeg) (fk_row nl op a k))
  | 30 => .inr (fk_die (fk_row nl op a k))
  | _ => fk_put op (fk_row nl op a k)
def fk_stp (D : fk_D) (f i o : Nat) (a : Int32) (k : fk_K) : Int32 ⊕ fk_K :=
  cond (fk_okn D f o a k.2.1.length) (fk_do D f i o a k) (.inl 1)
def fk_mC (I : fm_MI) (D : fk_D) : Prop := ∀ g, g < 4 → I 2 g 0 = fk_b (D.1 g) ∧ (D.1 g = false → I 2 g 4 = 0) ∧ (D.1 g = true → I 2 g 1 = Int32.ofNat (D.2.1 g) ∧ D.2.1 g ≤ 3 ∧ I 2 g 2 = Int32.ofNat (D.2.2.1 g) ∧ D.2.1 g ≤ D.2.2.1 g ∧ D.2.2.1 g ≤ 6 ∧ I 2 g 3 = D.2.2.2.1 g ∧ fk_wb (D.2.2.2.1 g) 5 = true ∧ I 2 g 4 = Int32.ofNat (D.2.2.2.2.2.1 g) ∧ D.2.2.2.2.2.1 g ≤ 40 ∧ (∀ j, j < D.2.2.1 g → I 3 g j = D.2.2.2.2.1 g j ∧ fk_wb (D.2.2.2.2.1 g j) 4 = true) ∧ ∀ i, i < D.2.2.2.2.2.1 g → I 4 g i = Int32.ofNat (D.2.2.2.2.2.2.1 g i) ∧ D.2.2.2.2.2.2.1 g i ≤ 30 ∧ I 5 g i = D.2.2.2.2.2.2.2 g i)
def fk_stk (T : Nat → Int32) : List Int32 → Prop
  | [] => True
  | t :: r => T r.length = t ∧ fk_stk T r
def fk_frm (F : Nat → Nat → Int32) : List fk_F → Prop
  | [] => True
  | f :: r => (F r.length 0 = f.1 ∧ F r.length 1 = f.2.1 ∧ F r.length 2 = Int32.ofNat f.2.2.1 ∧ F r.length 3 = Int32.ofNat f.2.2.2.2.2.2.1 ∧ F r.length 4 = f.2.2.2.2.2.2.2 ∧ F r.length 5 = fk_b f.2.2.2.1 ∧ F r.length 6 = fk_b f.2.2.2.2.1) ∧ fk_frm F r
def fk_bs : Nat → List fk_F → Prop
  | _, [] => True
  | n, f :: r => f.2.2.1 ≤ n ∧ fk_bs f.2.2.1 r
def fk_rws (I : fm_MI) (f L : Nat) (R : fk_R) : Prop := ∀ r, r < L → I 7 f r = R.1 r ∧ I 8 f r = R.2.1 r ∧ I 9 f r = R.2.2.1 r ∧ I 10 f r = R.2.2.2.1 r ∧ I 11 f r = R.2.2.2.2.1 r ∧ I 12 f r = R.2.2.2.2.2 r
def fk_fr (I0 I : fm_MI) (f : Nat) : Prop := ∀ k i s, k ≠ 13 → k ≠ 15 → k ≠ 17 → (6 ≤ k → k ≤ 12 → i ≠ f) → I k i s = I0 k i s
def fk_wk (I0 I : fm_MI) (f n : Nat) : Prop := fk_fr I0 I f ∧ I 13 0 1 = Int32.ofNat f ∧ (∃ o, o ≤ 8 ∧ I 13 0 6 = Int32.ofNat o) ∧ (∃ L, L ≤ n ∧ I 6 f 0 = Int32.ofNat L) ∧ ∀ j, j < 9 → I 17 j 4 = -1 ∨ vp_in (I 17 j 4) 40
def fk_C (I : fm_MI) (f : Nat) (k : fk_K) : Prop := I 13 0 2 = 0 ∧ I 13 0 4 = Int32.ofNat k.1.length ∧ k.1.length ≤ 20 ∧ fk_stk (I 15 0) k.1 ∧ 1 ≤ k.2.1.length ∧ k.2.1.length ≤ 9 ∧ I 13 0 6 = Int32.ofNat (k.2.1.length - 1) ∧ fk_frm (I 17) k.2.1 ∧ I 6 f 0 = Int32.ofNat k.2.2.1 ∧ fk_bs k.1.length k.2.1 ∧ k.2.2.1 ≤ 40 ∧ fk_rws I f k.2.2.1 k.2.2.2
def fk_S (I0 I : fm_MI) (f n : Nat) (x : Int32 ⊕ fk_K) : Prop := fk_wk I0 I f n ∧ match x with | .inl c => I 13 0 2 = c ∧ c ≠ 0 | .inr k => fk_C I f k
theorem fk_u_ne {α : Type} (f : Nat → Nat → Nat → α) {k i s : Nat} {x : α} {k' : Nat} (i' s' : Nat) (h : k' ≠ k) : fm_u f k i s x k' i' s' = f k' i' s' := by
  rw [fm_u_if, if_neg (fun q => h q.1)]
theorem fk_u_ns {α : Type} (f : Nat → Nat → Nat → α) {k i s : Nat} {x : α} (k' i' : Nat) {s' : Nat} (h : s' ≠ s) : fm_u f k i s x k' i' s' = f k' i' s' := by
  rw [fm_u_if, if_neg (fun q => h q.2.2)]
theorem fk_u_eq {α : Type} (f : Nat → Nat → Nat → α) {k i s : Nat} {x : α} : fm_u f k i s x k i s = x := by
  rw [fm_u_if, if_pos ⟨rfl, rfl, rfl⟩]
theorem fk_stk_c {T T' : Nat → Int32} : ∀ {l : List Int32}, (∀ j, j < l.length → T' j = T j) → fk_stk T l → fk_stk T' l
  | [], _, _ => trivial
  | t :: r, h, ⟨h1, h2⟩ => ⟨(h _ (by simp)).trans h1, fk_stk_c (fun j hj => h j (by simp; omega)) h2⟩
theorem fk_frm_c {T T' : Nat → Nat → Int32} : ∀ {l : List fk_F}, (∀ j s, j < l.length → T' j s = T j s) → fk_frm T l → fk_frm T' l
  | [], _, _ => trivial
  | t :: r, h, ⟨⟨h1, h2, h3, h4, h5, h6, h7⟩, h8⟩ => ⟨⟨(h _ _ (by simp)).trans h1, (h _ _ (by simp)).trans h2, (h _ _ (by simp)).trans h3, (h _ _ (by simp)).trans h4, (h _ _ (by simp)).trans h5, (h _ _ (by simp)).trans h6, (h _ _ (by simp)).trans h7⟩, fk_frm_c (fun j s hj => h j s (by simp; omega)) h8⟩
theorem fk_wk13 {I0 I : fm_MI} {f n : Nat} (h : fk_wk I0 I f n) (s : Nat) (x : Int32) (h1 : s ≠ 1) (h6 : s ≠ 6) : fk_wk I0 (fm_u I 13 0 s x) f n := by
  obtain ⟨a, b, c, d, e⟩ := h
  refine ⟨fun k i s' q1 q2 q3 q4 => (fk_u_ne I _ _ q1).trans (a k i s' q1 q2 q3 q4), ?_, ?_, ?_, ?_⟩
  · rw [fk_u_ns I _ _ (Ne.symm h1)]; exact b
  · rw [fk_u_ns I _ _ (Ne.symm h6)]; exact c
  · simpa only [fk_u_ne I _ _ (show (6 : Nat) ≠ 13 by decide)] using d
  · simpa only [fk_u_ne I _ _ (show (17 : Nat) ≠ 13 by decide)] using e
theorem fk_C13 {I : fm_MI} {f : Nat} {ts : List Int32} {q : List fk_F × Nat × fk_R} (h : fk_C I f (ts, q)) {ts' : List Int32} (h20 : ts'.length ≤ 20) (hs : fk_stk (I 15 0) ts') (hb : fk_bs ts'.length q.1) : fk_C (fm_u I 13 0 4 (Int32.ofNat ts'.length)) f (ts', q) := by
  obtain ⟨a1, a2, a3, a4, a5, a6, a7, a8, a9, a10, a12, a11⟩ := h
  refine ⟨?_, ?_, h20, ?_, a5, a6, ?_, ?_, ?_, hb, a12, ?_⟩
  · rw [fk_u_ns I _ _ (by decide)]; exact a1
  · rw [fk_u_eq I]
  · exact fk_stk_c (fun j _ => fk_u_ne I _ _ (by decide)) hs
  · rw [fk_u_ns I _ _ (by decide)]; exact a7
  · exact fk_frm_c (fun j s _ => fk_u_ne I _ _ (by decide)) a8
  · rw [fk_u_ne I _ _ (by decide)]; exact a9
  · intro r hr
    simp only [fk_u_ne I _ _ (show (7 : Nat) ≠ 13 by decide), fk_u_ne I _ _ (show (8 : Nat) ≠ 13 by decide), fk_u_ne I _ _ (show (9 : Nat) ≠ 13 by decide), fk_u_ne I _ _ (show (10 : Nat) ≠ 13 by decide), fk_u_ne I _ _ (show (11 : Nat) ≠ 13 by decide), fk_u_ne I _ _ (show (12 : Nat) ≠ 13 by decide)]
    exact a11 r hr
theorem fk_take_S {I0 I : fm_MI} {f n : Nat} {x : Int32 ⊕ fk_K} (w : Int32) (hx : fk_S I0 I f n x) : fmC_take_p I w ∧ fk_S I0 (fmC_take_f I w).2 f n (fk_bind x (fk_tk w)) ∧ ∀ k t k', x = .inr k → fk_take w k = .inr (t, k') → (fmC_take_f I w).1 = t := by
  obtain ⟨hw, hx⟩ := hx
  rcases x with c | ⟨ts, fs, L, R⟩
  · obtain ⟨h1, h2⟩ := hx
    have hf : ¬ I 13 0 2 = 0 := by rw [h1]; exact h2
    refine ⟨⟨fun q => absurd q hf, fun _ => trivial⟩, ?_, fun k t k' q => by cases q⟩
    rw [fmC_take_f, if_neg hf]
    exact ⟨hw, h1, h2⟩
  · obtain ⟨a1, a2, a3, a4, a5, a6, a7, a8, a9, a10, a12, a11⟩ := id hx
    dsimp only at a1 a2 a3 a4 a5 a6 a7 a8 a9 a10 a12 a11
    unfold fmC_take_p fmC_take_f fk_tk fk_take
    simp only [fk_bind, if_pos a1]
    by_cases hw4 : w = 4
    · simp only [if_pos hw4]
      exact ⟨⟨fun _ => ⟨fun _ => trivial, fun q => absurd hw4 q⟩, fun q => absurd a1 q⟩, ⟨hw, hx⟩, fun k t k' q1 q2 => by
        cases q2; rfl⟩
    simp only [if_neg hw4]
    cases fs with
    | nil => simp at a5
    | cons fr fs =>
      have b1 : fs.length + 1 ≤ 9 := by simpa using a6
      have b2 : I 13 0 6 = Int32.ofNat fs.length := by simpa using a7
      obtain ⟨⟨c1, c2, c3, c4, c5, c6, c7⟩, c8⟩ := a8
      obtain ⟨d1, d2⟩ := a10
      have e1 : (Int32.ofNat fs.length).toNatClampNeg = fs.length := fk_cl (by omega)
      rw [b2, e1, a2, c3]
      have hv : vp_in (Int32.ofNat fs.length) 9 := (fk_in (by omega)).mpr (by omega)
      have e2 := fk_ie (a := ts.length) (b := fr.2.2.1) (by omega) (by omega)
      by_cases h3 : ts.length = fr.2.2.1
      · have h4 := e2.mpr h3
        simp only [if_pos h4, if_pos h3]
        refine ⟨⟨fun _ => ⟨fun q => absurd q hw4, fun _ => ⟨hv, fun _ => hv, fun q => absurd h4 q⟩⟩, fun q => absurd a1 q⟩, ?_⟩
        rw [c7]
        cases hd : fr.2.2.2.2.1 with
        | false =>
          simp only [fk_b, cond_false, if_true, Bool.false_eq_true, if_false]
          refine ⟨⟨fk_wk13 hw 2 2 (by decide) (by decide), fk_u_eq I, by decide⟩, fun k t k' q1 q2 => ?_⟩
          cases q1
          simp [hw4, h3, hd] at q2
        | true =>
          simp only [fk_b, cond_true, if_true, show ¬ ((1 : Int32) = 0) by decide, if_false]
          refine ⟨⟨hw, hx⟩, fun k t k' q1 q2 => ?_⟩
          cases q1
          simp [hw4, h3, hd] at q2
          exact q2.1
      · have h4 : ¬ _ := fun q => h3 (e2.mp q)
        simp only [if_neg h4, if_neg h3]
        cases ts with
        | nil => simp at h3 d1; omega
        | cons t r =>
          obtain ⟨s1, s2⟩ := a4
          have f1 : Int32.ofNat (t :: r).length - 1 = Int32.ofNat r.length := by rw [fk_d (by simp)]; simp
          have f2 : r.length < 20 := by simp at a3; omega
          have f3 : fr.2.2.1 ≤ r.length := by simp at h3 d1; omega
          rw [f1, fk_cl (by omega), s1]
          refine ⟨⟨fun _ => ⟨fun q => absurd q hw4, fun _ => ⟨hv, fun q => absurd q h4, fun _ => (fk_in (by omega)).mpr f2⟩⟩, fun q => absurd a1 q⟩, ?_⟩
          have hC : fk_S I0 (fm_u I 13 0 4 (Int32.ofNat r.length)) f n (.inr (r, fr :: fs, L, R)) := ⟨fk_wk13 hw 4 _ (by decide) (by decide), fk_C13 hx (by omega) s2 ⟨f3, d2⟩⟩
          by_cases g1 : t = 5
          · simp only [if_pos g1]
            refine ⟨hC, fun k t' k' q1 q2 => ?_⟩
            cases q1
            simp [hw4, h3, g1] at q2
            simp at h3
            simp [h3] at q2
            exact q2.1
          · simp only [if_neg g1]
            by_cases g2 : w = 5
            · simp only [if_pos g2]
              refine ⟨hC, fun k t' k' q1 q2 => ?_⟩
              cases q1
              simp at h3
              simp [hw4, h3, g1, g2] at q2
              exact q2.1
            · simp only [if_neg g2]
              by_cases g3 : w = t
              · simp only [if_pos g3]
                refine ⟨hC, fun k t' k' q1 q2 => ?_⟩
                cases q1
                simp at h3
                simp [hw4, h3, g1, g2, g3] at q2
                exact q2.1
              · simp only [if_neg g3]
                refine ⟨⟨fk_wk13 hC.1 2 3 (by decide) (by decide), fk_u_eq _, by decide⟩, fun k t' k' q1 q2 => ?_⟩
                cases q1
                simp at h3
                simp [hw4, h3, g1, g2, g3] at q2
theorem fk_put_S {I0 I : fm_MI} {f n : Nat} {x : Int32 ⊕ fk_K} (t : Int32) (hx : fk_S I0 I f n x) : fmC_put_p I t ∧ fk_S I0 (fmC_put_f I t) f n (fk_bind x (fk_put t)) := by
  obtain ⟨hw, hx⟩ := hx
  rcases x with c | ⟨ts, fs, L, R⟩
  · obtain ⟨h1, h2⟩ := hx
    have hf : ¬ I 13 0 2 = 0 := by rw [h1]; exact h2
    refine ⟨⟨fun q => absurd q hf, fun _ => trivial⟩, ?_⟩
    rw [fmC_put_f, if_neg hf]
    exact ⟨hw, h1, h2⟩
  · obtain ⟨a1, a2, a3, a4, a5, a6, a7, a8, a9, a10, a12, a11⟩ := id hx
    dsimp only at a1 a2 a3 a4 a5 a6 a7 a8 a9 a10 a12 a11
    unfold fmC_put_p fmC_put_f fk_put
    simp only [fk_bind, if_pos a1]
    by_cases h4 : t = 4
    · simp only [if_pos h4]
      exact ⟨⟨fun _ => ⟨fun _ => trivial, fun q => absurd h4 q⟩, fun q => absurd a1 q⟩, hw, hx⟩
    simp only [if_neg h4]
    rw [a2]
    have e := fk_ie (a := ts.length) (b := 20) (by omega) (by omega)
    by_cases h5 : ts.length = 20
    · have h6 : Int32.ofNat ts.length = 20 := e.mpr h5
      simp only [if_pos h5, if_pos h6]
      exact ⟨⟨fun _ => ⟨fun _ => trivial, fun _ => ⟨fun _ => trivial, fun q => absurd h6 q⟩⟩, fun q => absurd a1 q⟩, fk_wk13 hw 2 7 (by decide) (by decide), fk_u_eq I, by decide⟩
    · have h6 : ¬ Int32.ofNat ts.length = 20 := fun q => h5 (e.mp q)
      simp only [if_neg h5, if_neg h6]
      refine ⟨⟨fun _ => ⟨fun _ => trivial, fun _ => ⟨fun _ => trivial, fun _ => (fk_in (by omega)).mpr (by omega)⟩⟩, fun q => absurd a1 q⟩, ?_⟩
      rw [fk_cl (by omega), fk_s]
      have hw' : fk_wk I0 (fm_u I 15 0 ts.length t) f n := by
        obtain ⟨a, b, c, d, e⟩ := hw
        refine ⟨fun k i s' q1 q2 q3 q4 => (fk_u_ne I _ _ q2).trans (a k i s' q1 q2 q3 q4), ?_, ?_, ?_, ?_⟩
        · rw [fk_u_ne I _ _ (by decide)]; exact b
        · rw [fk_u_ne I _ _ (by decide)]; exact c
        · simpa only [fk_u_ne I _ _ (show (6 : Nat) ≠ 15 by decide)] using d
        · simpa only [fk_u_ne I _ _ (show (17 : Nat) ≠ 15 by decide)] using e
      have hC : fk_C (fm_u I 15 0 ts.length t) f (ts, fs, L, R) := by
        refine ⟨?_, ?_, a3, ?_, a5, a6, ?_, ?_, ?_, a10, a12, ?_⟩
        · rw [fk_u_ne I _ _ (by decide)]; exact a1
        · rw [fk_u_ne I _ _ (by decide)]; exact a2
        · exact fk_stk_c (fun j hj => fk_u_ns I _ _ (by have : j < ts.length := hj; omega)) a4
        · rw [fk_u_ne I _ _ (by decide)]; exact a7
        · exact fk_frm_c (fun j s _ => fk_u_ne I _ _ (by decide)) a8
        · rw [fk_u_ne I _ _ (by decide)]; exact a9
        · intro r hr
          simp only [fk_u_ne I _ _ (show (7 : Nat) ≠ 15 by decide), fk_u_ne I _ _ (show (8 : Nat) ≠ 15 by decide), fk_u_ne I _ _ (show (9 : Nat) ≠ 15 by decide), fk_u_ne I _ _ (show (10 : Nat) ≠ 15 by decide), fk_u_ne I _ _ (show (11 : Nat) ≠ 15 by decide), fk_u_ne I _ _ (show (12 : Nat) ≠ 15 by decide)]
          exact a11 r hr
      refine ⟨fk_wk13 hw' 4 _ (by decide) (by decide), fk_C13 (ts' := t :: ts) hC (by simp; omega) ⟨fk_u_eq I, hC.2.2.2.1⟩ ?_⟩
      cases fs with
      | nil => trivial
      | cons fr fs => exact ⟨by have := a10.1; simp; omega, a10.2⟩
theorem fk_wkm {I0 I : fm_MI} {f n m : Nat} (h : fk_wk I0 I f n) (hm : n ≤ m) : fk_wk I0 I f m := by
  obtain ⟨a, b, c, ⟨L, d, d'⟩, e⟩ := h
  exact ⟨a, b, c, ⟨L, by omega, d'⟩, e⟩
theorem fk_Sm {I0 I : fm_MI} {f n m : Nat} {x : Int32 ⊕ fk_K} (h : fk_S I0 I f n x) (hm : n ≤ m) : fk_S I0 I f m x := ⟨fk_wkm h.1 hm, h.2⟩
theorem fk_wkR {I0 I : fm_MI} {f n : Nat} (h : fk_wk I0 I f n) (k s : Nat) (x : Int32) (h1 : 7 ≤ k) (h2 : k ≤ 12) : fk_wk I0 (fm_u I k f s x) f n := by
  obtain ⟨a, b, c, d, e⟩ := h
  refine ⟨fun k' i s' q1 q2 q3 q4 => ?_, ?_, ?_, ?_, ?_⟩
  · rw [fm_u_if, if_neg]
    · exact a k' i s' q1 q2 q3 q4
    · rintro ⟨rfl, rfl, rfl⟩
      exact q4 (by omega) (by omega) rfl
  · rw [fk_u_ne I _ _ (by omega)]; exact b
  · rw [fk_u_ne I _ _ (by omega)]; exact c
  · rw [fk_u_ne I _ _ (by omega)]; exact d
  · intro j hj
    rw [fk_u_ne I _ _ (by omega)]; exact e j hj
theorem fk_CR {I I' : fm_MI} {f : Nat} {ts : List Int32} {fs : List fk_F} {L L' : Nat} {R R' : fk_R} (h : fk_C I f (ts, fs, L, R)) (h13 : ∀ s, I' 13 0 s = I 13 0 s) (h15 : ∀ s, I' 15 0 s = I 15 0 s) (h17 : ∀ i s, I' 17 i s = I 17 i s) (h6 : I' 6 f 0 = Int32.ofNat L') (hL : L' ≤ 40) (hR : fk_rws I' f L' R') : fk_C I' f (ts, fs, L', R') := by
  obtain ⟨a1, a2, a3, a4, a5, a6, a7, a8, a9, a10, a12, a11⟩ := h
  exact ⟨(h13 _).trans a1, (h13 _).trans a2, a3, fk_stk_c (fun j _ => h15 j) a4, a5, a6, (h13 _).trans a7, fk_frm_c (fun j s _ => h17 j s) a8, h6, a10, hL, hR⟩
theorem fk_live_C {I : fm_MI} {f : Nat} {k : fk_K} (h : fk_C I f k) : fmC_isLive_p I ∧ fmC_isLive_f I = fk_b (fk_lv k.2.1) := by
  obtain ⟨ts, fs, L, R⟩ := k
  obtain ⟨a1, a2, a3, a4, a5, a6, a7, a8, a9, a10, a12, a11⟩ := h
  dsimp only at a5 a6 a7 a8
  cases fs with
  | nil => simp at a5
  | cons fr fs =>
    have b1 : fs.length + 1 ≤ 9 := by simpa using a6
    have b2 : I 13 0 6 = Int32.ofNat fs.length := by simpa using a7
    obtain ⟨⟨c1, c2, c3, c4, c5, c6, c7⟩, c8⟩ := a8
    have hv : vp_in (Int32.ofNat fs.length) 9 := (fk_in (by omega)).mpr (by omega)
    unfold fmC_isLive_p fmC_isLive_f
    rw [b2, fk_cl (by omega), c6, c7]
    refine ⟨⟨hv, fun _ => trivial, fun _ => hv⟩, ?_⟩
    simp only [fk_lv]
    cases fr.2.2.2.1 <;> cases fr.2.2.2.2.1 <;> rfl
theorem fk_live_w {I0 I : fm_MI} {f n : Nat} (h : fk_wk I0 I f n) : fmC_isLive_p I ∧ (fmC_isLive_f I = 0 ∨ fmC_isLive_f I = 1) := by
  obtain ⟨a, b, ⟨o, c, c'⟩, d, e⟩ := h
  have hv : vp_in (I 13 0 6) 9 := by rw [c']; exact (fk_in (by omega)).mpr (by omega)
  refine ⟨⟨hv, fun _ => trivial, fun _ => hv⟩, ?_⟩
  unfold fmC_isLive_f
  split
  · exact Or.inl rfl
  · split
    · exact Or.inr rfl
    · exact Or.inl rfl
theorem fk_row_S {I0 I : fm_MI} {f n : Nat} {x : Int32 ⊕ fk_K} (op a : Int32) {nl : Nat} (hf : f < 4) (hn : n < 40) (hl : I0 2 f 2 = Int32.ofNat nl) (hx : fk_S I0 I f n x) :
    fmC_addRow_p I ∧ fk_S I0 (fmC_addRow_f I op a).2 f (n + 1) (fk_bind x (fun k => .inr (fk_row nl op a k))) ∧ (∀ k, x = .inr k → (fmC_addRow_f I op a).1 = if fk_lv k.2.1 = true then Int32.ofNat k.2.2.1 else -1) ∧ ((fmC_addRow_f I op a).1 = -1 ∨ vp_in (fmC_addRow_f I op a).1 40) := by
  obtain ⟨hw, hx⟩ := hx
  obtain ⟨l1, l2⟩ := fk_live_w hw
  obtain ⟨w1, w2, w3, ⟨L0, w4, w5⟩, w6⟩ := id hw
  have hcf : (I 13 0 1).toNatClampNeg = f := by rw [w2]; exact fk_cl (by omega)
  have hL : (I 6 f 0).toNatClampNeg = L0 := by rw [w5]; exact fk_cl (by omega)
  have hin : vp_in (I 6 f 0) 40 := by rw [w5]; exact (fk_in (by omega)).mpr (by omega)
  have hsub : fmC_subject_p I := by unfold fmC_subject_p; rw [w2]; exact (fk_in (by omega)).mpr hf
  have h2 : I 2 f 2 = Int32.ofNat nl := (w1 2 f 2 (by decide) (by decide) (by decide) (fun q => absurd q (by decide))).trans hl
  have hp : fmC_addRow_p I := ⟨l1, fun _ => trivial, fun _ => ⟨hsub, hsub, by rw [hcf]; exact ⟨hin, hin, hin, hin, hin, hin⟩⟩⟩
  refine ⟨hp, ?_⟩
  have hwr : fk_wk I0 (fmK_add_f I f op a ((I 2 f 2) + (I 13 0 4))).2 f (n + 1) := by
    unfold fmK_add_f
    rw [hL]
    dsimp only
    have hb := fk_wkR (fk_wkR (fk_wkR (fk_wkR (fk_wkR (fk_wkR hw 7 L0 op (by decide) (by decide)) 8 L0 a (by decide) (by decide)) 9 L0 ((I 2 f 2) + (I 13 0 4)) (by decide) (by decide)) 10 L0 (-1) (by decide) (by decide)) 11 L0 (-1) (by decide) (by decide)) 12 L0 (-1) (by decide) (by decide)
    obtain ⟨a, b, c, d, e⟩ := hb
    refine ⟨fun k' i s' q1 q2 q3 q4 => ?_, ?_, ?_, ⟨L0 + 1, by omega, ?_⟩, ?_⟩
    · rw [fm_u_if, if_neg]
      · exact a k' i s' q1 q2 q3 q4
      · rintro ⟨rfl, rfl, rfl⟩
        exact q4 (by omega) (by omega) rfl
    · rw [fk_u_ne _ _ _ (by decide)]; exact b
    · rw [fk_u_ne _ _ _ (by decide)]; exact c
    · rw [fk_u_eq, w5, fk_s]
    · intro j hj
      rw [fk_u_ne _ _ _ (by decide)]; exact e j hj
  have hfe : fmC_addRow_f I op a = if fmC_isLive_f I = 0 then (-1, I) else fmK_add_f I f op a ((I 2 f 2) + (I 13 0 4)) := by
    unfold fmC_addRow_f fm_let
    rw [hcf]
  rw [hfe]
  rcases x with c | ⟨ts, fs, L, r1, r2, r3, r4, r5, r6⟩
  · obtain ⟨h1, h3⟩ := hx
    rcases l2 with l2 | l2
    · rw [if_pos l2]
      exact ⟨⟨fk_wkm hw (by omega), h1, h3⟩, fun k q => (by cases q), Or.inl rfl⟩
    · rw [if_neg (by rw [l2]; decide)]
      refine ⟨⟨hwr, ?_, h3⟩, fun k q => (by cases q), Or.inr hin⟩
      simp only [fmK_add_f, fm_u_if]
      simpa using h1
  · obtain ⟨-, l3⟩ := fk_live_C hx
    dsimp only at l3
    rw [l3]
    obtain ⟨a1, a2, a3, a4, a5, a6, a7, a8, a9, a10, a12, a11⟩ := id hx
    dsimp only at a1 a2 a3 a4 a5 a6 a7 a8 a9 a10 a12 a11
    have hLL : L0 = L := by
      rw [a9, fk_cl (by omega)] at hL
      exact hL.symm
    subst hLL
    cases hlv : fk_lv fs with
    | false =>
      simp only [fk_b, cond_false, if_true, fk_bind, fk_row, hlv, Bool.false_eq_true, if_false]
      refine ⟨⟨fk_wkm hw (by omega), hx⟩, fun k q => ?_, Or.inl trivial⟩
      cases q
      simp [hlv]
    | true =>
      simp only [fk_b, cond_true, show ¬ ((1 : Int32) = 0) by decide, fk_bind, fk_row, hlv, if_true, if_false]
      refine ⟨⟨hwr, ?_⟩, fun k q => ?_, Or.inr hin⟩
      · refine fk_CR hx (L' := L0 + 1) ?_ ?_ ?_ ?_ (by omega) ?_
        · intro s
          simp only [fmK_add_f, fm_u_if]
          simp
        · intro s
          simp only [fmK_add_f, fm_u_if]
          simp
        · intro i s
          simp only [fmK_add_f, fm_u_if]
          simp
        · simp only [fmK_add_f, fk_u_eq, w5, fk_s]
        · intro r hr
          have q := a11 r
          simp only [fmK_add_f, fm_u_if, hL, fk_up]
          simp
          by_cases hrr : r = L0
          · subst hrr
            simp only [if_true, true_and, and_true, h2, a2]
          · simpa [hrr] using q (by omega)
      · cases q
        simp only [hlv, if_true, fmK_add_f]
        exact w5
theorem fk_stk_drop {T : Nat → Int32} : ∀ (n : Nat) {l : List Int32}, fk_stk T l → fk_stk T (l.drop n)
  | 0, _, h => h
  | n + 1, [], h => h
  | n + 1, _ :: _, h => fk_stk_drop n h.2
theorem fk_wk17 {I0 I : fm_MI} {f n : Nat} (h : fk_wk I0 I f n) (j s : Nat) (x : Int32) (hs : s ≠ 4) : fk_wk I0 (fm_u I 17 j s x) f n := by
  obtain ⟨a, b, c, d, e⟩ := h
  refine ⟨fun k' i s' q1 q2 q3 q4 => (fk_u_ne I _ _ q3).trans (a k' i s' q1 q2 q3 q4), ?_, ?_, ?_, ?_⟩
  · rw [fk_u_ne I _ _ (by decide)]; exact b
  · rw [fk_u_ne I _ _ (by decide)]; exact c
  · rw [fk_u_ne I _ _ (by decide)]; exact d
  · intro j hj
    rw [fk_u_ns I _ _ (Ne.symm hs)]; exact e j hj
theorem fk_wk174 {I0 I : fm_MI} {f n : Nat} (h : fk_wk I0 I f n) (j : Nat) (x : Int32) (hx : x = -1 ∨ vp_in x 40) : fk_wk I0 (fm_u I 17 j 4 x) f n := by
  obtain ⟨a, b, c, d, e⟩ := h
  refine ⟨fun k' i s' q1 q2 q3 q4 => (fk_u_ne I _ _ q3).trans (a k' i s' q1 q2 q3 q4), ?_, ?_, ?_, ?_⟩
  · rw [fk_u_ne I _ _ (by decide)]; exact b
  · rw [fk_u_ne I _ _ (by decide)]; exact c
  · rw [fk_u_ne I _ _ (by decide)]; exact d
  · intro i hi
    rw [fm_u_if]
    split
    · exact hx
    · exact e i hi
theorem fk_C17 {I I' : fm_MI} {f : Nat} {ts : List Int32} {fr fr' : fk_F} {fs : List fk_F} {q : Nat × fk_R} (h : fk_C I f (ts, fr :: fs, q)) (ho : ∀ k i s, (k ≠ 17 ∨ i ≠ fs.length) → I' k i s = I k i s) (hb : fr'.2.2.1 = fr.2.2.1)
    (hf : I' 17 fs.length 0 = fr'.1 ∧ I' 17 fs.length 1 = fr'.2.1 ∧ I' 17 fs.length 2 = Int32.ofNat fr'.2.2.1 ∧ I' 17 fs.length 3 = Int32.ofNat fr'.2.2.2.2.2.2.1 ∧ I' 17 fs.length 4 = fr'.2.2.2.2.2.2.2 ∧ I' 17 fs.length 5 = fk_b fr'.2.2.2.1 ∧ I' 17 fs.length 6 = fk_b fr'.2.2.2.2.1) : fk_C I' f (ts, fr' :: fs, q) := by
  obtain ⟨a1, a2, a3, a4, a5, a6, a7, a8, a9, a10, a12, a11⟩ := h
  refine ⟨(ho _ _ _ (.inl (by decide))).trans a1, (ho _ _ _ (.inl (by decide))).trans a2, a3, fk_stk_c (fun j _ => ho _ _ _ (.inl (by decide))) a4, a5, a6, (ho _ _ _ (.inl (by decide))).trans a7, ⟨hf, fk_frm_c (fun j s hj => ho _ _ _ (.inr (by omega))) a8.2⟩, (ho _ _ _ (.inl (by decide))).trans a9, ⟨by rw [hb]; exact a10.1, by rw [hb]; exact a10.2⟩, a12, ?_⟩
  intro r hr
  obtain ⟨b1, b2, b3, b4, b5, b6⟩ := a11 r hr
  exact ⟨(ho _ _ _ (.inl (by decide))).trans b1, (ho _ _ _ (.inl (by decide))).trans b2, (ho _ _ _ (.inl (by decide))).trans b3, (ho _ _ _ (.inl (by decide))).trans b4, (ho _ _ _ (.inl (by decide))).trans b5, (ho _ _ _ (.inl (by decide))).trans b6⟩
theorem fk_op_C {I : fm_MI} {f : Nat} {ts : List Int32} {fr : fk_F} {fs : List fk_F} {q : Nat × fk_R} (h : fk_C I f (ts, fr :: fs, q)) : I 13 0 6 = Int32.ofNat fs.length ∧ (I 13 0 6).toNatClampNeg = fs.length ∧ vp_in (I 13 0 6) 9 ∧ fs.length ≤ 8 := by
  obtain ⟨a1, a2, a3, a4, a5, a6, a7, a8, a9, a10, a12, a11⟩ := h
  have b1 : fs.length + 1 ≤ 9 := by simpa using a6
  have b2 : I 13 0 6 = Int32.ofNat fs.length := by simpa using a7
  exact ⟨b2, by rw [b2]; exact fk_cl (by omega), by rw [b2]; exact (fk_in (by omega)).mpr (by omega), by omega⟩
theorem fk_op_w {I0 I : fm_MI} {f n : Nat} (h : fk_wk I0 I f n) : vp_in (I 13 0 6) 9 := by
  obtain ⟨a, b, ⟨o, c, c'⟩, d, e⟩ := h
  rw [c']; exact (fk_in (by omega)).mpr (by omega)
theorem fk_die_S {I0 I : fm_MI} {f n : Nat} {x : Int32 ⊕ fk_K} (hx : fk_S I0 I f n x) : fmC_die_p I ∧ fk_S I0 (fmC_die_f I) f n (fk_bind x (fun k => .inr (fk_die k))) := by
  obtain ⟨hw, hx⟩ := hx
  have hv := fk_op_w hw
  refine ⟨⟨hv, hv⟩, ?_⟩
  have hw2 : fk_wk I0 (fmC_die_f I) f n := fk_wk17 (fk_wk13 hw 4 _ (by decide) (by decide)) _ 6 1 (by decide)
  rcases x with c | ⟨ts, fs, q⟩
  · refine ⟨hw2, ?_, hx.2⟩
    unfold fmC_die_f
    rw [fk_u_ne _ _ _ (by decide), fk_u_ns _ _ _ (by decide)]
    exact hx.1
  · cases fs with
    | nil => exact absurd hx.2.2.2.2.1 (by simp)
    | cons fr fs =>
      obtain ⟨o1, o2, o3, o4⟩ := fk_op_C hx
      refine ⟨hw2, ?_⟩
      obtain ⟨a1, a2, a3, a4, a5, a6, a7, a8, a9, a10, a12, a11⟩ := id hx
      obtain ⟨⟨c1, c2, c3, c4, c5, c6, c7⟩, c8⟩ := a8
      unfold fmC_die_f
      rw [o2, c3]
      obtain ⟨kd, gv, b, lv, de, ia, st, br⟩ := fr
      dsimp only at a3 a4 a10 c1 c2 c3 c4 c5 c6 c7 ⊢
      have hlen : (ts.drop (ts.length - b)).length = b := by have h := a10.1; dsimp only at h; simp; omega
      have h1 := fk_C13 (ts' := ts.drop (ts.length - b)) hx (by have h := a10.1; dsimp only at h; omega) (fk_stk_drop _ a4) ⟨by rw [hlen]; exact Nat.le_refl _, a10.2⟩
      rw [hlen] at h1
      refine fk_C17 h1 (fun k i s h => ?_) rfl ?_
      · rw [fm_u_if, if_neg]
        rintro ⟨rfl, rfl, rfl⟩
        simp at h
      · simp only [fm_u_if]
        simp [c1, c2, c3, c4, c5, c6, fk_b]
theorem fk_open_S {I0 I : fm_MI} {f n : Nat} {x : Int32 ⊕ fk_K} (i : Nat) (op t : Int32) (hf : f < 4) (hx : fk_S I0 I f n x) : fmC_openFrame_p I ∧ fk_S I0 (fmC_openFrame_f I op t) f n (fk_bind x (fk_open i op t (-1))) := by
  obtain ⟨hw, hx⟩ := hx
  obtain ⟨l1, l2⟩ := fk_live_w hw
  rcases x with c | ⟨ts, fs, L, R⟩
  · have h0 : ¬ I 13 0 2 = 0 := by rw [hx.1]; exact hx.2
    refine ⟨⟨fun q => absurd q h0, fun _ => trivial⟩, ?_⟩
    unfold fmC_openFrame_f
    rw [if_neg h0]
    exact ⟨hw, hx⟩
  · obtain ⟨-, l3⟩ := fk_live_C hx
    obtain ⟨a1, a2, a3, a4, a5, a6, a7, a8, a9, a10, a12, a11⟩ := id hx
    dsimp only at a1 a2 a3 a4 a5 a6 a7 a8 a9 a10 a12 a11 l3
    unfold fmC_openFrame_p fmC_openFrame_f fm_let
    simp only [if_pos a1, l3]
    have e := fk_ie (a := fs.length - 1) (b := 8) (by omega) (by omega)
    by_cases h8 : I 13 0 6 = 8
    · have h9 : fs.length = 9 := by
        have := e.mp (a7.symm.trans h8); omega
      simp only [if_pos h8, fk_bind, fk_open, if_pos h9]
      exact ⟨⟨fun _ => ⟨fun _ => trivial, fun q => absurd h8 q⟩, fun q => absurd a1 q⟩, fk_wk13 hw 2 7 (by decide) (by decide), fk_u_eq I, by decide⟩
    · have h9 : ¬ fs.length = 9 := by
        intro q
        exact h8 (a7.trans (e.mpr (by omega)))
      simp only [if_neg h8, fk_bind, fk_open, if_neg h9]
      have hop : I 13 0 6 + 1 = Int32.ofNat fs.length := by rw [a7, fk_s]; congr 1; omega
      rw [hop, fk_cl (show fs.length < 2147483648 by omega)]
      have hcur : fm_u I 13 0 6 (Int32.ofNat fs.length) 13 0 1 = Int32.ofNat f := by rw [fk_u_ns _ _ _ (by decide)]; exact hw.2.1
      rw [hcur, fk_cl (show f < 2147483648 by omega)]
      refine ⟨⟨fun _ => ⟨fun q => absurd q h8, fun _ => ⟨l1, (fk_in (by omega)).mpr (by omega), ?_, ?_⟩⟩, fun q => absurd a1 q⟩, ?_, ?_⟩
      · unfold fmC_subject_p; rw [hcur]; exact (fk_in (by omega)).mpr hf
      · unfold fmR_open_p; rw [← l3]; exact l2
      · unfold fmR_open_f
        have hw1 : fk_wk I0 (fm_u I 13 0 6 (Int32.ofNat fs.length)) f n := by
          obtain ⟨a, b, c, d, e⟩ := hw
          refine ⟨fun k i s' q1 q2 q3 q4 => (fk_u_ne I _ _ q1).trans (a k i s' q1 q2 q3 q4), ?_, ⟨fs.length, by omega, fk_u_eq I⟩, ?_, ?_⟩
          · rw [fk_u_ns I _ _ (by decide)]; exact b
          · simpa only [fk_u_ne I _ _ (show (6 : Nat) ≠ 13 by decide)] using d
          · simpa only [fk_u_ne I _ _ (show (17 : Nat) ≠ 13 by decide)] using e
        exact fk_wk17 (fk_wk17 (fk_wk174 (fk_wk17 (fk_wk17 (fk_wk17 (fk_wk17 hw1 _ 0 _ (by decide)) _ 1 _ (by decide)) _ 2 _ (by decide)) _ 3 _ (by decide)) _ _ (Or.inl rfl)) _ 5 _ (by decide)) _ 6 _ (by decide)
      · unfold fmR_open_f
        refine ⟨?_, ?_, a3, ?_, by simp, by simp; omega, ?_, ⟨?_, ?_⟩, ?_, ⟨Nat.le_refl _, a10⟩, a12, ?_⟩
        · simp only [fm_u_if]; simpa using a1
        · simp only [fm_u_if]; simpa using a2
        · exact fk_stk_c (fun j _ => by simp only [fm_u_if]; simp) a4
        · simp only [fm_u_if]; simp
        · simp only [fm_u_if]; simp [fk_b, a2, a9]
        · refine fk_frm_c (fun j s hj => ?_) a8
          have : ¬ j = fs.length := by omega
          simp only [fm_u_if]; simp [this]
        · simp only [fm_u_if]; simpa using a9
        · intro r hr
          have q := a11 r hr
          simp only [fm_u_if]
          simpa using q
theorem fk_take_i {w t : Int32} {ts ts' : List Int32} {fs fs' : List fk_F} {q q' : Nat × fk_R} (h : fk_take w (ts, fs, q) = .inr (t, ts', fs', q')) : fs' = fs ∧ q' = q ∧ ((ts' = ts ∧ t = w) ∨ ∃ u, ts = u :: ts' ∧ ((u = 5 ∧ t = w) ∨ (t = u ∧ (w = 5 ∨ w = u)))) := by
  unfold fk_take at h
  split at h
  · cases h; exact ⟨rfl, rfl, Or.inl ⟨rfl, rfl⟩⟩
  · split at h
    · cases h
    · rename_i hh
      cases hh
      split at h
      · split at h
        · cases h; exact ⟨rfl, rfl, Or.inl ⟨rfl, rfl⟩⟩
        · cases h
      · split at h
        · cases h
        · split at h
          · rename_i h5
            cases h; exact ⟨rfl, rfl, Or.inr ⟨_, rfl, Or.inl ⟨h5, rfl⟩⟩⟩
          · split at h
            · rename_i h5
              cases h; exact ⟨rfl, rfl, Or.inr ⟨_, rfl, Or.inr ⟨rfl, Or.inl h5⟩⟩⟩
            · split at h
              · rename_i h5
                cases h; exact ⟨rfl, rfl, Or.inr ⟨_, rfl, Or.inr ⟨rfl, Or.inr h5⟩⟩⟩
              · cases h
theorem fk_tk_i {w : Int32} {ts ts' : List Int32} {fs fs' : List fk_F} {q q' : Nat × fk_R} (h : fk_tk w (ts, fs, q) = .inr (ts', fs', q')) : fs' = fs ∧ q' = q ∧ (ts' = ts ∨ ∃ u, ts = u :: ts' ∧ (u = 5 ∨ w = 5 ∨ w = u)) := by
  unfold fk_tk fk_bind at h
  split at h
  · cases h
  · rename_i k hk
    obtain ⟨t, a, b, c⟩ := k
    cases h
    obtain ⟨h1, h2, h3⟩ := fk_take_i hk
    refine ⟨h1, h2, ?_⟩
    rcases h3 with h3 | ⟨u, hu, h3⟩
    · exact Or.inl h3.1
    · refine Or.inr ⟨u, hu, ?_⟩
      rcases h3 with h3 | h3
      · exact Or.inl h3.1
      · exact Or.inr h3.2
theorem fk_just_S {I0 I : fm_MI} {f n : Nat} {x : Int32 ⊕ fk_K} (hx : fk_S I0 I f n x) : fmC_takeJustWhatIsGiven_p I ∧ fk_S I0 (fmC_takeJustWhatIsGiven_f I) f n (fk_bind x fk_just) := by
  have hv := fk_op_w hx.1
  unfold fmC_takeJustWhatIsGiven_p fmC_takeJustWhatIsGiven_f fm_let
  obtain ⟨t1, t2, -⟩ := fk_take_S (I 17 ((I 13 0 6).toNatClampNeg) 1) hx
  generalize hI' : fmC_take_f I (I 17 ((I 13 0 6).toNatClampNeg) 1) = r at t2
  have hv2 := fk_op_w t2.1
  refine ⟨⟨hv, t1, fun _ => hv2, fun _ => trivial⟩, ?_⟩
  dsimp only
  rcases x with c | ⟨ts, fs, q⟩
  · have h0 : ¬ r.2 13 0 2 = 0 := by rw [t2.2.1]; exact t2.2.2
    rw [if_neg h0]
    exact t2
  · cases fs with
    | nil => exact absurd hx.2.2.2.2.2.1 (by simp)
    | cons fr fs =>
      obtain ⟨o1, o2, o3, o4⟩ := fk_op_C hx.2
      have hg : I 17 ((I 13 0 6).toNatClampNeg) 1 = fr.2.1 := by rw [o2]; exact hx.2.2.2.2.2.2.2.2.1.1.2.1
      rw [hg] at t2
      simp only [fk_bind, fk_just] at t2 ⊢
      cases hk : fk_tk fr.2.1 (ts, fr :: fs, q) with
      | inl c =>
        rw [hk] at t2
        have h0 : ¬ r.2 13 0 2 = 0 := by rw [t2.2.1]; exact t2.2.2
        rw [if_neg h0]
        exact t2
      | inr k' =>
        rw [hk] at t2
        obtain ⟨ts', fs', q'⟩ := k'
        have hfs : fs' = fr :: fs := (fk_tk_i hk).1
        subst hfs
        obtain ⟨w, C⟩ := t2
        obtain ⟨p1, p2, p3, p4⟩ := fk_op_C C
        rw [if_pos C.1, p2, C.2.2.2.2.2.2.2.1.1.2.2.1, C.2.1]
        have h20 := C.2.2.1
        have hb := C.2.2.2.2.2.2.2.2.2.1.1
        dsimp only at h20 hb ⊢
        have e := fk_le (a := ts'.length) (b := fr.2.2.1) (by omega) (by omega)
        by_cases hl : ts'.length ≤ fr.2.2.1
        · rw [if_pos (e.mpr hl), if_neg (by omega)]
          exact ⟨w, C⟩
        · rw [if_neg (fun z => hl (e.mp z)), if_pos (by omega)]
          exact ⟨fk_wk13 w 2 4 (by decide) (by decide), fk_u_eq _, by decide⟩
theorem fk_here_S {I0 I : fm_MI} {f n : Nat} {x : Int32 ⊕ fk_K} (rw' : Int32) (hr : rw' = -1 ∨ vp_in rw' 40) (hx : fk_S I0 I f n x) : fmK_sendHere_p rw' ∧ fk_S I0 (fmK_sendHere_f I f rw') f n (fk_bind x (fun k => .inr (fk_here rw' k))) := by
  obtain ⟨hw, hx⟩ := hx
  refine ⟨⟨fun _ => trivial, fun q => hr.resolve_left q⟩, ?_⟩
  unfold fmK_sendHere_f
  by_cases h1 : rw' = -1
  · rw [if_pos h1]
    refine ⟨hw, ?_⟩
    rcases x with c | ⟨ts, fs, L, r1, r2, r3, r4, r5, r6⟩
    · exact hx
    · simp only [fk_bind, fk_here, if_pos h1]
      exact hx
  · rw [if_neg h1]
    refine ⟨fk_wkR hw 11 _ _ (by decide) (by decide), ?_⟩
    rcases x with c | ⟨ts, fs, L, r1, r2, r3, r4, r5, r6⟩
    · exact ⟨(fk_u_ne I _ _ (by decide)).trans hx.1, hx.2⟩
    · simp only [fk_bind, fk_here, if_neg h1]
      refine fk_CR hx (fun s => fk_u_ne I _ _ (by decide)) (fun s => fk_u_ne I _ _ (by decide)) (fun i s => fk_u_ne I _ _ (by decide)) ((fk_u_ne I _ _ (by decide)).trans hx.2.2.2.2.2.2.2.2.1) hx.2.2.2.2.2.2.2.2.2.2.1 ?_
      intro r hr'
      have q := hx.2.2.2.2.2.2.2.2.2.2.2 r hr'
      have q9 := hx.2.2.2.2.2.2.2.2.1
      dsimp only at q q9 ⊢
      simp only [fm_u_if, fk_up, q9]
      obtain ⟨q1, q2, q3, q4, q5, q6⟩ := q
      simp [q1, q2, q3, q4, q5, q6]
theorem fk_allL (J : fm_MJ) (G : fm_MG) (pa pb : Nat × Nat) (f L : Nat) (j : Int32) (hL : L ≤ 40) : ∀ (n m : Nat) (I : fm_MI), m ≤ L → L < n + m → I 6 f 0 = Int32.ofNat L →
    fmK_sendHereAllFor_L2_p n I J G pa pb f j (Int32.ofNat m) ∧ ∀ k i s, fmK_sendHereAllFor_L2_f n I J G pa pb f j (Int32.ofNat m) k i s = if (k = 11 ∨ k = 12) ∧ i = f ∧ m ≤ s ∧ s < L ∧ I 12 f s = j then (if k = 11 then Int32.ofNat L else -1) else I k i s
  | 0, m, I, h1, h2, _ => by omega
  | n + 1, m, I, h1, h2, h6 => by
    unfold fmK_sendHereAllFor_L2_p fmK_sendHereAllFor_L2_f
    rw [h6]
    have e := fk_le (a := L) (b := m) (by omega) (by omega)
    by_cases hlm : L ≤ m
    · have e' := e.mpr hlm
      rw [if_pos e']
      refine ⟨⟨fun _ => trivial, fun q => absurd e' q⟩, fun k i s => ?_⟩
      rw [if_neg]
      rintro ⟨-, -, a, b, -⟩
      omega
    · have e' : ¬ Int32.ofNat L ≤ Int32.ofNat m := fun q => hlm (e.mp q)
      rw [if_neg e', fk_cl (show m < 2147483648 by omega), fk_s]
      have hv : vp_in (Int32.ofNat m) 40 := (fk_in (by omega)).mpr (by omega)
      by_cases hj : I 12 f m = j
      · rw [if_pos hj]
        obtain ⟨p1, p2⟩ := fk_allL J G pa pb f L j hL n (m + 1) (fm_u (fm_u I 11 f m (Int32.ofNat L)) 12 f m (-1)) (by omega) (by omega) (by rw [fk_u_ne _ _ _ (by decide), fk_u_ne _ _ _ (by decide)]; exact h6)
        refine ⟨⟨fun q => absurd q e', fun _ => ⟨hv, fun _ => ⟨hv, hv, p1⟩, fun q => absurd hj q⟩⟩, fun k i s => ?_⟩
        rw [p2]
        by_cases hs : s = m
        · subst hs
          rw [if_neg (by rintro ⟨-, -, a, -⟩; omega)]
          simp only [fm_u_if]
          by_cases hi : i = f
          · subst hi
            by_cases h11 : k = 11
            · subst h11
              simp [hj]; omega
            · by_cases h12 : k = 12
              · subst h12
                simp [hj]; omega
              · simp [h11, h12]
          · simp [hi]
        · have q1 : (fm_u (fm_u I 11 f m (Int32.ofNat L)) 12 f m (-1)) 12 f s = I 12 f s := by simp only [fm_u_if]; simp [hs]
          have q2 : (fm_u (fm_u I 11 f m (Int32.ofNat L)) 12 f m (-1)) k i s = I k i s := by simp only [fm_u_if]; simp [hs]
          rw [q1, q2]
          by_cases hz : m + 1 ≤ s
          · have : m ≤ s := by omega
            simp [hz, this]
          · have : ¬ m ≤ s := by omega
            simp [hz, this]
      · rw [if_neg hj]
        obtain ⟨p1, p2⟩ := fk_allL J G pa pb f L j hL n (m + 1) I (by omega) (by omega) h6
        refine ⟨⟨fun q => absurd q e', fun _ => ⟨hv, fun q => absurd q hj, fun _ => p1⟩⟩, fun k i s => ?_⟩
        rw [p2]
        by_cases hs : s = m
        · subst hs
          rw [if_neg (by rintro ⟨-, -, a, -⟩; omega), if_neg (by rintro ⟨-, q, -, -, a⟩; exact hj a)]
        · by_cases hz : m + 1 ≤ s
          · have : m ≤ s := by omega
            simp [hz, this]
          · have : ¬ m ≤ s := by omega
            simp [hz, this]
theorem fk_all_S (J : fm_MJ) (G : fm_MG) (pa pb : Nat × Nat) {I0 I : fm_MI} {f n : Nat} {x : Int32 ⊕ fk_K} (j : Nat) (hn : n ≤ 40) (hx : fk_S I0 I f n x) : fmK_sendHereAllFor_p I J G pa pb f (Int32.ofNat j) ∧ fk_S I0 (fmK_sendHereAllFor_f I J G pa pb f (Int32.ofNat j)) f n (fk_bind x (fun k => .inr (fk_all j k))) := by
  obtain ⟨hw, hx⟩ := hx
  obtain ⟨w1, w2, w3, ⟨L0, w4, w5⟩, w6⟩ := id hw
  obtain ⟨p1, p2⟩ := fk_allL J G pa pb f L0 (Int32.ofNat j) (by omega) 41 0 I (by omega) (by omega) w5
  refine ⟨p1, ?_⟩
  unfold fmK_sendHereAllFor_f
  have p2' : ∀ k i s, fmK_sendHereAllFor_L2_f 41 I J G pa pb f (Int32.ofNat j) 0 k i s = if (k = 11 ∨ k = 12) ∧ i = f ∧ 0 ≤ s ∧ s < L0 ∧ I 12 f s = Int32.ofNat j then (if k = 11 then Int32.ofNat L0 else -1) else I k i s := p2
  have hne : ∀ k i s, k ≠ 11 → k ≠ 12 → fmK_sendHereAllFor_L2_f 41 I J G pa pb f (Int32.ofNat j) 0 k i s = I k i s := by
    intro k i s h1 h2
    rw [p2', if_neg]
    rintro ⟨a | a, -⟩
    · exact h1 a
    · exact h2 a
  have hw' : fk_wk I0 (fmK_sendHereAllFor_L2_f 41 I J G pa pb f (Int32.ofNat j) 0) f n := by
    refine ⟨fun k i s q1 q2 q3 q4 => ?_, (hne _ _ _ (by decide) (by decide)).trans w2, ?_, ?_, fun i hi => ?_⟩
    · rw [p2', if_neg]
      · exact w1 k i s q1 q2 q3 q4
      · rintro ⟨a, b, -⟩
        exact q4 (by omega) (by omega) b
    · rw [hne _ _ _ (by decide) (by decide)]; exact w3
    · exact ⟨L0, w4, (hne _ _ _ (by decide) (by decide)).trans w5⟩
    · rw [hne _ _ _ (by decide) (by decide)]; exact w6 i hi
  refine ⟨hw', ?_⟩
  rcases x with c | ⟨ts, fs, L, r1, r2, r3, r4, r5, r6⟩
  · exact ⟨(hne _ _ _ (by decide) (by decide)).trans hx.1, hx.2⟩
  · have hLL : L0 = L := by
      have h1 := hx.2.2.2.2.2.2.2.2.1
      have h2 := hx.2.2.2.2.2.2.2.2.2.2.1
      dsimp only at h1 h2
      exact (fk_ie (by omega) (by omega)).mp (w5.symm.trans h1)
    subst hLL
    simp only [fk_bind, fk_all]
    refine fk_CR hx (fun s => hne _ _ _ (by decide) (by decide)) (fun s => hne _ _ _ (by decide) (by decide)) (fun i s => hne _ _ _ (by decide) (by decide)) ((hne _ _ _ (by decide) (by decide)).trans w5) hx.2.2.2.2.2.2.2.2.2.2.1 ?_
    intro r hr'
    have q := hx.2.2.2.2.2.2.2.2.2.2.2 r hr'
    dsimp only at q ⊢
    obtain ⟨q1, q2, q3, q4, q5, q6⟩ := q
    refine ⟨(hne _ _ _ (by decide) (by decide)).trans q1, (hne _ _ _ (by decide) (by decide)).trans q2, (hne _ _ _ (by decide) (by decide)).trans q3, (hne _ _ _ (by decide) (by decide)).trans q4, ?_, ?_⟩
    · rw [p2', q6, q5]; simp
    · rw [p2', q6]; simp
theorem fk_just_i {ts ts' : List Int32} {fr : fk_F} {fs fs' : List fk_F} {q q' : Nat × fk_R} (h : fk_just (ts, fr :: fs, q) = .inr (ts', fs', q')) : fs' = fr :: fs ∧ q' = q ∧ fk_tk fr.2.1 (ts, fr :: fs, q) = .inr (ts', fr :: fs, q) ∧ ts'.length ≤ fr.2.2.1 := by
  unfold fk_just fk_bind at h
  dsimp only at h
  split at h
  · cases h
  · rename_i k hk
    obtain ⟨a, b, c⟩ := k
    obtain ⟨h1, h2, -⟩ := fk_tk_i hk
    split at h
    · cases h
    · rename_i hl
      cases h
      subst h1; subst h2
      exact ⟨rfl, rfl, hk, by dsimp only at hl; omega⟩
theorem fk_m1 {n : Nat} (h : n < 2147483648) : ¬ Int32.ofNat n = -1 := by
  intro q
  have h1 := fk_nn h
  rw [q] at h1
  exact h1 (by decide)
theorem fk_sub {I0 I : fm_MI} {f n : Nat} (hf : f < 4) (h : fk_wk I0 I f n) : fmC_subject_p I ∧ (I 13 0 1).toNatClampNeg = f := by
  unfold fmC_subject_p
  rw [h.2.1]
  exact ⟨(fk_in (by omega)).mpr hf, fk_cl (by omega)⟩
theorem fk_kd_S {I0 I : fm_MI} {f n : Nat} {x : Int32 ⊕ fk_K} {o : Nat} (hx : fk_S I0 I f n x) (ho : ∀ k, x = .inr k → k.2.1.length = o + 1) (kd : Int32) (de : Bool) :
    fk_S I0 (fm_u (fm_u I 17 o 0 kd) 17 o 6 (fk_b de)) f n (fk_bind x (fun k => .inr (fk_kdx kd de k))) := by
  obtain ⟨hw, hx⟩ := hx
  refine ⟨fk_wk17 (fk_wk17 hw _ 0 _ (by decide)) _ 6 _ (by decide), ?_⟩
  rcases x with c | ⟨ts, fs, q⟩
  · exact ⟨by rw [fk_u_ne _ _ _ (by decide), fk_u_ne _ _ _ (by decide)]; exact hx.1, hx.2⟩
  · have h1 := ho _ rfl
    cases fs with
    | nil => simp at h1
    | cons fr fs' =>
    have h2 : fs'.length = o := by simpa using h1
    subst h2
    simp only [fk_bind, fk_kdx]
    have c := hx.2.2.2.2.2.2.2.1.1
    refine fk_C17 hx (fun k i s h => ?_) rfl ?_
    · simp only [fm_u_if]
      have : ¬ (k = 17 ∧ i = fs'.length) := by rintro ⟨a, b⟩; rcases h with h | h <;> contradiction
      by_cases hk : k = 17 <;> simp_all
    · obtain ⟨c1, c2, c3, c4, c5, c6, c7⟩ := c
      simp only [fm_u_if]
      simp [c1, c2, c3, c4, c5, c6]
theorem fk_w10_S {I0 I : fm_MI} {f n : Nat} {x : Int32 ⊕ fk_K} (hx : fk_S I0 I f n x) (s : Nat) (y : Int32) : fk_S I0 (fm_u I 10 f s y) f n (fk_bind x (fun k => .inr (fk_w10 s y k))) := by
  obtain ⟨hw, hx⟩ := hx
  refine ⟨fk_wkR hw 10 _ _ (by decide) (by decide), ?_⟩
  rcases x with c | ⟨ts, fs, L, r1, r2, r3, r4, r5, r6⟩
  · exact ⟨(fk_u_ne I _ _ (by decide)).trans hx.1, hx.2⟩
  · refine fk_CR hx (fun s => fk_u_ne I _ _ (by decide)) (fun s => fk_u_ne I _ _ (by decide)) (fun i s => fk_u_ne I _ _ (by decide)) ((fk_u_ne I _ _ (by decide)).trans hx.2.2.2.2.2.2.2.2.1) hx.2.2.2.2.2.2.2.2.2.2.1 ?_
    intro r hr'
    have q := hx.2.2.2.2.2.2.2.2.2.2.2 r hr'
    dsimp only at q ⊢
    simp only [fm_u_if, fk_up]
    obtain ⟨q1, q2, q3, q4, q5, q6⟩ := q
    simp [q1, q2, q3, q4, q5, q6]
theorem fk_w11_S {I0 I : fm_MI} {f n : Nat} {x : Int32 ⊕ fk_K} (hx : fk_S I0 I f n x) (s : Nat) (y : Int32) : fk_S I0 (fm_u I 11 f s y) f n (fk_bind x (fun k => .inr (fk_w11 s y k))) := by
  obtain ⟨hw, hx⟩ := hx
  refine ⟨fk_wkR hw 11 _ _ (by decide) (by decide), ?_⟩
  rcases x with c | ⟨ts, fs, L, r1, r2, r3, r4, r5, r6⟩
  · exact ⟨(fk_u_ne I _ _ (by decide)).trans hx.1, hx.2⟩
  · refine fk_CR hx (fun s => fk_u_ne I _ _ (by decide)) (fun s => fk_u_ne I _ _ (by decide)) (fun i s => fk_u_ne I _ _ (by decide)) ((fk_u_ne I _ _ (by decide)).trans hx.2.2.2.2.2.2.2.2.1) hx.2.2.2.2.2.2.2.2.2.2.1 ?_
    intro r hr'
    have q := hx.2.2.2.2.2.2.2.2.2.2.2 r hr'
    dsimp only at q ⊢
    simp only [fm_u_if, fk_up]
    obtain ⟨q1, q2, q3, q4, q5, q6⟩ := q
    simp [q1, q2, q3, q4, q5, q6]
theorem fk_w12_S {I0 I : fm_MI} {f n : Nat} {x : Int32 ⊕ fk_K} (hx : fk_S I0 I f n x) (s : Nat) (y : Int32) : fk_S I0 (fm_u I 12 f s y) f n (fk_bind x (fun k => .inr (fk_w12 s y k))) := by
  obtain ⟨hw, hx⟩ := hx
  refine ⟨fk_wkR hw 12 _ _ (by decide) (by decide), ?_⟩
  rcases x with c | ⟨ts, fs, L, r1, r2, r3, r4, r5, r6⟩
  · exact ⟨(fk_u_ne I _ _ (by decide)).trans hx.1, hx.2⟩
  · refine fk_CR hx (fun s => fk_u_ne I _ _ (by decide)) (fun s => fk_u_ne I _ _ (by decide)) (fun i s => fk_u_ne I _ _ (by decide)) ((fk_u_ne I _ _ (by decide)).trans hx.2.2.2.2.2.2.2.2.1) hx.2.2.2.2.2.2.2.2.2.2.1 ?_
    intro r hr'
    have q := hx.2.2.2.2.2.2.2.2.2.2.2 r hr'
    dsimp only at q ⊢
    simp only [fm_u_if, fk_up]
    obtain ⟨q1, q2, q3, q4, q5, q6⟩ := q
    simp [q1, q2, q3, q4, q5, q6]
theorem fk_row_fs (nl : Nat) (op a : Int32) (k : fk_K) : (fk_row nl op a k).1 = k.1 ∧ (fk_row nl op a k).2.1 = k.2.1 := by
  obtain ⟨ts, fs, L, r1, r2, r3, r4, r5, r6⟩ := k
  unfold fk_row
  dsimp only
  split <;> exact ⟨rfl, rfl⟩
theorem fk_bb {α β γ : Type} (x : Int32 ⊕ α) (f : α → Int32 ⊕ β) (g : β → Int32 ⊕ γ) : fk_bind (fk_bind x f) g = fk_bind x (fun k => fk_bind (f k) g) := by
  cases x <;> rfl
theorem fk_else_S {I0 I : fm_MI} {f n nl : Nat} {k : fk_K} (hf : f < 4) (hn : n < 40) (hl : I0 2 f 2 = Int32.ofNat nl) (hx : fk_S I0 I f n (.inr k)) : fmC_turnToElse_p I ∧ fk_S I0 (fmC_turnToElse_f I) f (n + 1) (fk_else nl k) := by
  obtain ⟨ts, fs, q⟩ := k
  cases fs with
  | nil => exact absurd hx.2.2.2.2.2.1 (by simp)
  | cons fr fs =>
    obtain ⟨o1, o2, o3, o4⟩ := fk_op_C hx.2
    have hk := hx.2.2.2.2.2.2.2.2.1.1
    have hbr := hk.2.2.2.2.1
    unfold fmC_turnToElse_p fmC_turnToElse_f fm_let
    rw [o2, hk.1]
    by_cases h23 : fr.1 = 23
    · rw [if_pos h23]
      obtain ⟨j1, j2⟩ := fk_just_S hx
      obtain ⟨b1, b2, b3, b4⟩ := fk_row_S (nl := nl) 26 0 hf hn hl j2
      dsimp only
      generalize hr2 : fmC_addRow_f (fmC_takeJustWhatIsGiven_f I) 26 0 = r2 at b2 b3 b4 ⊢
      obtain ⟨s1, s2⟩ := fk_sub hf b2.1
      have hv4 := b2.1.2.2.2.2 fs.length (by omega)
      simp only [fk_bind] at j2
      simp only [fk_else, if_pos h23]
      have hfs : ∀ k, fk_just (ts, fr :: fs, q) = .inr k → ∃ ts', k = (ts', fr :: fs, q) := by
        intro k hk'
        obtain ⟨a, b, c⟩ := k
        obtain ⟨z1, z2, -⟩ := fk_just_i hk'
        subst z1; subst z2
        exact ⟨a, rfl⟩
      have hL40 := hx.2.2.2.2.2.2.2.2.2.2.2.1
      dsimp only at hL40
      by_cases hm : r2.1 = -1
      · rw [if_pos hm, s2]
        obtain ⟨c1, c2⟩ := fk_here_S (r2.2 17 fs.length 4) hv4 b2
        refine ⟨⟨o3, fun _ => ⟨j1, b1, fun _ => ⟨s1, c1⟩, fun q => absurd hm q⟩, fun q => absurd h23 q⟩, ?_⟩
        have key := fk_kd_S (o := fs.length) c2 (fun k hk' => ?_) 24 false
        · cases hjj : fk_just (ts, fr :: fs, q) with
          | inl c =>
            simp only [hjj, fk_bind] at key ⊢
            exact key
          | inr k' =>
            obtain ⟨ts', rfl⟩ := hfs _ hjj
            have hlv : fk_lv (fr :: fs) = false := by
              have := b3 _ hjj
              rw [hm] at this
              dsimp only at this
              cases hz : fk_lv (fr :: fs) with
              | false => rfl
              | true =>
                rw [hz, if_pos rfl] at this
                exact absurd this.symm (fk_m1 (by omega))
            obtain ⟨L, r1, r2', r3, r4, r5, r6⟩ := q
            have hrow : fk_row nl 26 0 (ts', fr :: fs, L, r1, r2', r3, r4, r5, r6) = (ts', fr :: fs, L, r1, r2', r3, r4, r5, r6) := by
              simp only [fk_row, hlv, Bool.false_eq_true, if_false]
            simp only [hjj, fk_bind, hrow] at b2 key ⊢
            rw [b2.2.2.2.2.2.2.2.2.1.1.2.2.2.2.1] at key ⊢
            simp only [fk_elz, hlv, Bool.false_eq_true, if_false]
            exact key
        · cases hjj : fk_just (ts, fr :: fs, q) with
          | inl c => simp only [hjj, fk_bind] at hk'; cases hk'
          | inr k1 =>
            obtain ⟨ts', rfl⟩ := hfs _ hjj
            simp only [hjj, fk_bind] at hk'
            cases hk'
            have h1 := (fk_row_fs nl 26 0 (ts', fr :: fs, q)).2
            generalize fk_row nl 26 0 (ts', fr :: fs, q) = z at h1 ⊢
            obtain ⟨z1, z2, z3, z4, z5, z6, z7, z8, z9⟩ := z
            dsimp only at h1
            subst h1
            unfold fk_here
            dsimp only
            split <;> simp
      · rw [if_neg hm]
        have hvr := b4.resolve_left hm
        rw [s2]
        have d2 := fk_w12_S b2 r2.1.toNatClampNeg (r2.2 13 0 6)
        obtain ⟨s3, s4⟩ := fk_sub hf d2.1
        rw [s4]
        obtain ⟨c1, c2⟩ := fk_here_S (r2.2 17 fs.length 4) hv4 d2
        refine ⟨⟨o3, fun _ => ⟨j1, b1, fun q => absurd q hm, fun _ => ⟨s1, hvr, s3, c1⟩⟩, fun q => absurd h23 q⟩, ?_⟩
        have key := fk_kd_S (o := fs.length) c2 (fun k hk' => ?_) 24 false
        · cases hjj : fk_just (ts, fr :: fs, q) with
          | inl c =>
            simp only [hjj, fk_bind] at key ⊢
            exact key
          | inr k' =>
            obtain ⟨ts', rfl⟩ := hfs _ hjj
            have hlv : fk_lv (fr :: fs) = true := by
              have := b3 _ hjj
              dsimp only at this
              cases hz : fk_lv (fr :: fs) with
              | true => rfl
              | false =>
                rw [hz, if_neg (by decide)] at this
                exact absurd this hm
            have hr1 : r2.1.toNatClampNeg = q.1 := by
              have := b3 _ hjj
              dsimp only at this
              rw [hlv, if_pos rfl] at this
              rw [this]
              exact fk_cl (by omega)
            have hfr := (fk_row_fs nl 26 0 (ts', fr :: fs, q)).2
            simp only [hjj, fk_bind] at b2 key ⊢
            have hop : r2.2 13 0 6 = Int32.ofNat fs.length := by
              have := b2.2.2.2.2.2.2.2.1
              rw [hfr] at this
              simpa using this
            have hb4 : r2.2 17 fs.length 4 = fr.2.2.2.2.2.2.2 := by
              have := b2.2.2.2.2.2.2.2.2.1
              rw [hfr] at this
              exact this.1.2.2.2.2.1
            rw [hb4, hop, hr1] at key ⊢
            simp only [fk_elz, hlv, if_true]
            exact key
        · cases hjj : fk_just (ts, fr :: fs, q) with
          | inl c => simp only [hjj, fk_bind] at hk'; cases hk'
          | inr k1 =>
            obtain ⟨ts', rfl⟩ := hfs _ hjj
            simp only [hjj, fk_bind] at hk'
            cases hk'
            have h1 := (fk_row_fs nl 26 0 (ts', fr :: fs, q)).2
            generalize fk_row nl 26 0 (ts', fr :: fs, q) = z at h1 ⊢
            obtain ⟨z1, z2, z3, z4, z5, z6, z7, z8, z9⟩ := z
            dsimp only at h1
            subst h1
            unfold fk_here fk_w12
            dsimp only
            split <;> simp
    · rw [if_neg h23]
      refine ⟨⟨o3, fun q => absurd q h23, fun _ => trivial⟩, ?_⟩
      simp only [fk_else, if_neg h23]
      exact ⟨fk_wkm (fk_wk13 hx.1 2 5 (by decide) (by decide)) (by omega), fk_u_eq I, by decide⟩
