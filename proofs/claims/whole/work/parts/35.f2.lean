theorem fl_nb {A B : Nat} {e q : Int} (hA : 0 < A) (hB : 0 < B) (hq : FP.Core.quantum FP.Core.b64 A B e = q) (hmin : -1074 < q) : ¬ FP.Core.Below A B (q - e + 52) := by
  have hq0 : q ≠ FP.Core.b64.qmin := by rw [FP.Core.qmin_b64]; omega
  have := FP.Core.quantum_not_below (f := FP.Core.b64) hA hB e
  rw [hq] at this
  exact this.resolve_left hq0
theorem fl_nb' {A B k : Nat} {a : Int} (h : ¬ FP.Core.Below A B a) (ha : a = (k : Int)) : B * 2 ^ k ≤ A := by
  subst ha
  have := FP.Core.below_iff A B k 0
  rw [show ((k : Int) - (0 : Nat)) = (k : Int) by omega] at this
  have h2 := mt this.mpr h
  simpa using Nat.le_of_not_lt h2
theorem fl_hq {c d : Nat} {e q : Int} (hc : 0 < c) (hd : 0 < d) (hc24 : c < 2 ^ 24) (hd24 : d < 2 ^ 24) (hq : FP.Core.quantum FP.Core.b64 c d e = q) (hmin : -1074 < q) : ∀ n, n = FP.Core.nearest (FP.Core.unitsNum c e q) (FP.Core.unitsDen d e q) → ∀ g : Nat, ((g : Int) = max (-149) (q + 29) - q) → n % 2 ^ g = 2 ^ (g - 1) → FP.Core.unitsNum c e q = n * FP.Core.unitsDen d e q := by
  intro n hn g hg hm
  have hnb := fl_nb hc hd hq hmin
  have he : 29 ≤ e - q := by
    rcases (show e - q < 29 ∨ 29 ≤ e - q by omega) with hlt | hge
    · exfalso
      have := fl_nb' hnb (k := (q - e + 52).toNat) (by omega)
      have h24 : 2 ^ 24 ≤ 2 ^ (q - e + 52).toNat := Nat.pow_le_pow_right (by decide) (by omega)
      have h1 : 1 * 2 ^ (q - e + 52).toNat ≤ d * 2 ^ (q - e + 52).toNat := Nat.mul_le_mul_right _ hd
      omega
    · exact hge
  have eD : FP.Core.unitsDen d e q = d := by
    unfold FP.Core.unitsDen
    rw [show (q - e).toNat = 0 by omega]
    simp
  obtain ⟨w, hw⟩ : ∃ w : Nat, (e - q).toNat = w + 28 := ⟨(e - q).toNat - 28, by omega⟩
  have eN : FP.Core.unitsNum c e q = 2 ^ 28 * (c * 2 ^ w) := by
    unfold FP.Core.unitsNum
    rw [hw, Nat.pow_add]
    ac_rfl
  obtain ⟨s1, s2, -⟩ := FP.Core.nearest_spec (FP.Core.unitsNum c e q) (FP.Core.unitsDen d e q) (FP.Core.unitsDen_pos hd e q)
  rw [← hn, eD, eN] at s1 s2
  rw [eD, eN]
  generalize c * 2 ^ w = N' at s1 s2
  obtain ⟨g', hg'⟩ : ∃ g', g = g' + 29 := ⟨g - 29, by omega⟩
  subst hg'
  have hdm := Nat.div_add_mod n (2 ^ (g' + 29))
  rw [hm, show g' + 29 - 1 = g' + 28 by omega] at hdm
  have en : n = 2 ^ 28 * (2 ^ (g' + 1) * (n / 2 ^ (g' + 29)) + 2 ^ g') := by
    rw [Nat.mul_add, ← Nat.mul_assoc, ← Nat.pow_add, ← Nat.pow_add, show 28 + (g' + 1) = g' + 29 by omega, show 28 + g' = g' + 28 by omega]
    exact hdm.symm
  generalize 2 ^ (g' + 1) * (n / 2 ^ (g' + 29)) + 2 ^ g' = n' at en
  rw [en] at s1 s2 ⊢
  have e1 : (2 * (2 ^ 28 * n') + 1) * d = 2 ^ 29 * (n' * d) + d := by rw [Nat.add_mul, ← Nat.mul_assoc, Nat.one_mul, Nat.mul_assoc]
  have e2 : 2 * (2 ^ 28 * n') * d = 2 ^ 29 * (n' * d) := by rw [← Nat.mul_assoc, Nat.mul_assoc]
  rw [e1] at s1
  rw [e2] at s2
  rw [Nat.mul_assoc]
  generalize n' * d = X at s1 s2
  have : N' = X := by omega
  rw [this]
theorem fl_hp {A : Nat} {e q : Int} (hA : 0 < A) (hA48 : A < 2 ^ 48) (hq : FP.Core.quantum FP.Core.b64 A 1 e = q) (hmin : -1074 < q) : ∀ n, n = FP.Core.nearest (FP.Core.unitsNum A e q) (FP.Core.unitsDen 1 e q) → ∀ g : Nat, ((g : Int) = max (-149) (q + 29) - q) → n % 2 ^ g = 2 ^ (g - 1) → FP.Core.unitsNum A e q = n * FP.Core.unitsDen 1 e q := by
  intro n hn g hg hm
  have hnb := fl_nb hA (by decide) hq hmin
  have he : q ≤ e := by
    rcases (show e < q ∨ q ≤ e by omega) with hlt | hge
    · exfalso
      have := fl_nb' hnb (k := (q - e + 52).toNat) (by omega)
      have h48 : 2 ^ 48 ≤ 2 ^ (q - e + 52).toNat := Nat.pow_le_pow_right (by decide) (by omega)
      omega
    · exact hge
  have eD : FP.Core.unitsDen 1 e q = 1 := by
    unfold FP.Core.unitsDen
    rw [show (q - e).toNat = 0 by omega]
  rw [eD] at hn ⊢
  have := FP.Core.nearest_exact (FP.Core.unitsNum A e q) (show 0 < 1 by decide)
  rw [Nat.mul_one] at this
  rw [hn, this, Nat.mul_one]
theorem fl_hs0 {A c d i j : Nat} {q : Int} (hA : 0 < A) (hc24 : c < 2 ^ 24) (hd24 : d < 2 ^ 24) (hij : j ≤ i) (h1 : A ≤ c * 2 ^ i + d * 2 ^ j) (h2 : c * 2 ^ i ≤ A + d * 2 ^ j) (hdv : ∃ A', A = 2 ^ j * A') (hq : FP.Core.quantum FP.Core.b64 A 1 (-149) = q) (hmin : -1074 < q) : ∀ n, n = FP.Core.nearest (FP.Core.unitsNum A (-149) q) (FP.Core.unitsDen 1 (-149) q) → ∀ g : Nat, ((g : Int) = max (-149) (q + 29) - q) → n % 2 ^ g = 2 ^ (g - 1) → FP.Core.unitsNum A (-149) q = n * FP.Core.unitsDen 1 (-149) q := by
  intro n hn g hg hm
  have hnb := fl_nb hA (by decide) hq hmin
  by_cases hq1 : q ≤ -149
  · have eD : FP.Core.unitsDen 1 (-149) q = 1 := by
      unfold FP.Core.unitsDen
      rw [show (q - -149).toNat = 0 by omega]
    rw [eD] at hn ⊢
    have := FP.Core.nearest_exact (FP.Core.unitsNum A (-149) q) (show 0 < 1 by decide)
    rw [Nat.mul_one] at this
    rw [hn, this, Nat.mul_one]
  · obtain ⟨t, ht⟩ : ∃ t : Nat, (t : Int) = q - -149 := ⟨(q - -149).toNat, by omega⟩
    have ht0 : 0 < t := by omega
    have eD : FP.Core.unitsDen 1 (-149) q = 2 ^ t := by
      unfold FP.Core.unitsDen
      rw [show (q - -149).toNat = t by omega, Nat.one_mul]
    have eN : FP.Core.unitsNum A (-149) q = A := by
      unfold FP.Core.unitsNum
      rw [show (-149 - q).toNat = 0 by omega]
      simp
    rw [eD, eN] at hn ⊢
    have hTp := Nat.two_pow_pos t
    have hA52 : 2 ^ (t + 52) ≤ A := by
      have := fl_nb' hnb (k := t + 52) (by omega)
      rw [Nat.one_mul] at this
      exact this
    have hg29 : g = 29 := by omega
    subst hg29
    by_cases hjt : t ≤ j
    · obtain ⟨A', hA'⟩ := hdv
      have e1 : A = (2 ^ (j - t) * A') * 2 ^ t := by
        rw [hA', show j = (j - t) + t by omega, Nat.pow_add, Nat.add_sub_cancel]
        ac_rfl
      rw [e1] at hn ⊢
      rw [FP.Core.nearest_exact _ hTp] at hn
      rw [hn]
    · exfalso
      obtain ⟨s1, s2, -⟩ := FP.Core.nearest_spec A (2 ^ t) hTp
      rw [← hn] at s1 s2
      have hn52 : 2 ^ 52 ≤ n := by
        rw [hn]
        refine FP.Core.nearest_ge hTp ?_
        rw [← Nat.pow_add, Nat.add_comm]
        exact hA52
      have hd1 : d * 2 ^ j < 2 ^ (23 + t) := by
        have a1 : d * 2 ^ j < 2 ^ 24 * 2 ^ j := Nat.mul_lt_mul_of_pos_right hd24 (Nat.two_pow_pos j)
        have a2 : 2 ^ 24 * 2 ^ j ≤ 2 ^ (23 + t) := by
          rw [← Nat.pow_add]
          exact Nat.pow_le_pow_right (by decide) (by omega)
        omega
      have p23 : 2 ^ (23 + t) = 2 ^ 23 * 2 ^ t := Nat.pow_add _ _ _
      have p52 : 2 ^ (t + 52) = 2 ^ 52 * 2 ^ t := by rw [Nat.add_comm, Nat.pow_add]
      rw [p23] at hd1
      rw [p52] at hA52
      have hi : t + 28 ≤ i := by
        rcases Nat.lt_or_ge i (t + 28) with hlt | hge
        · exfalso
          have a1 : c * 2 ^ i ≤ 2 ^ 24 * 2 ^ i := Nat.mul_le_mul_right _ (Nat.le_of_lt hc24)
          have a2 : 2 ^ 24 * 2 ^ i ≤ 2 ^ 51 * 2 ^ t := by
            rw [← Nat.pow_add, ← Nat.pow_add]
            exact Nat.pow_le_pow_right (by decide) (by omega)
          omega
        · exact hge
      obtain ⟨w, hw⟩ : ∃ w, i = t + 28 + w := ⟨i - (t + 28), by omega⟩
      have ec : c * 2 ^ i = 2 ^ 28 * (c * 2 ^ w * 2 ^ t) := by
        rw [hw, Nat.pow_add, Nat.pow_add]
        ac_rfl
      have hdm := Nat.div_add_mod n (2 ^ 29)
      rw [hm] at hdm
      have en : n = 2 ^ 28 * (2 * (n / 2 ^ 29) + 1) := by
        have : (29 : Nat) - 1 = 28 := rfl
        rw [this] at hdm
        omega
      obtain ⟨n', hn'⟩ : ∃ n', n' = 2 * (n / 2 ^ 29) + 1 := ⟨_, rfl⟩
      rw [← hn'] at en
      have e1 : (2 * n + 1) * 2 ^ t = 2 ^ 29 * (n' * 2 ^ t) + 2 ^ t := by
        rw [en, Nat.add_mul, Nat.one_mul, ← Nat.mul_assoc 2, Nat.mul_assoc]
      have e2 : 2 * n * 2 ^ t = 2 ^ 29 * (n' * 2 ^ t) := by
        rw [en, ← Nat.mul_assoc 2, Nat.mul_assoc]
      rw [e1] at s1
      rw [e2] at s2
      rw [ec] at h1 h2
      have hx : c * 2 ^ w = n' := by
        rcases Nat.lt_trichotomy (c * 2 ^ w) n' with hlt | heq | hgt
        · exfalso
          have a1 : (c * 2 ^ w + 1) * 2 ^ t ≤ n' * 2 ^ t := Nat.mul_le_mul_right _ hlt
          rw [Nat.add_mul, Nat.one_mul] at a1
          generalize c * 2 ^ w * 2 ^ t = U at h1 h2 a1
          generalize n' * 2 ^ t = W at s1 s2 a1
          omega
        · exact heq
        · exfalso
          have a1 : (n' + 1) * 2 ^ t ≤ c * 2 ^ w * 2 ^ t := Nat.mul_le_mul_right _ hgt
          rw [Nat.add_mul, Nat.one_mul] at a1
          generalize c * 2 ^ w * 2 ^ t = U at h1 h2 a1
          generalize n' * 2 ^ t = W at s1 s2 a1
          omega
      cases w with
      | zero =>
        rw [Nat.pow_zero, Nat.mul_one] at hx
        rw [← hx] at en
        have : n < 2 ^ 52 := by
          rw [en]
          omega
        omega
      | succ w =>
        have : 2 ∣ n' := by
          rw [← hx, Nat.pow_succ, ← Nat.mul_assoc]
          exact Nat.dvd_mul_left _ _
        omega
theorem fl_hs {A c d i j : Nat} {q : Int} (hA : 0 < A) (hc24 : c < 2 ^ 24) (hd24 : d < 2 ^ 24) (h1 : A ≤ c * 2 ^ i + d * 2 ^ j) (h2 : c * 2 ^ i ≤ A + d * 2 ^ j) (h3 : d * 2 ^ j ≤ A + c * 2 ^ i) (hdv : ∃ A', A = 2 ^ (min i j) * A') (hq : FP.Core.quantum FP.Core.b64 A 1 (-149) = q) (hmin : -1074 < q) : ∀ n, n = FP.Core.nearest (FP.Core.unitsNum A (-149) q) (FP.Core.unitsDen 1 (-149) q) → ∀ g : Nat, ((g : Int) = max (-149) (q + 29) - q) → n % 2 ^ g = 2 ^ (g - 1) → FP.Core.unitsNum A (-149) q = n * FP.Core.unitsDen 1 (-149) q := by
  rcases Nat.le_total j i with hij | hij
  · exact fl_hs0 hA hc24 hd24 hij h1 h2 (by rw [Nat.min_eq_right hij] at hdv; exact hdv) hq hmin
  · exact fl_hs0 hA hd24 hc24 hij (by omega) h3 (by rw [Nat.min_eq_left hij] at hdv; exact hdv) hq hmin
theorem fl_ld {A B k : Nat} (hA : 0 < A) (hB : 0 < B) (hA2 : A < 2 ^ k) (hB2 : B < 2 ^ k) : -(k : Int) ≤ FP.Core.leading A B ∧ FP.Core.leading A B < k := by
  obtain ⟨h1, h2⟩ := FP.Core.leading_spec hA hB
  generalize FP.Core.leading A B = L at h1 h2
  constructor
  · rcases (show L < -(k : Int) ∨ -(k : Int) ≤ L by omega) with h | h
    · exfalso
      have e1 : L + 1 = ((0 : Nat) : Int) - ((-(L + 1)).toNat : Nat) := by omega
      rw [e1, FP.Core.below_iff] at h2
      have a1 : 2 ^ k ≤ 2 ^ (-(L + 1)).toNat := Nat.pow_le_pow_right (by decide) (by omega)
      have a2 : 1 * 2 ^ (-(L + 1)).toNat ≤ A * 2 ^ (-(L + 1)).toNat := Nat.mul_le_mul_right _ hA
      omega
    · exact h
  · rcases (show (k : Int) ≤ L ∨ L < k by omega) with h | h
    · exfalso
      have := fl_nb' h1 (k := L.toNat) (by omega)
      have a1 : 2 ^ k ≤ 2 ^ L.toNat := Nat.pow_le_pow_right (by decide) (by omega)
      have a2 : 1 * 2 ^ L.toNat ≤ B * 2 ^ L.toNat := Nat.mul_le_mul_right _ hB
      omega
    · exact h
theorem fl_qb {A B k : Nat} {e : Int} (hA : 0 < A) (hB : 0 < B) (hA2 : A < 2 ^ k) (hB2 : B < 2 ^ k) (he : (k : Int) - 1022 < e) (he2 : (k : Int) + e < 900) : -1074 < FP.Core.quantum FP.Core.b64 A B e ∧ FP.Core.quantum FP.Core.b64 A B e < 900 := by
  obtain ⟨h1, h2⟩ := fl_ld hA hB hA2 hB2
  unfold FP.Core.quantum
  have p64 : (FP.Core.b64.p : Int) = 53 := rfl
  rw [p64, FP.Core.qmin_b64]
  omega
theorem fl_r0 (f : FP.Core.Fmt) (s : Bool) (B : Nat) (e : Int) : FP.Core.roundRatio f s 0 B e = .fin s 0 f.qmin := if_pos rfl
theorem fl_z32 (s : Bool) (B : Nat) (e : Int) : FP.Core.round FP.Core.b32 (FP.Core.roundRatio FP.Core.b64 s 0 B e) = FP.Core.roundRatio FP.Core.b32 s 0 B e := by
  rw [fl_r0, fl_r0]
  show FP.Core.roundRatio FP.Core.b32 s 0 1 FP.Core.b64.qmin = _
  rw [fl_r0]
def fl_same (c : Nat) (q : Int) (c' : Nat) (q' : Int) : Prop := c * 2 ^ (q - q').toNat = c' * 2 ^ (q' - q).toNat
theorem fl_can {a b m : Nat} (h : a * 2 ^ m = b * 2 ^ m) : a = b := Nat.eq_of_mul_eq_mul_right (Nat.two_pow_pos m) h
theorem fl_prod {s t : Bool} {c d c' d' : Nat} {q r q' r' : Int} (hc : c < 2 ^ 24) (hd : d < 2 ^ 24) (hq : -149 ≤ q ∧ q ≤ 104) (hr : -149 ≤ r ∧ r ≤ 104) (e1 : fl_same c q c' q') (e2 : fl_same d r d' r') :
    FP.Core.round FP.Core.b32 (FP.Core.round FP.Core.b64 (FP.Core.exactProduct (.fin s c' q') (.fin t d' r'))) = FP.Core.round FP.Core.b32 (FP.Core.exactProduct (.fin s c q) (.fin t d r)) := by
  have h1 : FP.Core.round FP.Core.b64 (FP.Core.exactProduct (.fin s c' q') (.fin t d' r')) = FP.Core.roundRatio FP.Core.b64 (s != t) (c * d) 1 (q + r) := by
    show FP.Core.roundRatio FP.Core.b64 (s != t) (c' * d') 1 (q' + r') = _
    refine FP.Core.roundRatio_congr (by decide) (by decide) ?_
    rw [Nat.mul_one, Nat.mul_one]
    unfold fl_same at e1 e2
    obtain ⟨m, hm1, hm2⟩ : ∃ m : Nat, (q - q').toNat + (r - r').toNat = (q + r - (q' + r')).toNat + m ∧ (q' - q).toNat + (r' - r).toNat = (q' + r' - (q + r)).toNat + m := ⟨(q - q').toNat + (r - r').toNat - (q + r - (q' + r')).toNat, by omega, by omega⟩
    refine fl_can (m := m) ?_
    calc c' * d' * 2 ^ (q' + r' - (q + r)).toNat * 2 ^ m = (c' * 2 ^ (q' - q).toNat) * (d' * 2 ^ (r' - r).toNat) := by
          rw [Nat.mul_assoc, ← Nat.pow_add, ← hm2, Nat.pow_add]; ac_rfl
      _ = (c * 2 ^ (q - q').toNat) * (d * 2 ^ (r - r').toNat) := by rw [e1, e2]
      _ = c * d * 2 ^ (q + r - (q' + r')).toNat * 2 ^ m := by
          rw [Nat.mul_assoc (c * d), ← Nat.pow_add, ← hm1, Nat.pow_add]; ac_rfl
  rw [h1]
  show _ = FP.Core.roundRatio FP.Core.b32 (s != t) (c * d) 1 (q + r)
  rcases Nat.eq_zero_or_pos (c * d) with h0 | h0
  · rw [h0]; exact fl_z32 _ _ _
  · have hcd : c * d < 2 ^ 48 := by
      have hdp : 0 < d := Nat.pos_of_mul_pos_left h0
      calc c * d < 2 ^ 24 * d := Nat.mul_lt_mul_of_pos_right hc hdp
        _ ≤ 2 ^ 24 * 2 ^ 24 := Nat.mul_le_mul_left _ (Nat.le_of_lt hd)
        _ = 2 ^ 48 := by decide
    obtain ⟨b1, b2⟩ := fl_qb (e := q + r) (k := 48) h0 (show 0 < 1 by decide) hcd (by decide) (by omega) (by omega)
    exact fl_dr h0 (by decide) rfl b1 b2 (fl_hp h0 hcd rfl b1)
theorem fl_quot {s t : Bool} {c d c' d' : Nat} {q r q' r' : Int} (hc : c < 2 ^ 24) (hd : d < 2 ^ 24) (hq : -149 ≤ q ∧ q ≤ 104) (hr : -149 ≤ r ∧ r ≤ 104) (e1 : fl_same c q c' q') (e2 : fl_same d r d' r') (hd0 : d ≠ 0) (hd0' : d' ≠ 0) :
    FP.Core.round FP.Core.b32 (FP.Core.quotient FP.Core.b64 (.fin s c' q') (.fin t d' r')) = FP.Core.quotient FP.Core.b32 (.fin s c q) (.fin t d r) := by
  have h1 : FP.Core.quotient FP.Core.b64 (.fin s c' q') (.fin t d' r') = FP.Core.roundRatio FP.Core.b64 (s != t) c d (q - r) := by
    show (if d' = 0 then _ else FP.Core.roundRatio FP.Core.b64 (s != t) c' d' (q' - r')) = _
    rw [if_neg hd0']
    refine FP.Core.roundRatio_congr (by omega) (by omega) ?_
    unfold fl_same at e1 e2
    obtain ⟨m, hm1, hm2⟩ : ∃ m : Nat, (q - q').toNat + (r' - r).toNat = (q - r - (q' - r')).toNat + m ∧ (q' - q).toNat + (r - r').toNat = (q' - r' - (q - r)).toNat + m := ⟨(q - q').toNat + (r' - r).toNat - (q - r - (q' - r')).toNat, by omega, by omega⟩
    refine fl_can (m := m) ?_
    calc c' * d * 2 ^ (q' - r' - (q - r)).toNat * 2 ^ m = (c' * 2 ^ (q' - q).toNat) * (d * 2 ^ (r - r').toNat) := by
          rw [Nat.mul_assoc, ← Nat.pow_add, ← hm2, Nat.pow_add]; ac_rfl
      _ = (c * 2 ^ (q - q').toNat) * (d' * 2 ^ (r' - r).toNat) := by rw [e1, e2]
      _ = c * d' * 2 ^ (q - r - (q' - r')).toNat * 2 ^ m := by
          rw [Nat.mul_assoc (c * d'), ← Nat.pow_add, ← hm1, Nat.pow_add]; ac_rfl
  rw [h1]
  show _ = (if d = 0 then _ else FP.Core.roundRatio FP.Core.b32 (s != t) c d (q - r))
  rw [if_neg hd0]
  rcases Nat.eq_zero_or_pos c with h0 | h0
  · rw [h0]; exact fl_z32 _ _ _
  · have hdp : 0 < d := Nat.pos_of_ne_zero hd0
    obtain ⟨b1, b2⟩ := fl_qb (e := q - r) (k := 24) h0 hdp hc hd (by omega) (by omega)
    exact fl_dr h0 hdp rfl b1 b2 (fl_hq h0 hdp hc hd rfl b1)
theorem fl_sgn {s t : Bool} {v w : Int} {k : Nat} (h : v * ((2 ^ k : Nat) : Int) = w) : FP.Core.sumSign s t v = FP.Core.sumSign s t w := by
  have hk : (0 : Int) < ((2 ^ k : Nat) : Int) := by exact_mod_cast Nat.two_pow_pos k
  have h0 : v = 0 ↔ w = 0 := by
    constructor
    · intro z; rw [← h, z, Int.zero_mul]
    · intro z
      rw [z] at h
      rcases Int.mul_eq_zero.mp h with a | a
      · exact a
      · omega
  have h1 : v < 0 ↔ w < 0 := by
    rw [← h]
    constructor
    · intro z; exact Int.mul_neg_of_neg_of_pos z hk
    · intro z
      rcases (show v < 0 ∨ 0 ≤ v by omega) with a | a
      · exact a
      · have := Int.mul_nonneg a (Int.le_of_lt hk)
        omega
  unfold FP.Core.sumSign
  by_cases hv : v = 0
  · rw [if_pos hv, if_pos (h0.mp hv)]
  · rw [if_neg hv, if_neg (fun z => hv (h0.mpr z))]
    exact decide_eq_decide.mpr h1
def fl_S (s : Bool) (c : Nat) (q : Int) (t : Bool) (d : Nat) (r : Int) : Int := FP.Core.signed s (c * 2 ^ (q + 149).toNat) + FP.Core.signed t (d * 2 ^ (r + 149).toNat)
theorem fl_sum32 {s t : Bool} {c d : Nat} {q r : Int} (hq : -149 ≤ q) (hr : -149 ≤ r) : FP.Core.round FP.Core.b32 (FP.Core.exactSum (.fin s c q) (.fin t d r)) = FP.Core.roundRatio FP.Core.b32 (FP.Core.sumSign s t (fl_S s c q t d r)) (fl_S s c q t d r).natAbs 1 (-149) := by
  have hv : FP.Core.sumUnits s c q t d r (min q r) * ((2 ^ (min q r + 149).toNat : Nat) : Int) = fl_S s c q t d r := by
    unfold FP.Core.sumUnits fl_S FP.Core.inUnits
    rw [Int.add_mul, ← FP.Core.signed_mul, ← FP.Core.signed_mul, Nat.mul_assoc, ← Nat.pow_add, Nat.mul_assoc, ← Nat.pow_add, show (q - min q r).toNat + (min q r + 149).toNat = (q + 149).toNat by omega, show (r - min q r).toNat + (min q r + 149).toNat = (r + 149).toNat by omega]
  show FP.Core.roundRatio FP.Core.b32 (FP.Core.sumSign s t (FP.Core.sumUnits s c q t d r (min q r))) (FP.Core.sumUnits s c q t d r (min q r)).natAbs 1 (min q r) = _
  rw [fl_sgn hv]
  refine FP.Core.roundRatio_congr (by decide) (by decide) ?_
  rw [Nat.mul_one, Nat.mul_one, ← hv, Int.natAbs_mul, Int.natAbs_natCast, show (min q r - -149).toNat = (min q r + 149).toNat by omega, show (-149 - min q r).toNat = 0 by omega, Nat.pow_zero, Nat.mul_one]
theorem fl_sum64 {s t : Bool} {c d c' d' : Nat} {q r q' r' : Int} (hq : -149 ≤ q) (hr : -149 ≤ r) (hq' : -1074 ≤ q') (hr' : -1074 ≤ r') (e1 : fl_same c q c' q') (e2 : fl_same d r d' r') : FP.Core.round FP.Core.b64 (FP.Core.exactSum (.fin s c' q') (.fin t d' r')) = FP.Core.roundRatio FP.Core.b64 (FP.Core.sumSign s t (fl_S s c q t d r)) (fl_S s c q t d r).natAbs 1 (-149) := by
  have hc : ∀ {c c' : Nat} {q q' : Int}, -149 ≤ q → -1074 ≤ q' → fl_same c q c' q' → c' * 2 ^ (q' + 1074).toNat = c * 2 ^ (q + 149).toNat * 2 ^ 925 := by
    intro c c' q q' hq hq' e
    unfold fl_same at e
    obtain ⟨m, hm1, hm2⟩ : ∃ m : Nat, (q' + 1074).toNat = (q' - q).toNat + m ∧ (q + 149).toNat + 925 = (q - q').toNat + m := ⟨(q' + 1074).toNat - (q' - q).toNat, by omega, by omega⟩
    rw [hm1, Nat.pow_add, ← Nat.mul_assoc, ← e, Nat.mul_assoc, ← Nat.pow_add, Nat.mul_assoc c, ← Nat.pow_add, hm2]
  have hv : FP.Core.sumUnits s c' q' t d' r' (min q' r') * ((2 ^ (min q' r' + 1074).toNat : Nat) : Int) = fl_S s c q t d r * ((2 ^ 925 : Nat) : Int) := by
    unfold FP.Core.sumUnits fl_S FP.Core.inUnits
    rw [Int.add_mul, ← FP.Core.signed_mul, ← FP.Core.signed_mul, Nat.mul_assoc, ← Nat.pow_add, Nat.mul_assoc, ← Nat.pow_add, show (q' - min q' r').toNat + (min q' r' + 1074).toNat = (q' + 1074).toNat by omega, show (r' - min q' r').toNat + (min q' r' + 1074).toNat = (r' + 1074).toNat by omega, hc hq hq' e1, hc hr hr' e2, Int.add_mul, ← FP.Core.signed_mul, ← FP.Core.signed_mul]
  show FP.Core.roundRatio FP.Core.b64 (FP.Core.sumSign s t (FP.Core.sumUnits s c' q' t d' r' (min q' r'))) (FP.Core.sumUnits s c' q' t d' r' (min q' r')).natAbs 1 (min q' r') = _
  rw [fl_sgn hv, ← fl_sgn (s := s) (t := t) (v := fl_S s c q t d r) (k := 925) rfl]
  refine FP.Core.roundRatio_congr (by decide) (by decide) ?_
  have hab := congrArg Int.natAbs hv
  rw [Int.natAbs_mul, Int.natAbs_mul, Int.natAbs_natCast, Int.natAbs_natCast] at hab
  rw [Nat.mul_one, Nat.mul_one]
  obtain ⟨m, hm1, hm2⟩ : ∃ m : Nat, (min q' r' + 1074).toNat = (min q' r' - -149).toNat + m ∧ 925 = (-149 - min q' r').toNat + m := ⟨925 - (-149 - min q' r').toNat, by omega, by omega⟩
  refine fl_can (m := m) ?_
  rw [Nat.mul_assoc, ← Nat.pow_add, ← hm1, hab, Nat.mul_assoc, ← Nat.pow_add, ← hm2]
theorem fl_sum {s t : Bool} {c d c' d' : Nat} {q r q' r' : Int} (hc : c < 2 ^ 24) (hd : d < 2 ^ 24) (hq : -149 ≤ q ∧ q ≤ 104) (hr : -149 ≤ r ∧ r ≤ 104) (hq' : -1074 ≤ q') (hr' : -1074 ≤ r') (e1 : fl_same c q c' q') (e2 : fl_same d r d' r') :
    FP.Core.round FP.Core.b32 (FP.Core.round FP.Core.b64 (FP.Core.exactSum (.fin s c' q') (.fin t d' r'))) = FP.Core.round FP.Core.b32 (FP.Core.exactSum (.fin s c q) (.fin t d r)) := by
  rw [fl_sum64 hq.1 hr.1 hq' hr' e1 e2, fl_sum32 hq.1 hr.1]
  generalize FP.Core.sumSign s t (fl_S s c q t d r) = σ
  rcases Nat.eq_zero_or_pos (fl_S s c q t d r).natAbs with h0 | h0
  · rw [h0]; exact fl_z32 _ _ _
  · have n1 : (FP.Core.signed s (c * 2 ^ (q + 149).toNat)).natAbs = c * 2 ^ (q + 149).toNat := FP.Core.natAbs_signed _ _
    have n2 : (FP.Core.signed t (d * 2 ^ (r + 149).toNat)).natAbs = d * 2 ^ (r + 149).toNat := FP.Core.natAbs_signed _ _
    have hS : fl_S s c q t d r = FP.Core.signed s (c * 2 ^ (q + 149).toNat) + FP.Core.signed t (d * 2 ^ (r + 149).toNat) := rfl
    have b1 : (fl_S s c q t d r).natAbs ≤ c * 2 ^ (q + 149).toNat + d * 2 ^ (r + 149).toNat := by rw [hS]; omega
    have b2 : c * 2 ^ (q + 149).toNat ≤ (fl_S s c q t d r).natAbs + d * 2 ^ (r + 149).toNat := by rw [hS]; omega
    have b3 : d * 2 ^ (r + 149).toNat ≤ (fl_S s c q t d r).natAbs + c * 2 ^ (q + 149).toNat := by rw [hS]; omega
    have hdv : ∃ A', (fl_S s c q t d r).natAbs = 2 ^ (min (q + 149).toNat (r + 149).toNat) * A' := by
      have : ∃ z : Int, fl_S s c q t d r = z * ((2 ^ (min (q + 149).toNat (r + 149).toNat) : Nat) : Int) := by
        refine ⟨FP.Core.signed s (c * 2 ^ ((q + 149).toNat - min (q + 149).toNat (r + 149).toNat)) + FP.Core.signed t (d * 2 ^ ((r + 149).toNat - min (q + 149).toNat (r + 149).toNat)), ?_⟩
        rw [Int.add_mul, ← FP.Core.signed_mul, ← FP.Core.signed_mul, Nat.mul_assoc, ← Nat.pow_add, Nat.mul_assoc, ← Nat.pow_add, Nat.sub_add_cancel (Nat.min_le_left _ _), Nat.sub_add_cancel (Nat.min_le_right _ _)]
        rfl
      obtain ⟨z, hz⟩ := this
      refine ⟨z.natAbs, ?_⟩
      rw [hz, Int.natAbs_mul, Int.natAbs_natCast, Nat.mul_comm]
    have bb : (fl_S s c q t d r).natAbs < 2 ^ 280 := by
      have k : ∀ {x : Nat} {y : Int}, x < 2 ^ 24 → y ≤ 104 → x * 2 ^ (y + 149).toNat < 2 ^ 278 := by
        intro x y hx hy
        calc x * 2 ^ (y + 149).toNat < 2 ^ 24 * 2 ^ (y + 149).toNat := Nat.mul_lt_mul_of_pos_right hx (Nat.two_pow_pos _)
          _ ≤ 2 ^ 278 := by
            rw [← Nat.pow_add]
            exact Nat.pow_le_pow_right (by decide) (by omega)
      have k1 := k hc hq.2
      have k2 := k hd hr.2
      have : (2 : Nat) ^ 280 = 4 * 2 ^ 278 := by rw [show (280 : Nat) = 2 + 278 from rfl, Nat.pow_add]
      omega
    obtain ⟨p1, p2⟩ := fl_qb (e := -149) (k := 280) h0 (show 0 < 1 by decide) bb (Nat.one_lt_two_pow (by decide)) (by omega) (by omega)
    exact fl_dr h0 (by decide) rfl p1 p2 (fl_hs h0 hc hd b1 b2 b3 hdv rfl p1)
theorem fl_pr {x : UInt64} (h : fk_flt x) : ∃ s c q c' q', FP.Core.val32 (FP.d2f x) = .fin s c q ∧ FP.Core.val64 x = .fin s c' q' ∧ (c < 2 ^ 24 ∧ (-149 ≤ q ∧ q ≤ 104)) ∧ -1074 ≤ q' ∧ (c = 0 ↔ c' = 0) ∧ fl_same c q c' q' := by
  obtain ⟨hfi, hn, hrt⟩ := h
  have hb := fl_dn (fl_fi.mp hfi)
  have hn' := (fl_n32 _).mp hn
  generalize FP.d2f x = a at hb hn' hrt
  obtain ⟨s, c, q, hv⟩ := (FP.Core.fin_bits32 a).mpr (show a.toNat % 2 ^ 31 < 2139095040 by omega)
  have hf := FP.Core.val32_fits a
  rw [hv] at hf
  obtain ⟨c', q', hfit, hz, hs⟩ := FP.Core.within_fit FP.Core.good_b64 FP.Core.within_32_64 hf
  have h1 : FP.Core.round FP.Core.b64 (.fin s c q) = .fin s c' q' := FP.Core.roundRatio_exact FP.Core.good_b64 (by decide) hfit hs
  have h2 : FP.Core.val64 x = .fin s c' q' := by
    rw [← hrt, fl_f2d hn', FP.Core.val64_f2d, hv, h1]
  obtain ⟨f1, f2, f3, -⟩ := hf
  have qm : FP.Core.b32.qmax = 104 := by decide +kernel
  have f4 := hfit.2.1
  rw [FP.Core.qmin_b64] at f4
  rw [FP.Core.qmin_b32] at f2
  rw [qm] at f3
  refine ⟨s, c, q, c', q', hv, h2, ⟨f1, f2, f3⟩, f4, hz, ?_⟩
  unfold fl_same
  rw [Nat.mul_one] at hs
  exact hs
theorem fl_inj {u : UInt64} {v : UInt32} (hu : FP.Core.val64 u ≠ .nan) (hv : FP.Core.val32 v ≠ .nan) (h : FP.Core.round FP.Core.b32 (FP.Core.val64 u) = FP.Core.val32 v) : FP.d2f u = v := by
  rw [fl_d2f hu]
  refine (FP.Core.val32_inj hv ?_).symm
  rw [FP.Core.val32_d2f, h]
theorem fl_flf {x : UInt64} (h : fk_flt x) : FP.Core.FFin (FP.d2f x) := by
  obtain ⟨s, c, q, -, -, hv, -⟩ := fl_pr h
  exact ⟨s, c, q, hv⟩
theorem fl_C (o : Nat) (x y : UInt64) (ho : o = 11 ∨ o = 12 ∨ o = 13 ∨ o = 14) (hx : fk_flt x) (hy : fk_flt y) (hz : o = 14 → ¬ fk_z0 y) : FP.d2f (fmA_fractionOutcome_f (Int32.ofNat o) x y) = fmD_small_f (Int32.ofNat o) (FP.d2f x) (FP.d2f y) ∧ vf_n32 (fmD_small_f (Int32.ofNat o) (FP.d2f x) (FP.d2f y)) ∧ vf_n64 (FP.f2d (fmD_small_f (Int32.ofNat o) (FP.d2f x) (FP.d2f y))) ∧ FP.d2f (FP.f2d (fmD_small_f (Int32.ofNat o) (FP.d2f x) (FP.d2f y))) = fmD_small_f (Int32.ofNat o) (FP.d2f x) (FP.d2f y) := by
  have hB := (fl_n64 _).mp (fl_B o x y ho hx.1 hy.1 hz)
  have fx := fl_flf hx
  have fy := fl_flf hy
  obtain ⟨s, c, q, c', q', x1, x2, ⟨x3, x4⟩, x5, x6, x7⟩ := fl_pr hx
  obtain ⟨t, d, r, d', r', y1, y2, ⟨y3, y4⟩, y5, y6, y7⟩ := fl_pr hy
  have key : FP.Core.val32 (fmD_small_f (Int32.ofNat o) (FP.d2f x) (FP.d2f y)) ≠ .nan ∧ FP.Core.round FP.Core.b32 (FP.Core.val64 (fmA_fractionOutcome_f (Int32.ofNat o) x y)) = FP.Core.val32 (fmD_small_f (Int32.ofNat o) (FP.d2f x) (FP.d2f y)) := by
    rcases ho with rfl | rfl | rfl | rfl
    · refine ⟨(fl_n32 _).mp (fl_isn32 (FP.Core.fadd_out fx.notNaN fy)), ?_⟩
      show FP.Core.round FP.Core.b32 (FP.Core.val64 (FP.Core.dadd x y)) = FP.Core.val32 (FP.Core.fadd (FP.d2f x) (FP.d2f y))
      rw [FP.Core.val64_dadd, FP.Core.val32_fadd, x1, x2, y1, y2]
      exact fl_sum x3 y3 x4 y4 x5 y5 x7 y7
    · refine ⟨(fl_n32 _).mp (fl_isn32 (FP.Core.fsub_out fx.notNaN fy)), ?_⟩
      show FP.Core.round FP.Core.b32 (FP.Core.val64 (FP.Core.dsub x y)) = FP.Core.val32 (FP.Core.fsub (FP.d2f x) (FP.d2f y))
      rw [FP.Core.val64_dsub, FP.Core.val32_fsub, x1, x2, y1, y2]
      exact fl_sum (t := !t) x3 y3 x4 y4 x5 y5 x7 y7
    · refine ⟨(fl_n32 _).mp (fl_isn32 (FP.Core.fmul_out fx fy)), ?_⟩
      show FP.Core.round FP.Core.b32 (FP.Core.val64 (FP.Core.dmul x y)) = FP.Core.val32 (FP.Core.fmul (FP.d2f x) (FP.d2f y))
      rw [FP.Core.val64_dmul, FP.Core.val32_fmul, x1, x2, y1, y2]
      exact fl_prod x3 y3 x4 y4 x7 y7
    · have hnz := fl_nz hy.1 (hz rfl)
      have hd' : d' ≠ 0 := fun w => hnz ⟨t, r', by rw [y2, w]⟩
      have hd : d ≠ 0 := fun w => hd' (y6.mp w)
      have fnz : ¬ FP.Core.FZero (FP.d2f y) := by
        rintro ⟨t', r'', w⟩
        rw [y1] at w
        injection w with w1 w2 w3
        exact hd w2
      refine ⟨(fl_n32 _).mp (fl_isn32 (FP.Core.fdiv_out fx.notNaN fy fnz)), ?_⟩
      show FP.Core.round FP.Core.b32 (FP.Core.val64 (FP.Core.ddiv x y)) = FP.Core.val32 (FP.Core.fdiv (FP.d2f x) (FP.d2f y))
      rw [FP.Core.val64_ddiv, FP.Core.val32_fdiv, x1, x2, y1, y2]
      exact fl_quot x3 y3 x4 y4 x7 y7 hd hd'
  exact ⟨fl_inj hB key.1 key.2, (fl_n32 _).mpr key.1, (fl_n64 _).mpr (fl_f2dn key.1), fl_rt key.1⟩
theorem fl_FL : fk_FL := ⟨fl_A, fl_B, fl_C, fl_D, fl_F, fl_K⟩
