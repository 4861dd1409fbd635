theorem fl_n64 (x : UInt64) : vf_n64 x ↔ FP.Core.val64 x ≠ .nan := by
  unfold vf_n64
  rw [FP.Core.ne_nan, ← FP.Core.mask_toNat, UInt64.le_iff_toNat_le]
  exact Iff.rfl
theorem fl_n32 (x : UInt32) : vf_n32 x ↔ FP.Core.val32 x ≠ .nan := by
  unfold vf_n32
  rw [FP.Core.ne_nan32, ← FP.Core.mask_toNat32, UInt32.le_iff_toNat_le]
  exact Iff.rfl
theorem fl_cv (a b : Int) (op : ClassFile.CmpOp) : Op.cmpValue (some (compare a b)) op = if a < b then -1 else if a = b then 0 else 1 := by
  rw [FP.Core.compare_ite]
  by_cases h1 : a < b
  · rw [if_pos h1, if_pos h1]; rfl
  · rw [if_neg h1, if_neg h1]
    by_cases h2 : a = b
    · rw [if_pos h2, if_pos h2]; rfl
    · rw [if_neg h2, if_neg h2]; rfl
theorem fl_pos (a b : Int) (op : ClassFile.CmpOp) : (0 : Int32) < Op.cmpValue (some (compare a b)) op ↔ b < a := by
  rw [fl_cv]
  by_cases h1 : a < b
  · rw [if_pos h1]; exact ⟨fun q => absurd q (by decide), fun q => by omega⟩
  · rw [if_neg h1]
    by_cases h2 : a = b
    · rw [if_pos h2]; exact ⟨fun q => absurd q (by decide), fun q => by omega⟩
    · rw [if_neg h2]; exact ⟨fun _ => by omega, fun _ => by decide⟩
theorem fl_nneg (a b : Int) (op : ClassFile.CmpOp) : (0 : Int32) ≤ Op.cmpValue (some (compare a b)) op ↔ b ≤ a := by
  rw [fl_cv]
  by_cases h1 : a < b
  · rw [if_pos h1]; exact ⟨fun q => absurd q (by decide), fun q => by omega⟩
  · rw [if_neg h1]
    by_cases h2 : a = b
    · rw [if_pos h2]; exact ⟨fun q => by omega, fun _ => by decide⟩
    · rw [if_neg h2]; exact ⟨fun _ => by omega, fun _ => by decide⟩
theorem fl_zero (a b : Int) (op : ClassFile.CmpOp) : Op.cmpValue (some (compare a b)) op = 0 ↔ a = b := by
  rw [fl_cv]
  by_cases h1 : a < b
  · rw [if_pos h1]; exact ⟨fun q => absurd q (by decide), fun q => by omega⟩
  · rw [if_neg h1]
    by_cases h2 : a = b
    · rw [if_pos h2]; exact ⟨fun _ => h2, fun _ => rfl⟩
    · rw [if_neg h2]; exact ⟨fun q => absurd q (by decide), fun q => absurd q h2⟩
theorem fl_key (x : UInt64) : (FP.Core.dkey x = (x.toNat % 2 ^ 63 : Nat)) ∨ (FP.Core.dkey x = -((x.toNat % 2 ^ 63 : Nat) : Int)) := by
  have := UInt64.toNat_lt x
  unfold FP.Core.dkey
  split <;> omega
theorem fl_two {x c c' : UInt64} {K : Nat} (h : FP.Core.val64 x ≠ .nan) (hc : FP.Core.val64 c ≠ .nan) (hc' : FP.Core.val64 c' ≠ .nan) (k1 : FP.Core.dkey c = K) (k2 : FP.Core.dkey c' = -(K : Int)) : (if (0 : Int32) < Op.cmpValue (FP.dcmp x c) .l then (1 : Int32) else (if (0 : Int32) ≤ Op.cmpValue (FP.dcmp x c') .g then 0 else 1)) = 0 ↔ x.toNat % 2 ^ 63 ≤ K := by
  have e1 : FP.dcmp x c = some (compare (FP.Core.dkey x) (FP.Core.dkey c)) := FP.Core.dcmp_key h hc
  have e2 : FP.dcmp x c' = some (compare (FP.Core.dkey x) (FP.Core.dkey c')) := FP.Core.dcmp_key h hc'
  have p1 := fl_pos (FP.Core.dkey x) (FP.Core.dkey c) .l
  have p2 := fl_nneg (FP.Core.dkey x) (FP.Core.dkey c') .g
  rw [← e1, k1] at p1
  rw [← e2, k2] at p2
  have hk := fl_key x
  by_cases h1 : (0 : Int32) < Op.cmpValue (FP.dcmp x c) .l
  · rw [if_pos h1]
    have := p1.mp h1
    exact ⟨fun q => absurd q (by decide), fun q => by omega⟩
  · rw [if_neg h1]
    have h1' := mt p1.mpr h1
    by_cases h2 : (0 : Int32) ≤ Op.cmpValue (FP.dcmp x c') .g
    · rw [if_pos h2]
      have := p2.mp h2
      exact ⟨fun _ => by omega, fun _ => rfl⟩
    · rw [if_neg h2]
      have h2' := mt p2.mpr h2
      exact ⟨fun q => absurd q (by decide), fun q => by omega⟩
theorem fl_lg {x : UInt64} (h : FP.Core.val64 x ≠ .nan) : fmD_large_f x = 0 ↔ x.toNat % 2 ^ 63 ≤ 4741671816366391296 :=
  fl_two (K := 4741671816366391296) h (by decide +kernel) (by decide +kernel) (by decide +kernel) (by decide +kernel)
theorem fl_es {x : UInt64} (h : FP.Core.val64 x ≠ .nan) : fmA_isEndless_f x = 0 ↔ x.toNat % 2 ^ 63 ≤ 9218868437227405311 :=
  fl_two (K := 9218868437227405311) h (by decide +kernel) (by decide +kernel) (by decide +kernel) (by decide +kernel)
theorem fl_fi {x : UInt64} : fk_fi x ↔ x.toNat % 2 ^ 63 ≤ 4741671816366391296 := by
  unfold fk_fi
  rw [fl_n64]
  constructor
  · rintro ⟨h1, h2⟩
    exact (fl_lg h1).mp h2
  · intro h
    have h1 : FP.Core.val64 x ≠ .nan := (FP.Core.ne_nan x).mpr (by omega)
    exact ⟨h1, (fl_lg h1).mpr h⟩
theorem fl_fin {x : UInt64} (h : fk_fi x) : FP.Core.DFin x := (FP.Core.fin_bits x).mpr (by have := fl_fi.mp h; omega)
theorem fl_A (x : UInt64) (h : fk_fi x) : Op.cmpValue (FP.dcmp x x) .l = 0 ∧ fmA_isEndless_f x = 0 := by
  have h1 := (fl_n64 x).mp h.1
  refine ⟨?_, (fl_es h1).mpr (by have := fl_fi.mp h; omega)⟩
  have : FP.dcmp x x = some .eq := FP.Core.dcmp_self h1
  rw [this]; rfl
theorem fl_isn {x : UInt64} (h : FP.Core.dIsNaN x = false) : vf_n64 x := (fl_n64 x).mpr ((FP.Core.notNaN_iff x).mp h)
theorem fl_isn32 {x : UInt32} (h : FP.Core.fIsNaN x = false) : vf_n32 x := (fl_n32 x).mpr ((FP.Core.notNaN_iff32 x).mp h)
theorem fl_nz {y : UInt64} (h : fk_fi y) (hz : ¬ fk_z0 y) : ¬ FP.Core.DZero y := by
  intro q
  apply hz
  have : FP.dcmp y FP.dconst0 = some .eq := FP.Core.zero_iff.mpr q
  unfold fk_z0
  rw [this]; rfl
theorem fl_B (o : Nat) (x y : UInt64) (ho : o = 11 ∨ o = 12 ∨ o = 13 ∨ o = 14) (hx : fk_fi x) (hy : fk_fi y) (hz : o = 14 → ¬ fk_z0 y) : vf_n64 (fmA_fractionOutcome_f (Int32.ofNat o) x y) := by
  have fx := fl_fin hx
  have fy := fl_fin hy
  rcases ho with rfl | rfl | rfl | rfl
  · exact fl_isn (FP.Core.dadd_out fx.notNaN fy)
  · exact fl_isn (FP.Core.dsub_out fx.notNaN fy)
  · exact fl_isn (FP.Core.dmul_out fx fy)
  · exact fl_isn (FP.Core.ddiv_out fx.notNaN fy (fl_nz hy (hz rfl)))
theorem fl_f2d {a : UInt32} (h : FP.Core.val32 a ≠ .nan) : FP.f2d a = FP.Core.f2d a := FP.f2d_core ((FP.Core.notNaN_iff32 a).mpr h)
theorem fl_d2f {a : UInt64} (h : FP.Core.val64 a ≠ .nan) : FP.d2f a = FP.Core.d2f a := FP.d2f_core ((FP.Core.notNaN_iff a).mpr h)
theorem fl_f2dn {a : UInt32} (h : FP.Core.val32 a ≠ .nan) : FP.Core.val64 (FP.f2d a) ≠ .nan := by
  rw [fl_f2d h]
  exact (FP.Core.notNaN_iff _).mp (FP.Core.f2d_out ((FP.Core.notNaN_iff32 a).mpr h))
theorem fl_d2fn {a : UInt64} (h : FP.Core.val64 a ≠ .nan) : FP.Core.val32 (FP.d2f a) ≠ .nan := by
  rw [fl_d2f h]
  exact (FP.Core.notNaN_iff32 _).mp (FP.Core.d2f_out ((FP.Core.notNaN_iff a).mpr h))
theorem fl_rt {a : UInt32} (h : FP.Core.val32 a ≠ .nan) : FP.d2f (FP.f2d a) = a := by
  rw [fl_d2f (fl_f2dn h), fl_f2d h]
  exact FP.Core.d2f_f2d h
theorem fl_D (x : Int64) : vf_n64 (FP.l2d x) ∧ vf_n64 (FP.f2d (FP.l2f x)) ∧ vf_n32 (FP.l2f x) ∧ FP.d2f (FP.f2d (FP.l2f x)) = FP.l2f x := by
  have h1 : FP.Core.val32 (FP.l2f x) ≠ .nan := (FP.Core.l2f_fin x).ne_nan
  exact ⟨(fl_n64 _).mpr (FP.Core.l2d_fin x).ne_nan, (fl_n64 _).mpr (fl_f2dn h1), (fl_n32 _).mpr h1, fl_rt h1⟩
theorem fl_u64 : FP.Core.unitsOf FP.Core.b64 4741671816366391296 = FP.Core.unitsOf FP.Core.b32 1315859240 * 2 ^ 925 := by decide +kernel
theorem fl_dn {x : UInt64} (h : x.toNat % 2 ^ 63 ≤ 4741671816366391296) : (FP.d2f x).toNat % 2 ^ 31 ≤ 1315859240 := by
  have hn : FP.Core.val64 x ≠ .nan := (FP.Core.ne_nan x).mpr (by omega)
  obtain ⟨s, c, q, hv⟩ := (FP.Core.fin_bits x).mpr (show x.toNat % 2 ^ 63 < 9218868437227405312 by omega)
  have hf := FP.Core.val64_fits x
  have hz := FP.Core.zmag_bits hn
  rw [hv] at hf hz
  rw [fl_d2f hn, ← FP.Core.mag_toNat32]
  have hd : FP.Core.decode FP.Core.b32 (FP.Core.d2f x).toNat = FP.Core.roundRatio FP.Core.b32 s c 1 q := by
    have := FP.Core.val32_d2f x
    rw [hv] at this
    exact this
  refine FP.Core.mag_le FP.Core.good_b32 hd (by decide) (e0 := -1074) (by decide +kernel) (by have := hf.2.1; rw [FP.Core.qmin_b64] at this; exact this) ?_
  have e1 : FP.Core.inUnits c q (-1074) = FP.Core.unitsOf FP.Core.b64 (x.toNat % 2 ^ 63) := hz
  have e2 : (FP.Core.b32.qmin - -1074).toNat = 925 := by decide +kernel
  rw [e1, e2, Nat.mul_one, ← fl_u64]
  exact FP.Core.unitsOf_le_iff.mpr h
theorem fl_up {a : UInt32} (h : a.toNat % 2 ^ 31 ≤ 1315859240) : (FP.f2d a).toNat % 2 ^ 63 ≤ 4741671816366391296 := by
  have hn : FP.Core.val32 a ≠ .nan := (FP.Core.ne_nan32 a).mpr (by omega)
  obtain ⟨s, c, q, hv⟩ := (FP.Core.fin_bits32 a).mpr (show a.toNat % 2 ^ 31 < 2139095040 by omega)
  have hf := FP.Core.val32_fits a
  have hz := FP.Core.zmag_toNat32 hn
  rw [hv] at hf hz
  rw [fl_f2d hn, ← FP.Core.mag_toNat64]
  have hd : FP.Core.decode FP.Core.b64 (FP.Core.f2d a).toNat = FP.Core.roundRatio FP.Core.b64 s c 1 q := by
    have := FP.Core.val64_f2d a
    rw [hv] at this
    exact this
  have hq : (-149 : Int) ≤ q := hf.2.1
  refine FP.Core.mag_le FP.Core.good_b64 hd (by decide) (e0 := -1074) (by decide +kernel) (by omega) ?_
  have e1 : FP.Core.inUnits c q (-149) = FP.Core.unitsOf FP.Core.b32 (a.toNat % 2 ^ 31) := hz
  have e2 : (FP.Core.b64.qmin - -1074).toNat = 0 := by decide +kernel
  have e3 : FP.Core.inUnits c q (-1074) = FP.Core.inUnits c q (-149) * 2 ^ 925 := by
    unfold FP.Core.inUnits
    rw [show (q - -1074).toNat = (q - -149).toNat + 925 by omega, Nat.pow_add, Nat.mul_assoc]
  rw [e2, e3, e1, Nat.mul_one, Nat.pow_zero, Nat.mul_one, fl_u64]
  exact Nat.mul_le_mul_right _ (FP.Core.unitsOf_le_iff.mpr h)
theorem fl_F (x : UInt64) (h : fk_fi x) : vf_n32 (FP.d2f x) ∧ vf_n64 (FP.f2d (FP.d2f x)) ∧ FP.d2f (FP.f2d (FP.d2f x)) = FP.d2f x ∧ fmD_large_f (FP.f2d (FP.d2f x)) = 0 := by
  have hn := (fl_n64 x).mp h.1
  have h1 := fl_d2fn hn
  have h2 := fl_f2dn h1
  exact ⟨(fl_n32 _).mpr h1, (fl_n64 _).mpr h2, fl_rt h1, (fl_lg h2).mpr (fl_up (fl_dn (fl_fi.mp h)))⟩
theorem fl_c8 : FP.Core.val64 4593671619917905920 = .fin false (2 ^ 52) (-55) := by decide +kernel
theorem fl_c8f : FP.Core.val32 1040187392 = .fin false (2 ^ 23) (-26) := by decide +kernel
theorem fl_k1 (s : Int32) : (FP.dmul (FP.i2d s) 4593671619917905920).toNat % 2 ^ 63 ≤ 1051 * 2 ^ 52 := by
  have hb : (FP.Core.i2d s).toNat % 2 ^ 63 ≤ 1054 * 2 ^ 52 := FP.Core.fromInt_mag (FP.Core.toNat_i2d s) (j := 31) (FP.Core.int32_abs s) (by omega) (by omega)
  obtain ⟨t, c, q, hv⟩ := FP.Core.i2d_fin s
  have hn := (FP.Core.i2d_fin s).ne_nan
  have hf := FP.Core.val64_fits (FP.Core.i2d s)
  have hz := FP.Core.zmag_bits hn
  have hf2 := FP.Core.val64_fits 4593671619917905920
  rw [hv] at hf hz
  rw [fl_c8] at hf2
  obtain ⟨p1, p2, p3⟩ := FP.Core.product_units hf hf2
  have hd : FP.Core.decode FP.Core.b64 (FP.Core.dmul (FP.Core.i2d s) 4593671619917905920).toNat = FP.Core.roundRatio FP.Core.b64 (t != false) (c * 2 ^ 52) 1 (q + -55) := by
    have := FP.Core.val64_dmul (FP.Core.i2d s) 4593671619917905920
    rw [hv, fl_c8, p1] at this
    exact this
  show (FP.Core.dmul (FP.Core.i2d s) 4593671619917905920).toNat % 2 ^ 63 ≤ 1051 * 2 ^ 52
  rw [← FP.Core.mag_toNat64]
  refine FP.Core.mag_le FP.Core.good_b64 hd (by decide) (e0 := 2 * FP.Core.b64.qmin) (by decide +kernel) p2 ?_
  rw [p3, hz]
  have e1 : (FP.Core.b64.qmin - 2 * FP.Core.b64.qmin).toNat = 1074 := by decide +kernel
  have e2 : FP.Core.zmag FP.Core.b64 (.fin false (2 ^ 52) (-55)) = 2 ^ 1071 := by decide +kernel
  have e3 : FP.Core.unitsOf FP.Core.b64 (1051 * 2 ^ 52) = 2 ^ 1102 := by decide +kernel
  have e4 : FP.Core.unitsOf FP.Core.b64 (1054 * 2 ^ 52) = 2 ^ 1105 := by decide +kernel
  have h5 : FP.Core.unitsOf FP.Core.b64 ((FP.Core.i2d s).toNat % 2 ^ 63) ≤ 2 ^ 1105 := by rw [← e4]; exact FP.Core.unitsOf_le_iff.mpr hb
  rw [e1, e2, e3, Nat.mul_one]
  calc _ ≤ 2 ^ 1105 * 2 ^ 1071 := Nat.mul_le_mul_right _ h5
    _ = 2 ^ 1102 * 2 ^ 1074 := by decide +kernel
theorem fl_k2 (s : Int32) : (FP.fmul (FP.i2f s) 1040187392).toNat % 2 ^ 31 ≤ 155 * 2 ^ 23 := by
  have hb : (FP.Core.i2f s).toNat % 2 ^ 31 ≤ 158 * 2 ^ 23 := FP.Core.fromInt_mag32 (FP.Core.toNat_i2f s) (j := 31) (FP.Core.int32_abs s) (by omega) (by omega)
  obtain ⟨t, c, q, hv⟩ := FP.Core.i2f_fin s
  have hn := (FP.Core.i2f_fin s).ne_nan
  have hf := FP.Core.val32_fits (FP.Core.i2f s)
  have hz := FP.Core.zmag_toNat32 hn
  have hf2 := FP.Core.val32_fits 1040187392
  rw [hv] at hf hz
  rw [fl_c8f] at hf2
  obtain ⟨p1, p2, p3⟩ := FP.Core.product_units hf hf2
  have hd : FP.Core.decode FP.Core.b32 (FP.Core.fmul (FP.Core.i2f s) 1040187392).toNat = FP.Core.roundRatio FP.Core.b32 (t != false) (c * 2 ^ 23) 1 (q + -26) := by
    have := FP.Core.val32_fmul (FP.Core.i2f s) 1040187392
    rw [hv, fl_c8f, p1] at this
    exact this
  show (FP.Core.fmul (FP.Core.i2f s) 1040187392).toNat % 2 ^ 31 ≤ 155 * 2 ^ 23
  rw [← FP.Core.mag_toNat32]
  refine FP.Core.mag_le FP.Core.good_b32 hd (by decide) (e0 := 2 * FP.Core.b32.qmin) (by decide +kernel) p2 ?_
  rw [p3, hz]
  have e1 : (FP.Core.b32.qmin - 2 * FP.Core.b32.qmin).toNat = 149 := by decide +kernel
  have e2 : FP.Core.zmag FP.Core.b32 (.fin false (2 ^ 23) (-26)) = 2 ^ 146 := by decide +kernel
  have e3 : FP.Core.unitsOf FP.Core.b32 (155 * 2 ^ 23) = 2 ^ 177 := by decide +kernel
  have e4 : FP.Core.unitsOf FP.Core.b32 (158 * 2 ^ 23) = 2 ^ 180 := by decide +kernel
  have h5 : FP.Core.unitsOf FP.Core.b32 ((FP.Core.i2f s).toNat % 2 ^ 31) ≤ 2 ^ 180 := by rw [← e4]; exact FP.Core.unitsOf_le_iff.mpr hb
  rw [e1, e2, e3, Nat.mul_one]
  calc _ ≤ 2 ^ 180 * 2 ^ 146 := Nat.mul_le_mul_right _ h5
    _ = 2 ^ 177 * 2 ^ 149 := by decide +kernel
theorem fl_K (s : Int32) : fk_fi (FP.dmul (FP.i2d s) 4593671619917905920) ∧ vf_n32 (FP.fmul (FP.i2f s) 1040187392) ∧ fk_flt (FP.f2d (FP.fmul (FP.i2f s) 1040187392)) := by
  have h1 := fl_k1 s
  have h2 := fl_k2 s
  have hn : FP.Core.val32 (FP.fmul (FP.i2f s) 1040187392) ≠ .nan := (FP.Core.ne_nan32 _).mpr (by omega)
  refine ⟨fl_fi.mpr (by omega), (fl_n32 _).mpr hn, fl_fi.mpr (fl_up (by omega)), ?_, ?_⟩
  · rw [fl_rt hn]; exact (fl_n32 _).mpr hn
  · rw [fl_rt hn]
theorem fl_uq {A B M : Nat} (hB : 0 < B) (h1 : 2 * M * B < 2 * A + B) (h2 : 2 * A < (2 * M + 1) * B) : FP.Core.nearest A B = M := by
  obtain ⟨s1, s2, -⟩ := FP.Core.nearest_spec A B hB
  generalize FP.Core.nearest A B = N at s1 s2
  have a1 : M < N + 1 := by
    have : M * B < (N + 1) * B := by
      rw [Nat.add_mul]
      rw [Nat.add_mul, Nat.mul_assoc] at s1
      rw [Nat.mul_assoc] at h1
      omega
    exact Nat.lt_of_mul_lt_mul_right this
  have a2 : N < M + 1 := by
    have : N * B < (M + 1) * B := by
      rw [Nat.add_mul]
      rw [Nat.mul_assoc] at s2
      rw [Nat.add_mul, Nat.mul_assoc] at h2
      omega
    exact Nat.lt_of_mul_lt_mul_right this
  omega
theorem fl_nn {P Q H : Nat} (hQ : 0 < Q) (hH : 0 < H) (h : FP.Core.nearest P Q % (2 * H) ≠ H ∨ P = FP.Core.nearest P Q * Q) : FP.Core.nearest (FP.Core.nearest P Q) (2 * H) = FP.Core.nearest P (Q * (2 * H)) := by
  rcases h with h | h
  · obtain ⟨s1, s2, -⟩ := FP.Core.nearest_spec P Q hQ
    generalize FP.Core.nearest P Q = n at s1 s2 h
    have hG : 0 < Q * (2 * H) := Nat.mul_pos hQ (by omega)
    have hdm := Nat.div_add_mod n (2 * H)
    have hlt := Nat.mod_lt n (show 2 * H > 0 by omega)
    generalize n / (2 * H) = k at hdm
    generalize n % (2 * H) = m at hdm hlt h
    have e1 : n * Q = 2 * (H * k * Q) + m * Q := by rw [← hdm, Nat.add_mul, Nat.mul_assoc 2 H k, Nat.mul_assoc 2]
    have e2 : Q * (2 * H) = 2 * (H * Q) := by rw [Nat.mul_comm, Nat.mul_assoc]
    have e3 : 2 * H * k = 2 * (H * k) := Nat.mul_assoc _ _ _
    rw [Nat.add_mul, Nat.mul_assoc, e1, Nat.one_mul] at s1
    rw [Nat.mul_assoc, e1] at s2
    by_cases hm : m < H
    · have hmQ : m * Q + Q ≤ H * Q := by
        have : (m + 1) * Q ≤ H * Q := Nat.mul_le_mul_right _ hm
        rw [Nat.add_mul, Nat.one_mul] at this
        exact this
      have f1 : 2 * k * (Q * (2 * H)) = 4 * (H * k * Q) := by
        rw [e2, Nat.mul_assoc 2 k, ← Nat.mul_assoc k 2, Nat.mul_comm k 2, Nat.mul_assoc 2 k, ← Nat.mul_assoc 2 2, Nat.mul_comm H k, Nat.mul_assoc k H]
      have f2 : 2 * k * (2 * H) = 4 * (H * k) := by
        rw [Nat.mul_assoc 2 k, ← Nat.mul_assoc k 2, Nat.mul_comm k 2, Nat.mul_assoc 2 k, ← Nat.mul_assoc 2 2, Nat.mul_comm H k]
      have r1 : FP.Core.nearest P (Q * (2 * H)) = k := fl_uq hG (by rw [f1, e2]; omega) (by rw [Nat.add_mul, f1, Nat.one_mul, e2]; omega)
      have r2 : FP.Core.nearest n (2 * H) = k := fl_uq (by omega) (by rw [f2]; omega) (by rw [Nat.add_mul, f2, Nat.one_mul]; omega)
      rw [r1, r2]
    · have hmH : H + 1 ≤ m := by omega
      have hmQ : H * Q + Q ≤ m * Q := by
        have : (H + 1) * Q ≤ m * Q := Nat.mul_le_mul_right _ hmH
        rw [Nat.add_mul, Nat.one_mul] at this
        exact this
      have hmQ2 : m * Q + Q ≤ 2 * (H * Q) := by
        have : (m + 1) * Q ≤ 2 * H * Q := Nat.mul_le_mul_right _ hlt
        rw [Nat.add_mul, Nat.one_mul, Nat.mul_assoc] at this
        exact this
      have f1 : 2 * (k + 1) * (Q * (2 * H)) = 4 * (H * k * Q) + 4 * (H * Q) := by
        rw [e2, Nat.mul_add, Nat.add_mul, Nat.mul_assoc 2 k, ← Nat.mul_assoc k 2, Nat.mul_comm k 2, Nat.mul_assoc 2 k, ← Nat.mul_assoc 2 2, Nat.mul_comm H k, Nat.mul_assoc k H]
        omega
      have f2 : 2 * (k + 1) * (2 * H) = 4 * (H * k) + 4 * H := by
        rw [Nat.mul_add, Nat.add_mul, Nat.mul_assoc 2 k, ← Nat.mul_assoc k 2, Nat.mul_comm k 2, Nat.mul_assoc 2 k, ← Nat.mul_assoc 2 2, Nat.mul_comm H k]
        omega
      have r1 : FP.Core.nearest P (Q * (2 * H)) = k + 1 := fl_uq hG (by rw [f1, e2]; omega) (by rw [Nat.add_mul, f1, Nat.one_mul, e2]; omega)
      have r2 : FP.Core.nearest n (2 * H) = k + 1 := fl_uq (by omega) (by rw [f2]; omega) (by rw [Nat.add_mul, f2, Nat.one_mul]; omega)
      rw [r1, r2]
  · generalize FP.Core.nearest P Q = n at h
    subst h
    rw [Nat.mul_comm Q]
    exact (FP.Core.nearest_scale n (2 * H) Q hQ).symm
theorem fl_tn (k : Nat) : (2 : Nat) ^ (k + 1) = 2 * 2 ^ k := by rw [Nat.pow_succ, Nat.mul_comm]
theorem fl_dr {s : Bool} {A B : Nat} {e q : Int} (hA : 0 < A) (hB : 0 < B) (hq : FP.Core.quantum FP.Core.b64 A B e = q) (hmin : -1074 < q) (hmax : q < 900)
    (hx : ∀ n, n = FP.Core.nearest (FP.Core.unitsNum A e q) (FP.Core.unitsDen B e q) → ∀ g : Nat, ((g : Int) = max (-149) (q + 29) - q) → n % 2 ^ g = 2 ^ (g - 1) → FP.Core.unitsNum A e q = n * FP.Core.unitsDen B e q) :
    FP.Core.round FP.Core.b32 (FP.Core.roundRatio FP.Core.b64 s A B e) = FP.Core.roundRatio FP.Core.b32 s A B e := by
  have hq0 : q ≠ FP.Core.b64.qmin := by rw [FP.Core.qmin_b64]; omega
  have hnb : ¬ FP.Core.Below A B (q - e + 52) := by
    have := FP.Core.quantum_not_below (f := FP.Core.b64) hA hB e
    rw [hq] at this
    exact this.resolve_left hq0
  have hDp := FP.Core.unitsDen_pos hB e q
  obtain ⟨n, hn⟩ : ∃ n, n = FP.Core.nearest (FP.Core.unitsNum A e q) (FP.Core.unitsDen B e q) := ⟨_, rfl⟩
  have hn52 : 2 ^ 52 ≤ n := by
    rw [hn]
    refine FP.Core.nearest_ge hDp ?_
    have := mt (FP.Core.units_below A B e q 52).mp hnb
    omega
  have hn53 : n ≤ 2 ^ 53 := by
    have := FP.Core.nearest_units_le (f := FP.Core.b64) hA hB e
    rw [hq, ← hn] at this
    exact this
  obtain ⟨q', hq'⟩ : ∃ q', q' = max (-149) (q + 29) := ⟨_, rfl⟩
  have hq32 : FP.Core.quantum FP.Core.b32 A B e = q' := by
    unfold FP.Core.quantum at hq ⊢
    have p64 : (FP.Core.b64.p : Int) = 53 := rfl
    have p32 : (FP.Core.b32.p : Int) = 24 := rfl
    rw [p64, FP.Core.qmin_b64] at hq
    rw [p32, FP.Core.qmin_b32, hq']
    omega
  obtain ⟨g, hg⟩ : ∃ g : Nat, (g : Int) = q' - q := ⟨(q' - q).toNat, by omega⟩
  have hg29 : 29 ≤ g := by omega
  obtain ⟨h, rfl⟩ : ∃ h, g = h + 1 := ⟨g - 1, by omega⟩
  have hxn := hx n hn (h + 1) (by rw [hg, hq'])
  have hrhs : FP.Core.nearest (FP.Core.unitsNum A e q') (FP.Core.unitsDen B e q') = FP.Core.nearest n (2 ^ (h + 1)) := by
    have e1 : FP.Core.nearest (FP.Core.unitsNum A e q') (FP.Core.unitsDen B e q') = FP.Core.nearest (FP.Core.unitsNum A e q) (FP.Core.unitsDen B e q * (2 * 2 ^ h)) := by
      refine FP.Core.nearest_congr (FP.Core.unitsDen_pos hB e q') (Nat.mul_pos hDp (by have := Nat.two_pow_pos h; omega)) ?_
      unfold FP.Core.unitsNum FP.Core.unitsDen
      rw [← fl_tn h]
      have : (e - q').toNat + ((q - e).toNat + (h + 1)) = (e - q).toNat + (q' - e).toNat := by omega
      calc A * 2 ^ (e - q').toNat * (B * 2 ^ (q - e).toNat * 2 ^ (h + 1)) = A * B * (2 ^ (e - q').toNat * (2 ^ (q - e).toNat * 2 ^ (h + 1))) := by ac_rfl
        _ = A * B * (2 ^ (e - q).toNat * 2 ^ (q' - e).toNat) := by rw [← Nat.pow_add, ← Nat.pow_add, ← Nat.pow_add, this]
        _ = A * 2 ^ (e - q).toNat * (B * 2 ^ (q' - e).toNat) := by ac_rfl
    rw [e1, fl_tn h]
    have hc : FP.Core.nearest (FP.Core.unitsNum A e q) (FP.Core.unitsDen B e q) % (2 * 2 ^ h) ≠ 2 ^ h ∨ FP.Core.unitsNum A e q = FP.Core.nearest (FP.Core.unitsNum A e q) (FP.Core.unitsDen B e q) * FP.Core.unitsDen B e q := by
      rw [← hn, ← fl_tn h]
      by_cases hm : n % 2 ^ (h + 1) = 2 ^ h
      · exact Or.inr (hxn (by rw [Nat.add_sub_cancel]; exact hm))
      · exact Or.inl hm
    have := fl_nn hDp (Nat.two_pow_pos h) hc
    rw [← hn] at this
    exact this.symm
  have hR : FP.Core.roundRatio FP.Core.b32 s A B e = FP.Core.settle FP.Core.b32 s (FP.Core.nearest n (2 ^ (h + 1))) q' := by
    unfold FP.Core.roundRatio FP.Core.roundAt
    rw [if_neg (by omega), hq32, hrhs]
  have hL : FP.Core.round FP.Core.b32 (FP.Core.roundRatio FP.Core.b64 s A B e) = FP.Core.roundRatio FP.Core.b32 s n 1 q := by
    have e1 : FP.Core.roundRatio FP.Core.b64 s A B e = FP.Core.settle FP.Core.b64 s n q := by
      unfold FP.Core.roundRatio FP.Core.roundAt
      rw [if_neg (by omega), hq, ← hn]
    rw [e1]
    have qm : FP.Core.b64.qmax = 971 := by decide +kernel
    unfold FP.Core.settle FP.Core.bound
    by_cases hlt : n < 2 ^ FP.Core.b64.p
    · rw [if_pos hlt, if_pos (by rw [qm]; omega)]
      rfl
    · rw [if_neg hlt, if_pos (by rw [qm]; omega)]
      have hne : n = 2 ^ 53 := by
        have : ¬ n < 2 ^ 53 := hlt
        omega
      show FP.Core.roundRatio FP.Core.b32 s FP.Core.b64.tails 1 (q + 1) = _
      refine FP.Core.roundRatio_congr (by decide) (by decide) ?_
      rw [hne, FP.Core.tails_b64, show (q + 1 - q).toNat = 1 by omega, show (q - (q + 1)).toNat = 0 by omega]
  rw [hL, hR]
  have hn0 : 0 < n := by omega
  have hbel : ∀ k : Nat, FP.Core.Below n 1 ((k : Nat) : Int) ↔ n < 2 ^ k := fun k => by
    have := FP.Core.below_iff n 1 k 0
    simpa using this
  have main : ∀ (hqq : FP.Core.quantum FP.Core.b32 n 1 q = q'), FP.Core.roundRatio FP.Core.b32 s n 1 q = FP.Core.settle FP.Core.b32 s (FP.Core.nearest n (2 ^ (h + 1))) q' := fun hqq => by
    unfold FP.Core.roundRatio FP.Core.roundAt
    rw [if_neg (by omega), hqq]
    have e1 : FP.Core.unitsNum n q q' = n := by
      unfold FP.Core.unitsNum
      rw [show (q - q').toNat = 0 by omega]
      simp
    have e2 : FP.Core.unitsDen 1 q q' = 2 ^ (h + 1) := by
      unfold FP.Core.unitsDen
      rw [show (q' - q).toNat = h + 1 by omega, Nat.one_mul]
    rw [e1, e2]
  by_cases hc : n < 2 ^ 53 ∨ q' ≠ q + 29
  · refine main (FP.Core.quantum_eq hn0 (by decide) (by rw [FP.Core.qmin_b32]; omega) ?_ ?_)
    · have e1 : q' - q + (FP.Core.b32.p : Int) = ((h + 1 + 24 : Nat) : Int) := by
        have : (FP.Core.b32.p : Int) = 24 := rfl
        rw [this]; omega
      rw [e1, hbel]
      rcases hc with hc | hc
      · exact Nat.lt_of_lt_of_le hc (Nat.pow_le_pow_right (by decide) (by omega))
      · exact Nat.lt_of_le_of_lt hn53 (Nat.pow_lt_pow_right (by decide) (by omega))
    · rw [FP.Core.qmin_b32]
      by_cases hw : q' = -149
      · exact Or.inl hw
      · refine Or.inr ?_
        have e1 : q' - q + ((FP.Core.b32.p : Int) - 1) = ((52 : Nat) : Int) := by
          have : (FP.Core.b32.p : Int) = 24 := rfl
          rw [this]; omega
        rw [e1, hbel]
        omega
  · have hn2 : n = 2 ^ 53 := by omega
    have hq2 : q' = q + 29 := by omega
    have hh : h = 28 := by omega
    subst hh
    have hqq : FP.Core.quantum FP.Core.b32 n 1 q = q + 30 := by
      refine FP.Core.quantum_eq hn0 (by decide) (by rw [FP.Core.qmin_b32]; omega) ?_ (Or.inr ?_)
      · have e1 : q + 30 - q + (FP.Core.b32.p : Int) = ((54 : Nat) : Int) := by
          have : (FP.Core.b32.p : Int) = 24 := rfl
          rw [this]; omega
        rw [e1, hbel, hn2]
        decide
      · have e1 : q + 30 - q + ((FP.Core.b32.p : Int) - 1) = ((53 : Nat) : Int) := by
          have : (FP.Core.b32.p : Int) = 24 := rfl
          rw [this]; omega
        rw [e1, hbel, hn2]
        decide
    have hL2 : FP.Core.roundRatio FP.Core.b32 s n 1 q = FP.Core.settle FP.Core.b32 s (2 ^ 23) (q + 30) := by
      unfold FP.Core.roundRatio FP.Core.roundAt
      rw [if_neg (by omega), hqq]
      have e1 : FP.Core.unitsNum n q (q + 30) = 2 ^ 53 := by
        unfold FP.Core.unitsNum
        rw [show (q - (q + 30)).toNat = 0 by omega, hn2]
      have e2 : FP.Core.unitsDen 1 q (q + 30) = 2 ^ 30 := by
        unfold FP.Core.unitsDen
        rw [show (q + 30 - q).toNat = 30 by omega, Nat.one_mul]
      rw [e1, e2]
      rfl
    rw [hL2, hn2, hq2]
    have e3 : FP.Core.nearest (2 ^ 53) (2 ^ (28 + 1)) = 2 ^ 24 := by decide +kernel
    rw [e3]
    unfold FP.Core.settle
    rw [if_pos (by decide), if_neg (by decide), show q + 29 + 1 = q + 30 by omega]
    rfl
