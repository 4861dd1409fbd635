/-! METHODS THAT MAY THROW: t = 0 it returns; else the exception's number -/
def fm_xn (t : Nat) : String := ["", "java/lang/IllegalArgumentException", "java/lang/IllegalStateException", "java/lang/ArithmeticException", "java/lang/UnsupportedOperationException"].getD t ""
def fm_Cz (E : fm_Ev) (d : Nat) (u : fm_Me) (as : List fm_V) (M : fm_M) (t : Nat) (v : Option fm_V) (M' : fm_M) : Prop := (t = 0 → fm_Ct E d u 0 as M v M') ∧ (¬ t = 0 → fm_Cx E d u 1 as M (fm_xn t) M')
def fm_Gz (E : fm_Ev) (d : Nat) (u : fm_Me) (C : fm_C) (t : Nat) (v : Option fm_V) (M' : fm_M) : Prop := (t = 0 → fm_Go E d u 0 C (fm_Zr E v M')) ∧ (¬ t = 0 → fm_Go E d u 1 C (fm_Zx E (fm_xn t) M'))
theorem fm_zc {E : fm_Ev} {d t : Nat} {u : fm_Me} {as : List fm_V} {M M' : fm_M} {v : Option fm_V} (O : fm_mok u) (hl : E.1.stackTraces = false) (hw : fm_wd as ≤ u.2.2.1) (G : fm_Gz E d u (0, fm_al 0 as, [], M) t v M') : fm_Cz E d u as M t v M' :=
  ⟨fun h => fm_ct O hl hw (G.1 h), fun h => fm_cxt O hl hw (G.2 h)⟩
theorem fm_zl {E : fm_Ev} {d t : Nat} {u : fm_Me} {C C' : fm_C} {M' : fm_M} {v : Option fm_V} (f : ∀ (n : Nat) (Z : (Nat → Prop) → List Frame → Array Value → State → Nat → Nat → State → Prop), fm_Go E d u n C' Z → fm_Go E d u n C Z) (k : fm_Gz E d u C' t v M') : fm_Gz E d u C t v M' := ⟨fun h => f _ _ (k.1 h), fun h => f _ _ (k.2 h)⟩
theorem fm_zb {E : fm_Ev} {d t : Nat} {u : fm_Me} {C : fm_C} {M' : fm_M} {v : Option fm_V} (O : fm_mo u) {g : Prop × fm_C × fm_C} (h : fm_brr u C = some g) (kt : g.1 → fm_Gz E d u g.2.1 t v M') (kf : ¬ g.1 → fm_Gz E d u g.2.2 t v M') : fm_Gz E d u C t v M' :=
  ⟨fun z => fm_gb O h (fun q => (kt q).1 z) (fun q => (kf q).1 z), fun z => fm_gb O h (fun q => (kt q).2 z) (fun q => (kf q).2 z)⟩
theorem fm_zR {E : fm_Ev} {d t : Nat} {u : fm_Me} (O : fm_mo u) {pc : Nat} {lo : List (Nat × fm_V)} {st : List fm_V} {M M0 : fm_M} {P : Prop} {v v0 : Option fm_V} (h : fm_rt? u (pc, lo, st, M) = some (P, v)) (hg : P) (ht : t = 0) (hv : v0 = v) (hM : M0 = M) : fm_Gz E d u (pc, lo, st, M) t v0 M0 := ⟨fun _ => fm_gRe O h hg hv hM, fun z => absurd ht z⟩
theorem fm_zT {E : fm_Ev} {d t : Nat} {u : fm_Me} (O : fm_mo u) (hoc : u.2.2.2.2.1 ≠ 8) {pc ik ic k : Nat} {lo : List (Nat × fm_V)} {st : List fm_V} {M M0 : fm_M} {v : Option fm_V} (hw : fm_at u.2.2.2.2.1 ik ic (fm_xn (k + 1)))
    (i0 : u.2.2.2.2.2.2 pc = some (.new ik)) (i1 : u.2.2.2.2.2.2 (pc + 3) = some .dup) (i2 : u.2.2.2.2.2.2 (pc + 4) = some (.invokespecial ic)) (i3 : u.2.2.2.2.2.2 (pc + 7) = some .athrow) (hst : fm_wd st ≤ 8) (ht : t = k + 1) (hM : M0 = M) : fm_Gz E (d + 6) u (pc, lo, st, M) t v M0 := by
  subst ht
  subst hM
  exact ⟨fun z => absurd z (by omega), fun _ => fm_th O hoc hw i0 i1 i2 i3 hst⟩
theorem fm_zV {E : fm_Ev} {d t0 t : Nat} {u u' : fm_Me} (O : fm_mo u) (O' : fm_mok u') (hoc : u.2.2.2.2.1 ≠ 8) {pc ix kd i : Nat} {lo : List (Nat × fm_V)} {as rest : List fm_V} {M M0 M1 : fm_M} {v v0 : Option fm_V} (hi : u.2.2.2.2.2.2 pc = some (.invokevirtual ix)) (hlk : fm_lv u.2.2.2.2.1 ix u'.1) (hkd : fm_is kd u'.2.2.2.2.1 = true) (h7 : u'.2.2.2.2.1 < 7)
    (hn : fm_np u'.1 as.length) (hrest : fm_wd rest ≤ 8) (K : fm_Cz E d u' (.inr (.inr (.inr (.inr (kd, i)))) :: as) M t v M1) (k0 : t = 0 → fm_Gz E (d + 1) u (pc + 3, lo, v.toList ++ rest, M1) t0 v0 M0) (kx : ¬ t = 0 → t0 = t ∧ M0 = M1) : fm_Gz E (d + 1) u (pc, lo, as.reverse ++ .inr (.inr (.inr (.inr (kd, i)))) :: rest, M) t0 v0 M0 := by
  by_cases h : t = 0
  · exact fm_zl (fun n Z => fm_cV0 O O' hi hlk hkd h7 hn hrest (K.1 h)) (k0 h)
  · obtain ⟨rfl, rfl⟩ := kx h
    exact ⟨fun z => absurd z h, fun _ => fm_xV O O' hoc hi hlk hkd h7 hn hrest (K.2 h)⟩
theorem fm_zS {E : fm_Ev} {d t0 t : Nat} {u u' : fm_Me} (O : fm_mo u) (O' : fm_mok u') (hoc : u.2.2.2.2.1 ≠ 8) {pc ix : Nat} {lo : List (Nat × fm_V)} {as rest : List fm_V} {M M0 M1 : fm_M} {v v0 : Option fm_V} (hi : u.2.2.2.2.2.2 pc = some (.invokestatic ix)) (hlk : fm_lst u.2.2.2.2.1 ix u'.1)
    (hn : fm_np u'.1 as.length) (hrest : fm_wd rest ≤ 8) (K : fm_Cz E d u' as M t v M1) (k0 : t = 0 → fm_Gz E (d + 1) u (pc + 3, lo, v.toList ++ rest, M1) t0 v0 M0) (kx : ¬ t = 0 → t0 = t ∧ M0 = M1) : fm_Gz E (d + 1) u (pc, lo, as.reverse ++ rest, M) t0 v0 M0 := by
  by_cases h : t = 0
  · exact fm_zl (fun n Z => fm_cS0 O O' hi hlk hn hrest (K.1 h)) (k0 h)
  · obtain ⟨rfl, rfl⟩ := kx h
    exact ⟨fun z => absurd z h, fun _ => fm_xS O O' hoc hi hlk hn hrest (K.2 h)⟩
