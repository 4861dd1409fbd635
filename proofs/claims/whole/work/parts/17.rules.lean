/-! calls that make nothing, and Math.max -/
section R0
variable {E : fm_Ev} {d n : Nat} {u u' : fm_Me} {Z : (Nat → Prop) → List Frame → Array Value → State → Nat → Nat → State → Prop}
theorem fm_cV0 (O : fm_mo u) (O' : fm_mok u') {pc ix kd i : Nat} {lo : List (Nat × fm_V)} {as rest : List fm_V} {M M1 : fm_M} {v : Option fm_V} (hi : u.2.2.2.2.2.2 pc = some (.invokevirtual ix)) (hlk : fm_lv u.2.2.2.2.1 ix u'.1) (hkd : fm_is kd u'.2.2.2.2.1 = true) (h7 : u'.2.2.2.2.1 < 7)
    (hn : fm_np u'.1 as.length) (hrest : fm_wd rest ≤ 8) (K : fm_Ct E d u' 0 (.inr (.inr (.inr (.inr (kd, i)))) :: as) M v M1)
    (k : fm_Go E (d + 1) u n (pc + 3, lo, v.toList ++ rest, M1) Z) : fm_Go E (d + 1) u n (pc, lo, as.reverse ++ .inr (.inr (.inr (.inr (kd, i)))) :: rest, M) Z := by
  have := fm_cV (n1 := 0) O O' hi hlk hkd h7 hn hrest K k
  rwa [Nat.zero_add] at this
theorem fm_cS0 (O : fm_mo u) (O' : fm_mok u') {pc ix : Nat} {lo : List (Nat × fm_V)} {as rest : List fm_V} {M M1 : fm_M} {v : Option fm_V} (hi : u.2.2.2.2.2.2 pc = some (.invokestatic ix)) (hlk : fm_lst u.2.2.2.2.1 ix u'.1)
    (hn : fm_np u'.1 as.length) (hrest : fm_wd rest ≤ 8) (K : fm_Ct E d u' 0 as M v M1)
    (k : fm_Go E (d + 1) u n (pc + 3, lo, v.toList ++ rest, M1) Z) : fm_Go E (d + 1) u n (pc, lo, as.reverse ++ rest, M) Z := by
  have := fm_cS (n1 := 0) O O' hi hlk hn hrest K k
  rwa [Nat.zero_add] at this
theorem fm_cN0 (O : fm_mo u) (O' : fm_mok u') {pc : Nat} {lo : List (Nat × fm_V)} {as rest : List fm_V} {M M1 : fm_M} {v : Option fm_V} (hi : u.2.2.2.2.2.2 pc = some (.invokestatic 93)) (hoc : u.2.2.2.2.1 = 1) (hy : u'.1 = ⟨"FlatModule", "isWithin", "(II)Z"⟩) (hsw : Cond.static u'.1 ∈ fm_TB)
    (hn : fm_np u'.1 as.length) (hrest : fm_wd rest ≤ 8) (K : fm_Ct E d u' 0 as M v M1)
    (k : fm_Go E (d + 1) u n (pc + 3, lo, v.toList ++ rest, M1) Z) : fm_Go E (d + 1) u n (pc, lo, as.reverse ++ rest, M) Z := by
  have := fm_cN (n1 := 0) O O' hi hoc hy hsw hn hrest K k
  rwa [Nat.zero_add] at this
/-- fewer locals, in another order -/
theorem fm_gL {C : fm_C} (_ : fm_mo u) (ks : List Nat) {l' : List (Nat × fm_V)} (h : ks.filterMap (fun k => C.2.1[k]?) = l') (k : fm_Go E d u n (C.1, l', C.2.2.1, C.2.2.2) Z) : fm_Go E d u n C Z := by
  intro p e R s m args below meth c A cells slots X hr hA h1 h2 h3 h4 H locs ls hP hS hl hv
  subst h
  have hsub : ∀ q ∈ ks.filterMap (fun k => C.2.1[k]?), q ∈ C.2.1 := by
    intro q hq
    obtain ⟨j, -, hj⟩ := List.mem_filterMap.mp hq
    exact List.mem_of_getElem? hj
  refine k p e R s m args below meth c A cells slots X hr hA h1 h2 h3 h4 H locs ls hP hS ⟨hl.1, hl.2.1, fun q hq => ?_⟩ ⟨fun q hq => hv.1 q (hsub q hq), hv.2.1, hv.2.2⟩
  obtain ⟨z, hz, rfl⟩ := List.mem_map.mp hq
  exact hl.2.2 _ (List.mem_map.mpr ⟨z, hsub z hz, rfl⟩)
theorem fm_gM (O : fm_mo u) {pc ix : Nat} {lo : List (Nat × fm_V)} {x y : Int32} {rest : List fm_V} {M : fm_M} (hi : u.2.2.2.2.2.2 pc = some (.invokestatic ix)) (hlk : Cond.methodLink (fm_cn u.2.2.2.2.1) ix Lib.Math.max.name ∈ fm_TB ∧ Cond.static Lib.Math.max.name ∈ fm_TB ∧ Cond.initialized "java/lang/Math" ∈ fm_TB ∧ Cond.code Lib.Math.max.name Lib.Math.max.code 2 (some .int) ∈ fm_TB)
    (hrest : fm_wd rest ≤ 8) (k : fm_Go E (d + 1) u n (pc + 3, lo, .inl (if x < y then y else x) :: rest, M) Z) : fm_Go E (d + 1) u n (pc, lo, .inl y :: .inl x :: rest, M) Z := by
  intro p e R s m args below meth c A cells slots X hr hA h1 h2 h3 h4
  have kk := k p e R s m args below meth c A cells slots X hr hA h1 h2 h3 h4
  obtain ⟨hx, hb, hml, hown, hts, hK, hD, -⟩ := X
  obtain ⟨len, hd, hln⟩ := O.2 pc _ hi
  rw [hln rfl] at hd
  intro H locs ls hP hS hl hv
  refine va_mmax hx hb (hml.trans hl.1.symm) hown (hts _ hlk.1) (hts _ hlk.2.1) (hts _ hlk.2.2.1) (hts _ hlk.2.2.2) (by omega) (by rw [fm_wd_cat]; omega) (by omega) (by omega) hd (kk H locs ls hP hS hl ⟨hv.1, ?_, hv.2.2⟩)
  exact List.forall_mem_cons.mpr ⟨trivial, fun w hw => hv.2.1 w (List.mem_cons_of_mem _ (List.mem_cons_of_mem _ hw))⟩
end R0

theorem fm_bF {a b : Nat} (h : a ≠ b) : Nat.beq a b = false := by
  rw [← Bool.not_eq_true]
  exact fun z => h (Nat.eq_of_beq_eq_true z)
theorem fm_Pa (a b c : Nat × Nat) : fm_u (fm_P a b) 13 0 0 c = fm_P c b := by
  funext k i s
  rw [fm_u_if]
  split
  · next h =>
    obtain ⟨rfl, rfl, rfl⟩ := h
    rfl
  · next h =>
    by_cases hk : k = 13
    · subst hk
      by_cases hs : s = 0
      · subst hs
        have hi : i ≠ 0 := fun z => h ⟨rfl, z, rfl⟩
        show cond (Nat.beq i 0) a (0, 0) = cond (Nat.beq i 0) c (0, 0)
        rw [fm_bF hi]
        rfl
      · show cond (Nat.beq s 0) _ _ = cond (Nat.beq s 0) _ _
        rw [fm_bF hs]
        rfl
    · unfold fm_P
      rw [fm_bF hk]
      rfl
theorem fm_Pb (a b c : Nat × Nat) : fm_u (fm_P a b) 18 0 2 c = fm_P a c := by
  funext k i s
  rw [fm_u_if]
  split
  · next h =>
    obtain ⟨rfl, rfl, rfl⟩ := h
    rfl
  · next h =>
    by_cases hk : k = 18
    · subst hk
      by_cases hs : s = 2
      · subst hs
        have hi : i ≠ 0 := fun z => h ⟨rfl, z, rfl⟩
        show cond (Nat.beq i 0) b (0, 0) = cond (Nat.beq i 0) c (0, 0)
        rw [fm_bF hi]
        rfl
      · show cond (Nat.beq s 2) _ _ = cond (Nat.beq s 2) _ _
        rw [fm_bF hs]
        rfl
    · unfold fm_P
      rw [fm_bF hk]
      rfl
