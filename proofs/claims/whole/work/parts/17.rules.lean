/-! calls that make nothing, and Math.max -/
section R0
variable {E : fm_Ev} {d n : Nat} {u u' : fm_Me} {Z : (Nat → Prop) → List Frame → Array Value → State → Nat → Nat → State → Prop}
theorem fm_cV0 (O : fm_mo u) (O' : fm_mok u') {pc ix kd i : Nat} {lo : List (Nat × fm_V)} {as rest : List fm_V} {M M1 : fm_M} {v : Option fm_V} (hi : u.2.2.2.2.2.2 pc = some (.invokevirtual ix)) (hlk : fm_lv u.2.2.2.2.1 ix u'.1) (hkd : fm_is kd u'.2.2.2.2.1 = true) (h7 : u'.2.2.2.2.1 < 7)
    (hn : fm_np u'.1 as.length) (hrest : fm_wd rest ≤ 8) (K : fm_Ct E d u' 0 (.inr (.inr (.inr (.inr (kd, i)))) :: as) M v M1)
    (k : fm_Go E (d + 1) u n (pc + 3, lo, v.toList ++ rest, M1) Z) : fm_Go E (d + 1) u n (pc, lo, as.reverse ++ .inr (.inr (.inr (.inr (kd, i)))) :: rest, M) Z := by
  have := fm_cV (n1 := 0) O O' hi hlk hkd h7 hn hrest K k
  rwa [Nat.zero_add] at this
theorem fm_cS0 (O : fm_mo u) (O' : fm_mok u') {pc ix : Nat} {lo : List (Nat × fm_V)} {as rest : List fm_V} {M M1 : fm_M} {v : Option fm_V} (hi : u.2.2.2.2.2.2 pc = some (.invokestatic ix)) (hlk : fm_lst u.2.2.2.2.1 ix u'.1)
    (hn : fm_np u'.1 as.length) (hrest : fm_wd rest ≤ 8) (K : fm_Ct E d u' 0 as M v M1)
    (k : fm_Go E (d + 1) u n (pc + 3, lo, v.toList ++ rest, M1) Z) : fm_Go E (d + 1) u n (pc, lo, as.reverse ++ rest, M) Z := by
  have := fm_cS (n1 := 0) O O' hi hlk hn hrest K k
  rwa [Nat.zero_add] at this
theorem fm_cN0 (O : fm_mo u) (O' : fm_mok u') {pc : Nat} {lo : List (Nat × fm_V)} {as rest : List fm_V} {M M1 : fm_M} {v : Option fm_V} (hi : u.2.2.2.2.2.2 pc = some (.invokestatic 93)) (hoc : u.2.2.2.2.1 = 1) (hy : u'.1 = ⟨"FlatModule", "isWithin", "(II)Z"⟩) (hsw : Cond.static u'.1 ∈ fm_TB)
    (hn : fm_np u'.1 as.length) (hrest : fm_wd rest ≤ 8) (K : fm_Ct E d u' 0 as M v M1)
    (k : fm_Go E (d + 1) u n (pc + 3, lo, v.toList ++ rest, M1) Z) : fm_Go E (d + 1) u n (pc, lo, as.reverse ++ rest, M) Z := by
  have := fm_cN (n1 := 0) O O' hi hoc hy hsw hn hrest K k
  rwa [Nat.zero_add] at this
end R0
