/-! A METHOD AS DATA; the machine's walk as a judgement over pure configurations -/
/-- name, code, locals, answer's type, class, field links, instructions -/
abbrev fm_Me : Type := MethodName × ByteArray × Nat × Option FieldType × Nat × (Nat → Option (Nat × Nat)) × (Nat → Option Instr)
/-- launch, tables' numbers, array classes, addresses, the script's length and ints -/
abbrev fm_Ev : Type := Launch × va_G × (Nat → ClassId) × fm_A × Nat × (Nat → Int32)
def fm_isw : Instr → Bool
  | .tableswitch .. => true
  | .lookupswitch .. => true
  | _ => false
def fm_dc (cc : ByteArray) (ins : Nat → Option Instr) : Prop := ∀ pc i, ins pc = some i → ∃ len, decode cc pc = .ok (i, len) ∧ (fm_isw i = false → len = fm_ln i)
def fm_mo (u : fm_Me) : Prop := fm_flo u.2.2.2.2.1 u.2.2.2.2.2.1 ∧ fm_dc u.2.1 u.2.2.2.2.2.2
def fm_mok (u : fm_Me) : Prop := fm_mo u ∧ Cond.code u.1 u.2.1 u.2.2.1 u.2.2.2.1 ∈ fm_TB ∧ Cond.initialized u.1.cls ∈ fm_TB ∧ u.1.cls = fm_cn u.2.2.2.2.1 ∧ plainName u.1.cls = true ∧ u.2.2.1 ≤ 22
def fm_stp (u : fm_Me) (C : fm_C) : Option fm_C :=
  match u.2.2.2.2.2.2 C.1 with
  | none => none
  | some i => cond (fm_isw i) none (match fm_stA u.2.2.2.2.1 i C.1 C.2.1 C.2.2.1 C.2.2.2 with
    | some x => some x
    | none => match fm_stG u.2.2.2.2.2.1 i C.1 C.2.1 C.2.2.1 C.2.2.2 with
      | some x => some x
      | none => match fm_stC i C.1 C.2.1 C.2.2.1 C.2.2.2 with
        | some x => some x
        | none => fm_stB u.2.2.1 i C.1 C.2.1 C.2.2.1 C.2.2.2)
def fm_run (u : fm_Me) : Nat → fm_C → Option fm_C
  | 0, C => some C
  | n + 1, C => match fm_stp u C with
    | some x => fm_run u n x
    | none => none
def fm_gd (u : fm_Me) (C : fm_C) : Option (Prop × fm_C) :=
  match u.2.2.2.2.2.2 C.1 with
  | none => none
  | some i => cond (fm_isw i) none (match fm_gdA i C.1 C.2.1 C.2.2.1 C.2.2.2 with
    | some x => some x
    | none => match fm_gdB i C.1 C.2.1 C.2.2.1 C.2.2.2 with
      | some x => some x
      | none => fm_gdC u.2.2.2.2.2.1 i C.1 C.2.1 C.2.2.1 C.2.2.2)
def fm_brr (u : fm_Me) (C : fm_C) : Option (Prop × fm_C × fm_C) :=
  match u.2.2.2.2.2.2 C.1 with
  | none => none
  | some i => cond (fm_isw i) none (fm_br i C.1 C.2.1 C.2.2.1 C.2.2.2)
def fm_sww (u : fm_Me) (v : Int) (C : fm_C) : Option (Prop × fm_C) :=
  match u.2.2.2.2.2.2 C.1 with
  | none => none
  | some i => fm_sw v i C.1 C.2.1 C.2.2.1 C.2.2.2
def fm_swd (u : fm_Me) (C : fm_C) : Option (Prop × fm_C) :=
  match u.2.2.2.2.2.2 C.1 with
  | none => none
  | some i => fm_so i C.1 C.2.1 C.2.2.1 C.2.2.2
def fm_gss (L : Nat) (xs : Nat → Int32) (u : fm_Me) (C : fm_C) : Option (Prop × fm_C) :=
  match u.2.2.2.2.2.2 C.1 with
  | none => none
  | some i => cond (fm_isw i) none (fm_gdS L xs i C.1 C.2.1 C.2.2.1 C.2.2.2)
def fm_Aw (ad : fm_A) (sz : Nat) : Nat → Prop := fun q => (∃ k i, k < 50 ∧ i < fm_cnt k ∧ q = ad k i) ∨ sz ≤ q
/-- from the configuration C on the method comes to its end Z, with n new exceptions on the way, d frames deep at the most -/
def fm_Go (E : fm_Ev) (d : Nat) (u : fm_Me) (n : Nat) (C : fm_C) (Z : (Nat → Prop) → List Frame → Array Value → State → Nat → Nat → State → Prop) : Prop :=
  ∀ (p : Program) (e : Env) (R : Room) (s : State) (m : MethodId) (args : Array Value) (below : List Frame) (meth : Method) (c : Code) (A : Nat → Prop) (cells slots : Nat),
    fm_cx E.1 E.2.1 E.2.2.1 E.2.2.2.1 E.2.2.2.2.1 E.2.2.2.2.2 u.2.2.2.2.1 u.2.1 u.2.2.1 p s m args meth c A → meth.sig.returnType = u.2.2.2.1 → (∀ q, fm_Aw E.2.2.2.1 s.heap.size q → A q) → d ≤ R.frames → 41 * d ≤ R.locals → cells + n ≤ R.cells → slots + 6 * n ≤ R.slots →
    fm_ww E.1 E.2.1 E.2.2.1 E.2.2.2.1 u.2.2.1 p e R s m args below meth c A (Z A below args s (cells + n) (slots + 6 * n)) cells slots C
section Rules
variable {E : fm_Ev} {d n : Nat} {u : fm_Me} {C : fm_C} {Z : (Nat → Prop) → List Frame → Array Value → State → Nat → Nat → State → Prop}
theorem fm_g1 (O : fm_mo u) {C' : fm_C} (h : fm_stp u C = some C') (k : fm_Go E d u n C' Z) : fm_Go E d u n C Z := by
  intro p e R s m args below meth c A cells slots X hr hA h1 h2 h3 h4
  have kk := k p e R s m args below meth c A cells slots X hr hA h1 h2 h3 h4
  obtain ⟨pc, lo, st, M⟩ := C
  unfold fm_stp at h
  split at h
  · cases h
  · next i hi =>
    obtain ⟨len, hd, hln⟩ := O.2 pc i hi
    cases hw : fm_isw i with
    | true => rw [hw] at h; cases h
    | false =>
      rw [hw] at h
      rw [hln hw] at hd
      simp only [cond_false] at h
      split at h
      · next x hx =>
        cases h
        exact fm_soA X hd hx kk
      · split at h
        · next x hx =>
          cases h
          exact fm_soG X O.1 hd hx kk
        · split at h
          · next x hx =>
            cases h
            exact fm_soC X hd hx kk
          · exact fm_soB X hd h kk
theorem fm_gr (O : fm_mo u) : ∀ (j : Nat) {C C' : fm_C}, fm_run u j C = some C' → fm_Go E d u n C' Z → fm_Go E d u n C Z
  | 0, C, C', h, k => by cases h; exact k
  | j + 1, C, C', h, k => by
    unfold fm_run at h
    split at h
    · next x hx => exact fm_g1 O hx (fm_gr O j h k)
    · cases h
theorem fm_gg (O : fm_mo u) {g : Prop × fm_C} (h : fm_gd u C = some g) (hg : g.1) (k : fm_Go E d u n g.2 Z) : fm_Go E d u n C Z := by
  intro p e R s m args below meth c A cells slots X hr hA h1 h2 h3 h4
  have kk := k p e R s m args below meth c A cells slots X hr hA h1 h2 h3 h4
  obtain ⟨pc, lo, st, M⟩ := C
  unfold fm_gd at h
  split at h
  · cases h
  · next i hi =>
    obtain ⟨len, hd, hln⟩ := O.2 pc i hi
    cases hw : fm_isw i with
    | true => rw [hw] at h; cases h
    | false =>
      rw [hw] at h
      rw [hln hw] at hd
      simp only [cond_false] at h
      split at h
      · next x hx =>
        cases h
        exact fm_goA X hd hx hg kk
      · split at h
        · next x hx =>
          cases h
          exact fm_goB X hd hx hg kk
        · exact fm_goC X O.1 hd h hg kk
theorem fm_gb (O : fm_mo u) {g : Prop × fm_C × fm_C} (h : fm_brr u C = some g) (kt : g.1 → fm_Go E d u n g.2.1 Z) (kf : ¬ g.1 → fm_Go E d u n g.2.2 Z) : fm_Go E d u n C Z := by
  intro p e R s m args below meth c A cells slots X hr hA h1 h2 h3 h4
  obtain ⟨pc, lo, st, M⟩ := C
  unfold fm_brr at h
  split at h
  · cases h
  · next i hi =>
    obtain ⟨len, hd, hln⟩ := O.2 pc i hi
    cases hw : fm_isw i with
    | true => rw [hw] at h; cases h
    | false =>
      rw [hw] at h
      rw [hln hw] at hd
      exact fm_bro X hd h (fun q => kt q p e R s m args below meth c A cells slots X hr hA h1 h2 h3 h4) (fun q => kf q p e R s m args below meth c A cells slots X hr hA h1 h2 h3 h4)
theorem fm_gs (O : fm_mo u) (v : Int) {g : Prop × fm_C} (h : fm_sww u v C = some g) (hg : g.1) (k : fm_Go E d u n g.2 Z) : fm_Go E d u n C Z := by
  intro p e R s m args below meth c A cells slots X hr hA h1 h2 h3 h4
  have kk := k p e R s m args below meth c A cells slots X hr hA h1 h2 h3 h4
  obtain ⟨pc, lo, st, M⟩ := C
  unfold fm_sww at h
  split at h
  · cases h
  · next i hi =>
    obtain ⟨len, hd, hln⟩ := O.2 pc i hi
    exact fm_swo X hd h hg kk
theorem fm_gt (O : fm_mo u) {g : Prop × fm_C} (h : fm_swd u C = some g) (hg : g.1) (k : fm_Go E d u n g.2 Z) : fm_Go E d u n C Z := by
  intro p e R s m args below meth c A cells slots X hr hA h1 h2 h3 h4
  have kk := k p e R s m args below meth c A cells slots X hr hA h1 h2 h3 h4
  obtain ⟨pc, lo, st, M⟩ := C
  unfold fm_swd at h
  split at h
  · cases h
  · next i hi =>
    obtain ⟨len, hd, hln⟩ := O.2 pc i hi
    exact fm_soo X hd h hg kk
theorem fm_gx (O : fm_mo u) {g : Prop × fm_C} (h : fm_gss E.2.2.2.2.1 E.2.2.2.2.2 u C = some g) (hg : g.1) (k : fm_Go E d u n g.2 Z) : fm_Go E d u n C Z := by
  intro p e R s m args below meth c A cells slots X hr hA h1 h2 h3 h4
  have kk := k p e R s m args below meth c A cells slots X hr hA h1 h2 h3 h4
  obtain ⟨pc, lo, st, M⟩ := C
  unfold fm_gss at h
  split at h
  · cases h
  · next i hi =>
    obtain ⟨len, hd, hln⟩ := O.2 pc i hi
    cases hw : fm_isw i with
    | true => rw [hw] at h; cases h
    | false =>
      rw [hw] at h
      rw [hln hw] at hd
      exact fm_goS X hd h hg kk
/-- at the end: it has returned v, with the memory M' -/
def fm_Q (E : fm_Ev) (A : Nat → Prop) (v : Option fm_V) (M' : fm_M) : Array Value → State → Outcome → State → Prop := fun _ st o t =>
  o = .returned (v.map (fm_cv E.2.2.2.1)) ∧ va_P E.2.1 fm_cls (fm_wl E.2.2.1 E.2.2.2.1 M') t.heap ∧ va_F A st t ∧ (∀ w ∈ v, fm_ok w) ∧ fm_okM M'
abbrev fm_Zr (E : fm_Ev) (v : Option fm_V) (M' : fm_M) : (Nat → Prop) → List Frame → Array Value → State → Nat → Nat → State → Prop := fun A below args s cells slots => MQ below (fm_Q E A v M') args s cells slots A
/-- the method returns -/
def fm_rt? (u : fm_Me) (C : fm_C) : Option (Prop × Option fm_V) :=
  match u.2.2.2.2.2.2 C.1 with
  | some .return_ => match u.2.2.2.1, C.2.2.1 with
    | none, [] => some (True, none)
    | _, _ => none
  | some .ireturn => match u.2.2.2.1, C.2.2.1 with
    | some .int, [.inl x] => some (True, some (.inl x))
    | some .boolean, [.inl x] => some (x = 0 ∨ x = 1, some (.inl x))
    | _, _ => none
  | some .lreturn => match u.2.2.2.1, C.2.2.1 with
    | some .long, [.inr (.inl x)] => some (True, some (.inr (.inl x)))
    | _, _ => none
  | some .freturn => match u.2.2.2.1, C.2.2.1 with
    | some .float, [.inr (.inr (.inl x))] => some (True, some (.inr (.inr (.inl x))))
    | _, _ => none
  | some .dreturn => match u.2.2.2.1, C.2.2.1 with
    | some .double, [.inr (.inr (.inr (.inl x)))] => some (True, some (.inr (.inr (.inr (.inl x)))))
    | _, _ => none
  | some .areturn => match u.2.2.2.1, C.2.2.1 with
    | some (.object _), [.inr (.inr (.inr (.inr x)))] => some (True, some (.inr (.inr (.inr (.inr x)))))
    | _, _ => none
  | _ => none
end Rules
