/-! THE WORLD: the fixed graph of cells, each cell's content read off the pure memory -/
def fm_fv (ad : fm_A) (M : fm_M) (ci k i s : Nat) : Value := cond (Nat.beq (fm_ft ci s) 2) (.ref (ad (M.2.2.2 k i s).1 (M.2.2.2 k i s).2)) (.int (M.1 k i s))
def fm_ar (ad : fm_A) (M : fm_M) (t k i : Nat) : (Nat → Int32) ⊕ (Nat → Int64) ⊕ (Nat → UInt32) ⊕ (Nat → UInt64) ⊕ (Nat → Option Nat) :=
  match t with
  | 0 => .inl (fun j => M.1 k i j)
  | 1 => .inr (.inl (fun j => M.2.1 k i j))
  | 2 => .inr (.inr (.inr (.inl (fun j => M.2.2.1 k i j))))
  | 3 => .inl (fun j => M.1 k i j)
  | _ => .inr (.inr (.inr (.inr (fun j => some (ad (M.2.2.2 k i j).1 (M.2.2.2 k i j).2)))))
def fm_ce (cA : Nat → ClassId) (ad : fm_A) (M : fm_M) (k i : Nat) : va_E :=
  match fm_kc k with
  | some ci => .inr (ci, (List.range (fm_nf ci)).map (fm_fv ad M ci k i))
  | none => match fm_ka k with
    | some q => .inl (cA q.1, q.2, fm_ar ad M q.1 k i)
    | none => .inr (0, [])
def fm_wl (cA : Nat → ClassId) (ad : fm_A) (M : fm_M) : va_W := fm_ki.map (fun q => (ad q.1 q.2, fm_ce cA ad M q.1 q.2))
def fm_tys (cA : Nat → ClassId) : List (ClassId × FieldType) := [(cA 0, .int), (cA 1, .long), (cA 2, .double), (cA 3, .boolean), (cA 4, .object "FlatModule$Function"), (cA 5, .object "FlatModule$Frame")]
theorem fm_cnt9 : ∀ k, fm_cnt k ≤ 9 := by
  intro k
  by_cases h : k < 51
  · revert k; decide +kernel
  · have : fm_cnt k = 0 := by
      unfold fm_cnt
      rw [List.getD_eq_getElem?_getD, List.getElem?_eq_none (by simpa using Nat.le_of_not_lt h)]
      rfl
    omega
theorem fm_ki_all : (List.range 50).all (fun k => (List.range (fm_cnt k)).all (fun i => decide ((k, i) ∈ fm_ki))) = true := by decide +kernel
theorem fm_ki_mem {k i : Nat} (hk : k < 50) (hi : i < fm_cnt k) : (k, i) ∈ fm_ki :=
  of_decide_eq_true (List.all_eq_true.mp (List.all_eq_true.mp fm_ki_all k (List.mem_range.mpr hk)) i (List.mem_range.mpr hi))
theorem fm_ki_nd : fm_ki.Nodup := by decide +kernel
theorem fm_ki_at {k i : Nat} (hk : k < 50) (hi : i < fm_cnt k) : ∃ j : Nat, fm_ki[j]? = some (k, i) := List.getElem?_of_mem (fm_ki_mem hk hi)
theorem fm_wl_at {cA : Nat → ClassId} {ad : fm_A} {M : fm_M} {k i j : Nat} (h : fm_ki[j]? = some (k, i)) : (fm_wl cA ad M)[j]? = some (ad k i, fm_ce cA ad M k i) := by
  unfold fm_wl
  rw [List.getElem?_map, h]
  rfl
theorem fm_wl_set {cA : Nat → ClassId} {ad : fm_A} {M M' : fm_M} {k i j : Nat} (h : fm_ki[j]? = some (k, i)) (ho : ∀ k' i', (k', i') ≠ (k, i) → fm_ce cA ad M' k' i' = fm_ce cA ad M k' i') {e : va_E} (he : fm_ce cA ad M' k i = e) : (fm_wl cA ad M).set j (ad k i, e) = fm_wl cA ad M' := by
  have hjl : j < fm_ki.length := (List.getElem?_eq_some_iff.mp h).1
  have hl : j < (fm_wl cA ad M).length := by
    unfold fm_wl
    rw [List.length_map]
    exact hjl
  apply List.ext_getElem?
  intro n
  by_cases hn : n = j
  · subst hn
    rw [List.getElem?_set_self hl, fm_wl_at h, he]
  · rw [List.getElem?_set_ne (Ne.symm hn)]
    unfold fm_wl
    rw [List.getElem?_map, List.getElem?_map]
    cases hq : fm_ki[n]? with
    | none => rfl
    | some q =>
      obtain ⟨k', i'⟩ := q
      have hne : (k', i') ≠ (k, i) := fun z => hn (by
        have hnl : n < fm_ki.length := (List.getElem?_eq_some_iff.mp hq).1
        exact (List.getElem?_inj hnl fm_ki_nd).mp (by rw [hq, h, z]))
      simp only [Option.map_some]
      rw [ho k' i' hne]
theorem fm_ce_congr {cA : Nat → ClassId} {ad : fm_A} {M M' : fm_M} {k i : Nat} (h1 : ∀ s, M'.1 k i s = M.1 k i s) (h2 : ∀ s, M'.2.1 k i s = M.2.1 k i s) (h3 : ∀ s, M'.2.2.1 k i s = M.2.2.1 k i s) (h4 : ∀ s, M'.2.2.2 k i s = M.2.2.2 k i s) : fm_ce cA ad M' k i = fm_ce cA ad M k i := by
  have e1 : M'.1 k i = M.1 k i := funext h1
  have e2 : M'.2.1 k i = M.2.1 k i := funext h2
  have e3 : M'.2.2.1 k i = M.2.2.1 k i := funext h3
  have e4 : M'.2.2.2 k i = M.2.2.2 k i := funext h4
  have hf : ∀ ci, fm_fv ad M' ci k i = fm_fv ad M ci k i := fun ci => funext fun s => by simp only [fm_fv, e1, e4]
  have ha : ∀ t, fm_ar ad M' t k i = fm_ar ad M t k i := fun t => by simp only [fm_ar, e1, e2, e3, e4]
  simp only [fm_ce, hf, ha]
theorem fm_u_ne {α : Type} {f : Nat → Nat → Nat → α} {k i s k' i' s' : Nat} {x : α} (h : (k', i') ≠ (k, i)) : fm_u f k i s x k' i' s' = f k' i' s' := by
  rw [fm_u_if, if_neg]
  intro z
  exact h (by rw [z.1, z.2.1])
/-- references point into the graph -/
def fm_ok : fm_V → Prop
  | .inr (.inr (.inr (.inr q))) => q.2 < fm_cnt q.1
  | _ => True
def fm_sz (k : Nat) : Nat := match fm_kc k with
  | some ci => fm_nf ci
  | none => match fm_ka k with
    | some t => t.2
    | none => 0
def fm_okM (M : fm_M) : Prop := ∀ k i s, k < 50 → i < fm_cnt k → s < fm_sz k → (M.2.2.2 k i s).2 < fm_cnt (M.2.2.2 k i s).1
def fm_vd (C : fm_C) : Prop := (∀ q ∈ C.2.1, fm_ok q.2) ∧ (∀ v ∈ C.2.2.1, fm_ok v) ∧ fm_okM C.2.2.2
abbrev fm_tN : String := "java/lang/Throwable"
abbrev fm_sD : String := "[Ljava/lang/StackTraceElement;"
abbrev fm_lD : String := "Ljava/util/List;"
/-- a static field's place, as its word has it; its cell is none that may change -/
def fm_ls (C n d : String) (A : Nat → Prop) (U : State) (H : Heap) : Prop := ∃ (c : ClassId) (k : Class) (i : Nat) (f : Field) (a : Nat) (cell : Cell), U.vm.findClass C = some c ∧ U.fieldFound? C n d = some (c, k, i, f) ∧ f.isStatic = true ∧ k.statics = some a ∧ H[a]? = some cell ∧ cell.vm.isStatics = true ∧ cell.cls = c ∧ f.slot < cell.slots.size ∧ k.staticTypes[f.slot]? = some f.type ∧ ¬ A a
theorem fm_ls.moved {C n d : String} {A : Nat → Prop} {u U : State} {H : Heap} (hvm : u.vm.Alike U.vm) (h : fm_ls C n d A u H) : fm_ls C n d A U H := by
  obtain ⟨c, k, i, f, a, cell, h0, h1, h2, h3, h4, h5, h6, h7, h8, h9⟩ := h
  obtain ⟨k', hi', he⟩ := State.fieldFound?_setVm hvm h1
  exact ⟨c, k', i, f, a, cell, by rw [hvm.findClass]; exact h0, hi', h2, by rw [he]; exact h3, h4, h5, h6, h7, by rw [he]; exact h8, h9⟩
theorem fm_ls.kept {C n d : String} {A : Nat → Prop} {U : State} {H H1 : Heap} (h : fm_ls C n d A U H) (hq : ∀ a : Nat, a < H.size → ¬ A a → H1[a]? = H[a]?) : fm_ls C n d A U H1 := by
  obtain ⟨c, k, i, f, a, cell, h0, h1, h2, h3, h4, h5, h6, h7, h8, h9⟩ := h
  exact ⟨c, k, i, f, a, cell, h0, h1, h2, h3, by rw [hq a (Array.getElem?_eq_some_iff.mp h4).1 h9]; exact h4, h5, h6, h7, h8, h9⟩
theorem fm_ls.narrow {C n d : String} {A B : Nat → Prop} {U : State} {H : Heap} (h : fm_ls C n d A U H) (hAB : ∀ q, B q → A q) : fm_ls C n d B U H := by
  obtain ⟨c, k, i, f, a, cell, h0, h1, h2, h3, h4, h5, h6, h7, h8, h9⟩ := h
  exact ⟨c, k, i, f, a, cell, h0, h1, h2, h3, h4, h5, h6, h7, h8, fun z => h9 (hAB a z)⟩
theorem fm_ls.use {C n d : String} {A : Nat → Prop} {U : State} {args : Array Value} (h : fm_ls C n d A U U.heap) : (Cond.laysStatic C n d).before args U = true := by
  obtain ⟨c, k, i, f, a, cell, h0, h1, h2, h3, h4, h5, h6, h7, h8, h9⟩ := h
  simp [Cond.before, Cond.holds, Cond.value, h0, h1, h2, h3, h4, h5, h6, h7, h8]
theorem fm_ls.of {C n d : String} {A : Nat → Prop} {U : State} {args : Array Value} (h : (Cond.laysStatic C n d).before args U = true) (hA : ∀ a : Nat, a < U.heap.size → ¬ A a) : fm_ls C n d A U U.heap := by
  obtain ⟨c, k, i, f, a, cell, hc, hi, hst, ha, hcell, hs, hcls, hlt, hty⟩ := Cond.laysStatic_spec h
  exact ⟨c, k, i, f, a, cell, hc, hi, hst, ha, hcell, hs, hcls, hlt, hty, hA a (Array.getElem?_eq_some_iff.mp hcell).1⟩
/-- which exceptions aren't others -/
def fm_nc (U : State) : Prop := va_Nc "java/lang/IllegalStateException" "java/lang/IllegalArgumentException" U ∧ va_Nc "java/lang/ArithmeticException" "java/lang/IllegalArgumentException" U ∧ va_Nc "java/lang/ArithmeticException" "java/lang/IllegalStateException" U ∧ va_Nc "java/lang/UnsupportedOperationException" "java/lang/IllegalArgumentException" U ∧ va_Nc "java/lang/UnsupportedOperationException" "java/lang/IllegalStateException" U ∧ va_Nc "java/lang/UnsupportedOperationException" "java/lang/ArithmeticException" U
theorem fm_nc.moved {u U : State} (hvm : u.vm.Alike U.vm) (h : fm_nc u) : fm_nc U := ⟨h.1.moved hvm, h.2.1.moved hvm, h.2.2.1.moved hvm, h.2.2.2.1.moved hvm, h.2.2.2.2.1.moved hvm, h.2.2.2.2.2.moved hvm⟩
/-- words and statics that the tables' good words don't give -/
def fm_nw (A : Nat → Prop) (U : State) (H : Heap) : Prop :=
  va_Nw (.methodLinkNest "FlatModule$Checker" 93 ⟨"FlatModule", "isWithin", "(II)Z"⟩ "FlatModule") U ∧
  va_Nw (.castable "java/lang/IllegalArgumentException" "java/lang/IllegalArgumentException") U ∧ va_Nw (.castable "java/lang/IllegalStateException" "java/lang/IllegalStateException") U ∧
  va_Nw (.castable "java/lang/ArithmeticException" "java/lang/ArithmeticException") U ∧ va_Nw (.castable "java/lang/UnsupportedOperationException" "java/lang/UnsupportedOperationException") U ∧
  fm_ls fm_tN "UNASSIGNED_STACK" fm_sD A U H ∧ fm_ls fm_tN "SUPPRESSED_SENTINEL" fm_lD A U H ∧
  va_Zq fm_tN "UNASSIGNED_STACK" fm_sD A U H ∧ va_Zq fm_tN "SUPPRESSED_SENTINEL" fm_lD A U H ∧
  va_Nw (.declares ⟨"java/lang/RuntimeException", "<init>", "()V"⟩) U ∧ va_Nw (.declares ⟨"java/lang/Exception", "<init>", "()V"⟩) U ∧ va_Nw (.declares ⟨"java/lang/Throwable", "<init>", "()V"⟩) U ∧ fm_nc U
theorem fm_nw.to {A B : Nat → Prop} {s U : State} {H H1 : Heap} (h : fm_nw A s H) (hW : s.WarmedH U.vm) (hq : ∀ a : Nat, a < H.size → ¬ A a → H1[a]? = H[a]?) (hAB : ∀ q, B q → A q) : fm_nw B U H1 := by
  obtain ⟨h1, h2, h3, h4, h5, h6, h7, h8, h9, h10, h11, h12, h13⟩ := h
  exact ⟨va_Nw.warmM hW h1, va_Nw.warmC hW h2, va_Nw.warmC hW h3, va_Nw.warmC hW h4, va_Nw.warmC hW h5, ((h6.moved hW.alike).kept hq).narrow hAB, ((h7.moved hW.alike).kept hq).narrow hAB, ((h8.moved hW.alike).kept hq).narrow hAB, ((h9.moved hW.alike).kept hq).narrow hAB, va_Nw.warmD hW h10, va_Nw.warmD hW h11, va_Nw.warmD hW h12, h13.moved hW.alike⟩
theorem fm_nw.same {A : Nat → Prop} {s U : State} {H : Heap} (h : fm_nw A s H) (hvm : s.vm = U.vm) : fm_nw A U H := by
  obtain ⟨h1, h2, h3, h4, h5, h6, h7, h8, h9, h10, h11, h12, h13⟩ := h
  have ha : s.vm.Alike U.vm := by rw [hvm]; exact Vm.Alike.refl _
  exact ⟨h1.same rfl hvm, h2.same rfl hvm, h3.same rfl hvm, h4.same rfl hvm, h5.same rfl hvm, h6.moved ha, h7.moved ha, h8.moved ha, h9.moved ha, h10.same rfl hvm, h11.same rfl hvm, h12.same rfl hvm, h13.moved ha⟩
/-- what stands at a method's entry: the machine, the code, the words, the graph's addresses, the script -/
def fm_cx (l : Launch) (D : va_G) (cA : Nat → ClassId) (ad : fm_A) (L : Nat) (xs : Nat → Int32) (oc : Nat) (cc : ByteArray) (nL : Nat) (p : Program) (s : State) (m : MethodId) (args : Array Value) (meth : Method) (c : Code) (A : Nat → Prop) : Prop :=
  p.tables.exec = Jvm.exec ∧ c.code = cc ∧ c.maxLocals = nL ∧ s.vm.findClass (fm_cn oc) = some m.cls ∧ (∀ w ∈ fm_TB, w.before args s = true) ∧ va_K D fm_cls (fm_tys cA) s ∧ (∀ M, va_D A (fm_wl cA ad M)) ∧ (∀ q, s.heap.size ≤ q → A q) ∧ (va_X (ad 50 0) L xs s s.heap ∧ ad 50 0 < s.heap.size ∧ ¬ A (ad 50 0)) ∧ fm_nw A s s.heap ∧ meth.locks = false ∧ l.stackTraces = false ∧ (oc = 8 ∨ c.exceptionTable.toList = [])
/-- W, at a pure configuration -/
def fm_ww (l : Launch) (D : va_G) (cA : Nat → ClassId) (ad : fm_A) (nL : Nat) (p : Program) (e : Env) (R : Room) (s : State) (m : MethodId) (args : Array Value) (below : List Frame) (meth : Method) (c : Code) (A : Nat → Prop) (Q : State → Prop) (cells slots : Nat) (C : fm_C) : Prop :=
  ∀ (H : Heap) (locs : List Loc) (ls : Array Slot), va_P D fm_cls (fm_wl cA ad C.2.2.2) H → va_S A s.heap H locs → lv_has ls nL (fm_cl ad C.2.1) → fm_vd C → W p l e R s m args below meth c H locs cells slots Q (F0 m C.1 ls (fm_cs ad C.2.2.1))
