/-! FROM THE LAW'S ENTRY TO ITS LOOP -/
theorem fmk_L_d0 : decode code 0 = .ok (.new 8, 3) := by decide +kernel
theorem fmk_L_d3 : decode code 3 = .ok (.dup, 1) := by decide +kernel
theorem fmk_L_d4 : decode code 4 = .ok (.invokespecial 37, 3) := by decide +kernel
theorem fmk_L_d7 : decode code 7 = .ok (.astore_n 1, 1) := by decide +kernel
theorem fmk_L_d8 : decode code 8 = .ok (.new 38, 3) := by decide +kernel
theorem fmk_L_d11 : decode code 11 = .ok (.dup, 1) := by decide +kernel
theorem fmk_L_d12 : decode code 12 = .ok (.invokespecial 40, 3) := by decide +kernel
theorem fmk_L_d15 : decode code 15 = .ok (.astore_n 2, 1) := by decide +kernel
theorem fmk_L_d16 : decode code 16 = .ok (.iconst 1, 1) := by decide +kernel
theorem fmk_L_d17 : decode code 17 = .ok (.newarray .long, 2) := by decide +kernel
theorem fmk_L_d19 : decode code 19 = .ok (.astore_n 3, 1) := by decide +kernel
theorem fmk_L_d20 : decode code 20 = .ok (.iconst 1, 1) := by decide +kernel
theorem fmk_L_d21 : decode code 21 = .ok (.newarray .double, 2) := by decide +kernel
theorem fmk_L_d23 : decode code 23 = .ok (.astore 4, 2) := by decide +kernel
theorem fmk_L_d25 : decode code 25 = .ok (.iconst 0, 1) := by decide +kernel
theorem fmk_L_d26 : decode code 26 = .ok (.istore 5, 2) := by decide +kernel
def fm_adr (q : Nat) (u : List Nat × List Nat × List Nat × List (List Nat × List Nat)) (q2 : Nat) (u2 : List Nat) (q3 q4 b : Nat) : fm_A := fun k i => match k with
  | 0 => q
  | 1 => u.1.getD 0 0
  | 2 => u.1.getD (3 + i) 0
  | 3 => (u.2.2.2.getD i ([], [])).1.getD 0 0
  | 4 => (u.2.2.2.getD i ([], [])).1.getD 1 0
  | 5 => (u.2.2.2.getD i ([], [])).1.getD 2 0
  | 6 => (u.2.2.2.getD i ([], [])).1.getD 3 0
  | 7 => (u.2.2.2.getD i ([], [])).2.getD 0 0
  | 8 => (u.2.2.2.getD i ([], [])).2.getD 1 0
  | 9 => (u.2.2.2.getD i ([], [])).2.getD 2 0
  | 10 => (u.2.2.2.getD i ([], [])).2.getD 3 0
  | 11 => (u.2.2.2.getD i ([], [])).2.getD 4 0
  | 12 => (u.2.2.2.getD i ([], [])).2.getD 5 0
  | 13 => u.1.getD 1 0
  | 14 => u.2.1.getD 0 0
  | 15 => u.2.1.getD 1 0
  | 16 => u.2.1.getD 2 0
  | 17 => u.2.1.getD (3 + i) 0
  | 18 => u.1.getD 2 0
  | 19 => u.2.2.1.getD 0 0
  | 20 => u.2.2.1.getD 1 0
  | 21 => u.2.2.1.getD 2 0
  | 22 => u.2.2.1.getD 3 0
  | 23 => u.2.2.1.getD 4 0
  | 24 => q2
  | 25 => u2.getD 0 0
  | 26 => u2.getD 1 0
  | 27 => u2.getD 2 0
  | 28 => u2.getD 3 0
  | 29 => u2.getD 4 0
  | 30 => u2.getD 5 0
  | 31 => u2.getD 6 0
  | 32 => u2.getD 7 0
  | 33 => u2.getD 8 0
  | 34 => u2.getD 9 0
  | 35 => u2.getD 10 0
  | 36 => u2.getD 11 0
  | 37 => u2.getD 12 0
  | 38 => u2.getD 13 0
  | 39 => u2.getD 14 0
  | 40 => u2.getD 15 0
  | 41 => u2.getD 16 0
  | 42 => u2.getD 17 0
  | 43 => u2.getD 18 0
  | 44 => u2.getD 19 0
  | 45 => u2.getD 20 0
  | 46 => u2.getD 21 0
  | 47 => u2.getD 22 0
  | 48 => q3
  | 49 => q4
  | _ => b
def fm_M0 : fm_M := (fun _ _ _ => 0, fun _ _ _ => 0, fun _ _ _ => 0, fm_P (14, 0) (19, 0))
def fm_w0 (cA : Nat → ClassId) (q : Nat) (u : List Nat × List Nat × List Nat × List (List Nat × List Nat)) (q2 : Nat) (u2 : List Nat) (q3 q4 : Nat) : va_W := fmk_F_w cA q u ++ fmk_D_w cA q2 u2 ++ [(q3, .inl (cA 1, 1, fm_z 1))] ++ [(q4, .inl (cA 2, 1, fm_z 2))]
def fm_is0 : List Nat := [0, 1, 21, 32, 43, 54, 22, 33, 44, 55, 23, 34, 45, 56, 24, 35, 46, 57, 25, 36, 47, 58, 26, 37, 48, 59, 27, 38, 49, 60, 28, 39, 50, 61, 29, 40, 51, 62, 30, 41, 52, 63, 31, 42, 53, 64, 2, 3, 4, 5, 6, 7, 8, 9, 10, 11, 12, 13, 14, 15, 16, 17, 18, 19, 20, 65, 66, 67, 68, 69, 70, 71, 72, 73, 74, 75, 76, 77, 78, 79, 80, 81, 82, 83, 84, 85, 86, 87, 88, 89, 90]
set_option maxHeartbeats 4000000 in
set_option maxRecDepth 100000 in
theorem fm_w0_wl (cA : Nat → ClassId) (q : Nat) (u : List Nat × List Nat × List Nat × List (List Nat × List Nat)) (q2 : Nat) (u2 : List Nat) (q3 q4 b : Nat) : fm_is0.map (fun i => (fm_w0 cA q u q2 u2 q3 q4)[i]?) = (fm_wl cA (fm_adr q u q2 u2 q3 q4 b) fm_M0).map some := rfl
theorem fm_fmap {α : Type} {f : Nat → Option α} : ∀ {is : List Nat} {l : List α}, is.map f = l.map some → is.filterMap f = l
  | [], [], _ => rfl
  | [], _ :: _, h => by cases h
  | _ :: _, [], h => by cases h
  | i :: is, a :: l, h => by
    have h' := List.cons.inj h
    rw [List.filterMap_cons, h'.1]
    exact congrArg _ (fm_fmap h'.2)
theorem fm_wlD {A : Nat → Prop} {cA : Nat → ClassId} {ad : fm_A} {M : fm_M} (h : va_D A (fm_wl cA ad M)) (M' : fm_M) : va_D A (fm_wl cA ad M') := by
  have g : ∀ (k : Nat) (q : Nat × va_E), (fm_wl cA ad M')[k]? = some q → ∃ q', (fm_wl cA ad M)[k]? = some q' ∧ q'.1 = q.1 := by
    intro k q hq
    unfold fm_wl at hq ⊢
    rw [List.getElem?_map] at hq ⊢
    cases hz : fm_ki[k]? with
    | none => rw [hz] at hq; cases hq
    | some z =>
      rw [hz] at hq
      cases hq
      exact ⟨_, rfl, rfl⟩
  refine ⟨fun i j p q hi hj hpq => ?_, fun k q hq => ?_⟩
  · obtain ⟨p', h1, e1⟩ := g i p hi
    obtain ⟨q', h2, e2⟩ := g j q hj
    exact h.1 i j p' q' h1 h2 (by rw [e1, e2]; exact hpq)
  · obtain ⟨q', h1, e1⟩ := g k q hq
    rw [← e1]
    exact h.2 k q' h1
theorem fm_arrK {args : Array Value} {s : State} {ty : FieldType} (h : (Cond.arrayClass ty).before args s = true) (hr : ∀ c, s.vm.findClass ("[" ++ ty.toString) = some c → va_RA s c ty) : ∃ c, ArrOfT s c ty ∧ va_RA s c ty := by
  obtain ⟨c, k, comp, h1, h2, h3⟩ := Cond.arrayClass_spec h
  exact ⟨c, fun n z => ⟨fun k h => (by cases h), k, h2, comp, h3⟩, hr c h1⟩
theorem fm_arrQ {args : Array Value} {s : State} {C : String} (h : (Cond.arrayOver (.object C)).before args s = true) : ∃ c, ArrOfT s c (.object C) ∧ va_RA s c (.object C) := by
  obtain ⟨comp, c, k, h1, -, h3, h4, h5⟩ := Cond.arrayOver_spec h
  exact ⟨c, fun n z => ⟨fun k h => (by cases h), k, h3, comp, h4⟩, k, comp, h3, h4, h1, h5⟩
def R_law : String := "FlatModuleLaw"
def lw_P (b : Addr) (xs : List Int32) (args : Array Value) (s : State) : Prop := args = #[.ref b] ∧ s.IntsAt b xs ∧ xs.length ≤ 3072 ∧ (Jvm.Cond.and given_1 narrow_1).before args s = true
def lw_Q (_ : Array Value) (s : State) (o : Outcome) (t : State) : Prop := o = .returned (some (.int 1)) ∧ Framed s o t [] 601024 7293034
def lw_Z (below : List Frame) (a : Array Value) (s : State) : State → Prop := fun t => ∃ o, t.status = .running ∧ Ended t below o ∧ lw_Q a s o t
def lw_At (p : Program) (s : State) (m : MethodId) (meth : Method) (c : Code) (b L : Nat) (xs : Nat → Int32) : Prop :=
  p.tables.exec = Jvm.exec ∧ c.code = code ∧ meth.sig.returnType = ret ∧ c.maxLocals = 9 ∧ s.vm.findClass R_law = some m.cls ∧ (∀ w ∈ lw_tbl, w.before #[Value.ref b] s = true) ∧ va_X b L xs s s.heap ∧ b < s.heap.size ∧ meth.locks = false ∧ (Jvm.Cond.and given_1 narrow_1).before #[Value.ref b] s = true

set_option maxHeartbeats 4000000 in
theorem fm_known {p : Program} {s : State} {m : MethodId} {meth : Method} {c : Code} {b L : Nat} {xs : Nat → Int32} (C0 : lw_At p s m meth c b L xs) : ∃ (D : va_G) (cA : Nat → ClassId), va_K D fm_cls (fm_tys cA) s := by
  obtain ⟨-, -, -, -, -, hts, -⟩ := C0
  have ht : ∀ w ∈ fm_TB, w.before #[Value.ref b] s = true := fun w hw => hts w (List.mem_filter.mp hw).1
  obtain ⟨c0, i0, k0⟩ := u_known (C := "FlatModule") (T := fm_T0) (N := 4) (n := 4) ht fm_in0 (hts _ (List.mem_append_right _ (List.mem_of_getElem? (i := 18) (by decide +kernel))))
  obtain ⟨c1, i1, k1⟩ := u_known (C := "FlatModule$Checker") (T := fm_T1) (N := 7) (n := 7) ht fm_in1 (hts _ (List.mem_append_right _ (List.mem_of_getElem? (i := 28) (by decide +kernel))))
  obtain ⟨c2, i2, k2⟩ := u_known (C := "FlatModule$FlatCode") (T := fm_T2) (N := 7) (n := 7) ht fm_in2 (hts _ (List.mem_append_right _ (List.mem_of_getElem? (i := 138) (by decide +kernel))))
  obtain ⟨c3, i3, k3⟩ := u_known (C := "FlatModule$Frame") (T := fm_T3) (N := 7) (n := 7) ht fm_in3 (hts _ (List.mem_append_right _ (List.mem_of_getElem? (i := 36) (by decide +kernel))))
  obtain ⟨c4, i4, k4⟩ := u_known (C := "FlatModule$Function") (T := fm_T4) (N := 9) (n := 9) ht fm_in4 (hts _ (List.mem_append_right _ (List.mem_of_getElem? (i := 132) (by decide +kernel))))
  obtain ⟨c5, i5, k5⟩ := u_known (C := "FlatModule$Machine") (T := fm_T5) (N := 9) (n := 9) ht fm_in5 (hts _ (List.mem_append_right _ (List.mem_of_getElem? (i := 94) (by decide +kernel))))
  obtain ⟨c6, i6, k6⟩ := u_known (C := "FlatModuleModel") (T := fm_T6) (N := 33) (n := 33) ht fm_in6 (hts _ (List.mem_append_right _ (List.mem_of_getElem? (i := 617) (by decide +kernel))))
  obtain ⟨a0, x0⟩ := fm_arrK (ty := .int) (hts _ (List.mem_append_right _ (List.mem_of_getElem? (i := 70) (by decide +kernel)))) (fun c h => h)
  obtain ⟨a1, x1⟩ := fm_arrK (ty := .long) (hts _ (List.mem_append_right _ (List.mem_of_getElem? (i := 130) (by decide +kernel)))) (fun c h => h)
  obtain ⟨a2, x2⟩ := fm_arrK (ty := .double) (hts _ (List.mem_append_right _ (List.mem_of_getElem? (i := 131) (by decide +kernel)))) (fun c h => h)
  obtain ⟨a3, x3⟩ := fm_arrK (ty := .boolean) (hts _ (List.mem_append_right _ (List.mem_of_getElem? (i := 722) (by decide +kernel)))) (fun c h => h)
  obtain ⟨a4, x4⟩ := fm_arrQ (C := fm_sF) (hts _ (List.mem_append_right _ (List.mem_of_getElem? (i := 26) (by decide +kernel))))
  obtain ⟨a5, x5⟩ := fm_arrQ (C := fm_sR) (hts _ (List.mem_append_right _ (List.mem_of_getElem? (i := 35) (by decide +kernel))))
  refine ⟨(fun c => [c0, c1, c2, c3, c4, c5, c6].getD c 0, fun c => [i0, i1, i2, i3, i4, i5, i6].getD c (fun _ => 0)), fun t => [a0, a1, a2, a3, a4, a5].getD t 0, fun c q hq => ?_, fun k q hq => ?_⟩
  · have hl := (List.getElem?_eq_some_iff.mp hq).1
    have hc : c = 0 ∨ c = 1 ∨ c = 2 ∨ c = 3 ∨ c = 4 ∨ c = 5 ∨ c = 6 := by
      have : c < 7 := hl
      omega
    rcases hc with rfl | rfl | rfl | rfl | rfl | rfl | rfl <;> cases hq <;> assumption
  · have hl := (List.getElem?_eq_some_iff.mp hq).1
    have hc : k = 0 ∨ k = 1 ∨ k = 2 ∨ k = 3 ∨ k = 4 ∨ k = 5 := by
      have : k < 6 := hl
      omega
    rcases hc with rfl | rfl | rfl | rfl | rfl | rfl <;> cases hq <;> assumption
set_option maxHeartbeats 4000000 in
theorem fm_nw0 {p : Program} {s : State} {m : MethodId} {meth : Method} {c : Code} {b L : Nat} {xs : Nat → Int32} (C0 : lw_At p s m meth c b L xs) : fm_nw (fun q => s.heap.size ≤ q) s s.heap := by
  obtain ⟨-, -, -, -, -, hts, -, -, -, hgv⟩ := C0
  have hs := flat_of_before _ hgv
  have hA : ∀ a : Nat, a < s.heap.size → ¬ s.heap.size ≤ a := fun a h => Nat.not_le.mpr h
  have u1 : (Cond.isRef (.static "java/lang/Throwable" "UNASSIGNED_STACK" "[Ljava/lang/StackTraceElement;")).before #[Value.ref b] s = true := hs _ (by decide +kernel)
  have u2 : (Cond.isRef (.static "java/lang/Throwable" "SUPPRESSED_SENTINEL" "Ljava/util/List;")).before #[Value.ref b] s = true := hs _ (by decide +kernel)
  have n1 : (Cond.not (.castable "java/lang/IllegalStateException" "java/lang/IllegalArgumentException")).before #[Value.ref b] s = true := hs _ (by decide +kernel)
  have n2 : (Cond.not (.castable "java/lang/ArithmeticException" "java/lang/IllegalArgumentException")).before #[Value.ref b] s = true := hs _ (by decide +kernel)
  have n3 : (Cond.not (.castable "java/lang/ArithmeticException" "java/lang/IllegalStateException")).before #[Value.ref b] s = true := hs _ (by decide +kernel)
  have n4 : (Cond.not (.castable "java/lang/UnsupportedOperationException" "java/lang/IllegalArgumentException")).before #[Value.ref b] s = true := hs _ (by decide +kernel)
  have n5 : (Cond.not (.castable "java/lang/UnsupportedOperationException" "java/lang/IllegalStateException")).before #[Value.ref b] s = true := hs _ (by decide +kernel)
  have n6 : (Cond.not (.castable "java/lang/UnsupportedOperationException" "java/lang/ArithmeticException")).before #[Value.ref b] s = true := hs _ (by decide +kernel)
  have l1 : (Cond.laysStatic "java/lang/Throwable" "UNASSIGNED_STACK" "[Ljava/lang/StackTraceElement;").before #[Value.ref b] s = true := (hts _ (List.mem_append_right _ (List.mem_of_getElem? (i := 383) (by decide +kernel))))
  have l2 : (Cond.laysStatic "java/lang/Throwable" "SUPPRESSED_SENTINEL" "Ljava/util/List;").before #[Value.ref b] s = true := (hts _ (List.mem_append_right _ (List.mem_of_getElem? (i := 385) (by decide +kernel))))
  have i1 : (Cond.initialized "java/lang/Throwable").before #[Value.ref b] s = true := (hts _ (List.mem_append_right _ (List.mem_of_getElem? (i := 8) (by decide +kernel))))
  exact ⟨va_Nw.of rfl (hts _ (List.mem_append_right _ (List.mem_of_getElem? (i := 256) (by decide +kernel)))), va_Nw.of rfl (hts _ (List.mem_append_right _ (List.mem_of_getElem? (i := 358) (by decide +kernel)))), va_Nw.of rfl (hts _ (List.mem_append_right _ (List.mem_of_getElem? (i := 438) (by decide +kernel)))), va_Nw.of rfl (hts _ (List.mem_append_right _ (List.mem_of_getElem? (i := 530) (by decide +kernel)))), va_Nw.of rfl (hts _ (List.mem_append_right _ (List.mem_of_getElem? (i := 584) (by decide +kernel)))), fm_ls.of l1 hA, fm_ls.of l2 hA, va_Zqof l1 i1 u1 hA, va_Zqof l2 i1 u2 hA, va_Nw.of rfl (hts _ (List.mem_append_right _ (List.mem_of_getElem? (i := 359) (by decide +kernel)))), va_Nw.of rfl (hts _ (List.mem_append_right _ (List.mem_of_getElem? (i := 361) (by decide +kernel)))), va_Nw.of rfl (hts _ (List.mem_append_right _ (List.mem_of_getElem? (i := 363) (by decide +kernel)))), va_Nc.of n1, va_Nc.of n2, va_Nc.of n3, va_Nc.of n4, va_Nc.of n5, va_Nc.of n6⟩
theorem fm_okM0 : fm_okM fm_M0 := by
  have h : (List.range 50).all (fun k => (List.range (fm_cnt k)).all (fun i => (List.range (fm_sz k)).all (fun s => decide ((fm_P (14, 0) (19, 0) k i s).2 < fm_cnt (fm_P (14, 0) (19, 0) k i s).1)))) = true := by decide +kernel
  intro k i s hk hi hs
  exact of_decide_eq_true (List.all_eq_true.mp (List.all_eq_true.mp (List.all_eq_true.mp h k (List.mem_range.mpr hk)) i (List.mem_range.mpr hi)) s (List.mem_range.mpr hs))

set_option maxHeartbeats 4000000 in
set_option maxRecDepth 100000 in
theorem whole_start {Inv : fm_In} (hsd : fm_sd Inv) (hI0 : Inv (fun _ _ _ => 0) (fun _ _ _ => 0) (fun _ _ _ => 0) (14, 0) (19, 0)) {p : Program} {e : Env} {s : State} {m : MethodId} {below : List Frame} {meth : Method} {c : Code} (l : Launch) (hlt : l.stackTraces = false) {b L : Nat} {xs : Nat → Int32} (hL : L ≤ 3072) (C0 : lw_At p s m meth c b L xs) : W p l e room_1 s m #[Value.ref b] below meth c s.heap [] 0 0 (lw_Z below #[Value.ref b] s) (entryFrame m ([Value.ref b] : List Value).toArray 9) := by
  obtain ⟨D, cA, hK⟩ := fm_known C0
  have hnw := fm_nw0 C0
  obtain ⟨hx, hb, hr, hml, hown, hts, hX, hbl, hlocks, hgv⟩ := C0
  have ht : ∀ w ∈ fm_TB, w.before #[Value.ref b] s = true := fun w hw => hts w (List.mem_filter.mp hw).1
  have hkn : fm_kn s := ⟨va_Nw.of rfl (hts _ (List.mem_append_right _ (List.mem_of_getElem? (i := 37) (by decide +kernel)))), va_Nw.of rfl (hts _ (List.mem_append_right _ (List.mem_of_getElem? (i := 95) (by decide +kernel)))), va_Nw.of rfl (hts _ (List.mem_append_right _ (List.mem_of_getElem? (i := 133) (by decide +kernel)))), va_Nw.of rfl (hts _ (List.mem_append_right _ (List.mem_of_getElem? (i := 139) (by decide +kernel)))), va_AO.of (hts _ (List.mem_append_right _ (List.mem_of_getElem? (i := 26) (by decide +kernel)))), va_AO.of (hts _ (List.mem_append_right _ (List.mem_of_getElem? (i := 35) (by decide +kernel))))⟩
  generalize hA9 : (fun q : Nat => s.heap.size ≤ q) = A at hnw
  have hAs : ∀ q, s.heap.size ≤ q → A q := fun q h => by rw [← hA9]; exact h
  have hAn : ∀ q, A q → s.heap.size ≤ q := fun q h => by rw [← hA9] at h; exact h
  have X : fm_kx D cA 8 code 9 p s m #[Value.ref b] meth c A := ⟨hx, hb, hml, hown, ht, hK, hAs, hkn, hlocks⟩
  have h : fm_kw D A s [] s.heap [] := ⟨fun k q hq => (by cases hq), ⟨fun i j p q hi => (by cases hi), fun k q hq => (by cases hq)⟩, va_S.rf⟩
  have hl := lv_entry [.ref b] (n := 9) (Nat.le_of_ble_eq_true rfl)
  rw [lg_entry_eq]
  generalize (lg_sl ([.ref b]) ++ List.replicate (9 - (lg_sl ([.ref b])).length) Slot.unset).toArray = ls at hl ⊢
  have hl : lv_has ls 9 [(0, .ref b)] := hl
  refine fm_knc X (fmk_F l D cA) (by decide) rfl fmk_F_cw (fm_tb (List.mem_of_getElem? (i := 17) (by decide +kernel)) rfl) fmk_F_iw fmk_F_nw (Or.inl (fm_tb (List.mem_of_getElem? (i := 19) (by decide +kernel)) rfl)) fmk_F_mw (by decide) ⟨by decide +kernel, by decide +kernel⟩ hl.1 (Nat.le_of_ble_eq_true rfl) (by decide) (by decide) (by decide) (by decide +kernel) fmk_L_d0 fmk_L_d3 fmk_L_d4 h (fun q u H locs h => ?_)
  refine lv_astore_n hx hb fmk_L_d7 rfl hl (by decide) rfl (fun ls hl => ?_)
  have hl : lv_has ls 9 [(1, .ref q), (0, .ref b)] := hl
  refine fm_knc X (fmk_D l D cA) (by decide) rfl fmk_D_cw (fm_tb (List.mem_of_getElem? (i := 616) (by decide +kernel)) rfl) fmk_D_iw fmk_D_nw (Or.inl (fm_tb (List.mem_of_getElem? (i := 618) (by decide +kernel)) rfl)) fmk_D_mw (by decide) ⟨by decide +kernel, by decide +kernel⟩ hl.1 (Nat.le_of_ble_eq_true rfl) (by decide) (by decide) (by decide) (by decide +kernel) fmk_L_d8 fmk_L_d11 fmk_L_d12 h (fun q2 u2 H locs h => ?_)
  refine lv_astore_n hx hb fmk_L_d15 rfl hl (by decide) rfl (fun ls hl => ?_)
  have hl : lv_has ls 9 [(2, .ref q2), (1, .ref q), (0, .ref b)] := hl
  refine lv_iconst (v := 1) hx hb fmk_L_d16 (by decide +kernel) ?_
  refine fm_knew X 1 1 (by decide) (by decide) (by decide +kernel) (by decide) (by decide) (by decide +kernel) fmk_L_d17 h (fun q3 H h => ?_)
  refine lv_astore_n hx hb fmk_L_d19 rfl hl (by decide) rfl (fun ls hl => ?_)
  have hl : lv_has ls 9 [(3, .ref q3), (2, .ref q2), (1, .ref q), (0, .ref b)] := hl
  refine lv_iconst (v := 1) hx hb fmk_L_d20 (by decide +kernel) ?_
  refine fm_knew X 2 1 (by decide) (by decide) (by decide +kernel) (by decide) (by decide) (by decide +kernel) fmk_L_d21 h (fun q4 H h => ?_)
  refine lv_astore hx hb fmk_L_d23 hl (by decide) rfl (fun ls hl => ?_)
  have hl : lv_has ls 9 [(4, .ref q4), (3, .ref q3), (2, .ref q2), (1, .ref q), (0, .ref b)] := hl
  refine lv_iconst (v := 0) hx hb fmk_L_d25 (by decide +kernel) ?_
  refine lv_istore hx hb fmk_L_d26 hl (by decide) rfl (fun ls hl => ?_)
  have hl : lv_has ls 9 [(5, .int 0), (4, .ref q4), (3, .ref q3), (2, .ref q2), (1, .ref q), (0, .ref b)] := hl
  have h : fm_kw D A s (fm_w0 cA q u q2 u2 q3 q4) H _ := h
  obtain ⟨hP, hD, hS⟩ := h
  have hm := fm_w0_wl cA q u q2 u2 q3 q4 b
  have hP0 := hP.sub fm_is0 (fm_fmap hm)
  have hD0 := hD.sub fm_is0 (by decide +kernel) hm
  generalize had : fm_adr q u q2 u2 q3 q4 b = ad at hP0 hD0
  have hD1 : ∀ M, va_D A (fm_wl cA ad M) := fun M => fm_wlD hD0 M
  have hb50 : ad 50 0 = b := by rw [← had]; rfl
  have hX0 : fm_cx l D cA ad L xs 8 code 9 p s m #[Value.ref b] meth c A := ⟨hx, hb, hml, hown, ht, hK, hD1, hAs, by rw [hb50]; exact ⟨hX, hbl, fun z => absurd (hAn b z) (Nat.not_le.mpr hbl)⟩, hnw, hlocks, hlt, Or.inl rfl⟩
  have hAw : ∀ q, fm_Aw ad s.heap.size q → A q := by
    intro q hq
    rcases hq with ⟨k, i, hk, hi, rfl⟩ | hq
    · obtain ⟨j, hj⟩ := fm_ki_at hk hi
      exact (hD1 fm_M0).2 j _ (fm_wl_at hj)
    · exact hAs q hq
  have G := fm_loop (E := (l, D, cA, ad, L, xs)) hlt hsd hL 512 0 0 (fun _ _ _ => 0) (fun _ _ _ => 0) (fun _ _ _ => 0) (14, 0) (19, 0) (by show L < 0 + 6 * (512 + 1); omega) (by decide) rfl hI0
    p e room_1 s m #[Value.ref b] below meth c A 91 3143 hX0 hr hAw (by decide) (by decide) (by decide) (by decide +kernel) H _ ls hP0 hS
    (by
      refine ⟨hl.1, hl.2.1, fun z hz => ?_⟩
      simp only [fm_cl, List.map_cons, List.map_nil, List.mem_cons, List.not_mem_nil, or_false, fm_cv] at hz
      rcases hz with rfl | rfl | rfl | rfl | rfl | rfl
      · exact hl.2.2 (5, .int 0) (by simp)
      · rw [← had]; exact hl.2.2 (0, .ref b) (by simp)
      · rw [← had]; exact hl.2.2 (1, .ref q) (by simp)
      · rw [← had]; exact hl.2.2 (2, .ref q2) (by simp)
      · rw [← had]; exact hl.2.2 (3, .ref q3) (by simp)
      · rw [← had]; exact hl.2.2 (4, .ref q4) (by simp))
    ⟨fun z hz => (by
      simp only [List.mem_cons, List.not_mem_nil, or_false] at hz
      rcases hz with rfl | rfl | rfl | rfl | rfl | rfl <;> first | trivial | (show _ < _; decide)), fun z hz => (by cases hz), fm_okM0⟩
  intro T hT XS
  obtain ⟨t, a1, M', o, b1, b2, b3, L', b4, b5⟩ := G T hT XS
  refine ⟨t, a1, o, b1, b2, b3.1, b4.1, b4.2.1, ?_⟩
  exact (b4.2.2.weaken (fun y hy hlt' => absurd hlt' (Nat.not_lt.mpr (hAn _ (b5 y hy)))) (by decide) (by decide +kernel))

set_option maxHeartbeats 4000000 in
theorem lw_walk {Inv : fm_In} (hsd : fm_sd Inv) (hI0 : Inv (fun _ _ _ => 0) (fun _ _ _ => 0) (fun _ _ _ => 0) (14, 0) (19, 0)) (l : Launch) (hlt : l.stackTraces = false) (b : Addr) (xs : List Int32) : MetFree l x (headSpec (Jvm.Cond.code x code maxLocals ret :: tables_1) room_1) (lw_P b xs) (fun _ _ _ _ _ => True) lw_Q := by
  refine MetFree.of_bodyS (code := code) (maxLocals := maxLocals) (ret := ret) (by decide) ?_ ?_
  · intro args s m h hn
    obtain ⟨meth, c, h1, h2, h3, h4, h5, h6, -, -⟩ := Cond.code_spec hn (atoms_spec (ws := Jvm.Cond.code x code maxLocals ret :: tables_1) h _ List.mem_cons_self)
    exact ⟨meth, c, h1, h2, h3, h4, h5, h6⟩
  · intro p e s m args below meth c s₁ B hml0 hP _
    obtain ⟨rfl, hx, hbd, hgv⟩ := hP
    obtain ⟨scr, harrAt, hlist, hof, hsmall⟩ := hx
    obtain ⟨hcb, hkn, -, -⟩ := State.arrayAt?_spec harrAt
    have hown : s.vm.findClass R_law = some m.cls := findClass_of_methodNamed B.named
    have hts0 : ∀ c ∈ (Jvm.Cond.code x code maxLocals ret :: tables_1), c.before #[Value.ref b] s = true := atoms_spec (ws := Jvm.Cond.code x code maxLocals ret :: tables_1) B.pre
    have hts : ∀ w ∈ lw_tbl, w.before #[Value.ref b] s = true := k2_hts_sels lw_privs (fun w hw => hts0 w (List.mem_cons_of_mem _ hw)) lw_privs_ok
    have hml : c.maxLocals = 9 := B.maxLocals_eq (hts0 _ List.mem_cons_self)
    have X₀ : Stand p l e room_1 s m #[Value.ref b] below meth c s₁ [] 0 0 := Stand.of_body B
    have hh0 : s₁.heap = s.heap := by rw [B.state]; rfl
    have hsz : scr.slots.size = xs.length := by rw [← Array.length_toList, hlist, List.length_map]
    have hval : ∀ j : Nat, j < xs.length → scr.slots[j]? = some (.int (xs.getD j 0)) := fun j hj => by
      rw [← Array.getElem?_toList, hlist]
      simp [hj]
    have hbl : b < s.heap.size := (Array.getElem?_eq_some_iff.mp hcb).1
    have hX : va_X b xs.length (fun j => xs.getD j 0) s s.heap := ⟨scr, hcb, hof, hkn, hsz, hval⟩
    have K : W p l e room_1 s m #[Value.ref b] below meth c s₁.heap [] 0 0 (lw_Z below #[Value.ref b] s) (entryFrame m ([Value.ref b] : List Value).toArray 9) := by
      rw [hh0]
      exact whole_start hsd hI0 l hlt hbd ⟨B.exec, B.bytes, B.returns, hml, hown, hts, hX, hbl, B.notSynchronized, hgv⟩
    obtain ⟨t, a1, o, b1, b2, b3⟩ := K s₁ rfl X₀
    exact ⟨t, o, a1, b1, b2, b3⟩
theorem lw_pre_spec {args : Array Value} {s : State} (h : (Jvm.Cond.and given_1 narrow_1).before args s = true) (hr : rest_1_c.before args s = true) : ∃ (b : Addr) (xs : List Int32), lw_P b xs args s := by
  have hs := flat_of_before _ h
  have hq := flat_of_before _ hr
  have hc : (Cond.count 1).before args s = true := hs _ (by decide +kernel)
  have harr : (Cond.arrayOf (.arg 0) .int).before args s = true := hs _ (by decide +kernel)
  have hle : (Cond.le (.length (.arg 0)) (.int 3072)).before args s = true := hs _ (by decide +kernel)
  have hlen : (Cond.isInt (.length (.arg 0))).before args s = true := hq _ (by decide +kernel)
  have hall : (Cond.all (.arg 0) (.isInt (.elem (.arg 0) (.index 0)))).before args s = true := hq _ (by decide +kernel)
  obtain ⟨b, xs, hb, hx⟩ := State.ints_of_pre rfl harr hlen hall
  have hsm : xs.length < 2 ^ 31 := hx.choose_spec.2.2.2
  have hev : (Term.length (.arg 0)).eval args s none [] s = some (.int xs.length.toInt32) := hx.length_eval hb
  have hv := Cond.le_ints hev (show (Term.int 3072).eval args s none [] s = some (.int 3072) from rfl)
  have hd : xs.length.toInt32 ≤ 3072 := by
    simpa [Cond.before, Cond.holds, hv] using hle
  have hN : xs.length ≤ 3072 := (Int32.ofNat_le_ofNat hsm (by decide)).mp (show Int32.ofNat xs.length ≤ Int32.ofNat 3072 from hd)
  exact ⟨b, xs, Cond.one_arg hc (show args[0]? = some (.ref b) from hb), hx, hN, h⟩
theorem lw_comes {Inv : fm_In} (hsd : fm_sd Inv) (hI0 : Inv (fun _ _ _ => 0) (fun _ _ _ => 0) (fun _ _ _ => 0) (14, 0) (19, 0)) (l : Launch) (hlt : l.stackTraces = false) : Comes l x (Jvm.Cond.code x code maxLocals ret :: tables_1) room_1 (fun tb e args s => Calls_1 tb e args s ∧ rest_1 tb e args s ∧ Pre_1 tb e args s)
    (fun _ _ args s o t => lw_Q args s o t) := by
  intro p e ha hc hk s m args below hf hfit hheap happ hpre
  obtain ⟨b, xs, hP⟩ := lw_pre_spec hpre.2.2 hpre.2.1
  obtain ⟨k, o, h1, h2, h3, hQ⟩ := lw_walk hsd hI0 l hlt b xs p e ha hc hk s m args below hf ((Spec.applies_iff_loose hf).mp happ).1 hP trivial
  exact ⟨k, o, h1, h2, h3, hQ⟩
theorem lw_frame {s t : State} {o : Outcome} {args : Array Value} (h : Framed s o t [] 601024 7293034) :
    Framed s o t (fieldLocs frame_1_writes args s ++ arrayLocs frame_1_arrays args s ++ staticLocs frame_1_statics s) 601024 7293034 := h
theorem lw_limb {Inv : fm_In} (hsd : fm_sd Inv) (hI0 : Inv (fun _ _ _ => 0) (fun _ _ _ => 0) (fun _ _ _ => 0) (14, 0) (19, 0)) (L : Cond) (hL : ∀ (args : Array Value) (s t : State), L.after args s (.returned (some (.int 1))) t = true) :
    ArmFor flags0 classFile x code maxLocals ret World_1 tables_1 room_1 Calls_1 rest_1 Pre_1
      (fun tb e a s o t => postC L tb e a s o t ∧ Framed s o t (fieldLocs frame_1_writes a s ++ arrayLocs frame_1_arrays a s ++ staticLocs frame_1_statics s) 601024 7293034) := by
  intro l hfl _ _ p e ha hc hk s m args below hf hfit hheap happ hpre
  obtain ⟨k, o, h1, h2, h3, rfl, hF⟩ := lw_comes hsd hI0 l (by unfold Launch.stackTraces; rw [hfl]; decide +kernel) p e ha hc hk s m args below hf hfit hheap happ hpre
  exact ⟨k, _, h1, h2, h3, hL args s _, lw_frame hF⟩
theorem fm_vc {Inv : fm_In} (hsd : fm_sd Inv) (hI0 : Inv (fun _ _ _ => 0) (fun _ _ _ => 0) (fun _ _ _ => 0) (14, 0) (19, 0)) : Claimed_1_1 ∧ Claimed_1_2 := ⟨lw_limb hsd hI0 limb_1_1 (fun args s t => by simp [limb_1_1, Cond.after, Cond.holds, Cond.value]), lw_limb hsd hI0 limb_1_2 (fun args s t => Cond.after_iff.mpr (by
  first | (rw [show limb_1_2 = Cond.eq .result (.int 1) from rfl, Cond.eq_ints (x := 1) (y := 1) rfl rfl]; simp; done) | (simp [limb_1_2, Cond.value, Term.eval]; done)))⟩
