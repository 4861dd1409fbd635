/-! THE LAW'S HELPERS (wip/tools/gen26.py) -/
theorem fm_gW {E : fm_Ev} {d n n' : Nat} {u : fm_Me} {C : fm_C} {y : MethodName} {v : Option fm_V} {M' : fm_M} (hn : n ≤ n') (k : fm_Go E d u n C (fm_Zr E v M')) : fm_Go E d u n' C (fm_Zn y (fm_Zr E v M')) := by
  intro p e R s m args below meth c A cells slots X hr hA h1 h2 h3 h4 H locs ls hP hS hl hv T hT XS
  obtain ⟨t, a1, o, b1, b2, b3, L, b4, b5⟩ := k p e R s m args below meth c A cells slots X hr hA h1 h2 (by omega) (by omega) H locs ls hP hS hl hv T hT XS
  exact ⟨t, a1, fun _ => ⟨o, b1, b2, b3, L, ⟨b4.1, b4.2.1, b4.2.2.mono (by omega) (by omega)⟩, b5⟩⟩
theorem fm_g0n {E : fm_Ev} {d n : Nat} {u : fm_Me} {C : fm_C} {y : MethodName} {Z : fm_ZT} (k : fm_Go E d u n C Z) : fm_Go E d u n C (fm_Zn y Z) := fm_gZ (fun _ _ _ _ _ _ _ h _ => h) k
theorem fm_0in1 : vp_in 0 1 := by unfold vp_in; decide
def fm_hw (hs : List (Nat × Nat × Nat × Nat)) (pc t h : Nat) : Prop := fm_hf "FlatModuleLaw" (fm_xn t) pc hs h
theorem fm_k13 : Cond.classLink "FlatModuleLaw" 13 "java/lang/IllegalArgumentException" ∈ fm_TB := fm_tb (List.mem_of_getElem? (i := 351) (by decide +kernel)) rfl
theorem fm_k19 : Cond.classLink "FlatModuleLaw" 19 "java/lang/IllegalStateException" ∈ fm_TB := fm_tb (List.mem_of_getElem? (i := 427) (by decide +kernel)) rfl
theorem fm_k29 : Cond.classLink "FlatModuleLaw" 29 "java/lang/ArithmeticException" ∈ fm_TB := fm_tb (List.mem_of_getElem? (i := 465) (by decide +kernel)) rfl
theorem fm_k31 : Cond.classLink "FlatModuleLaw" 31 "java/lang/UnsupportedOperationException" ∈ fm_TB := fm_tb (List.mem_of_getElem? (i := 466) (by decide +kernel)) rfl
theorem fm_cc1 : ∀ (A : Nat → Prop) (U : State) (H : Heap), fm_nw A U H → va_Nw (.castable (fm_xn 1) (fm_xn 1)) U := fun _ _ _ h => h.2.1
theorem fm_cc2 : ∀ (A : Nat → Prop) (U : State) (H : Heap), fm_nw A U H → va_Nw (.castable (fm_xn 2) (fm_xn 2)) U := fun _ _ _ h => h.2.2.1
theorem fm_cc3 : ∀ (A : Nat → Prop) (U : State) (H : Heap), fm_nw A U H → va_Nw (.castable (fm_xn 3) (fm_xn 3)) U := fun _ _ _ h => h.2.2.2.1
theorem fm_cc4 : ∀ (A : Nat → Prop) (U : State) (H : Heap), fm_nw A U H → va_Nw (.castable (fm_xn 4) (fm_xn 4)) U := fun _ _ _ h => h.2.2.2.2.1

abbrev fmL_function_h : List (Nat × Nat × Nat × Nat) := [(0, 11, 14, 13)]
theorem fmL_function_w : fm_mokw fmL_function fmL_function_h := ⟨fmL_function_o, fm_tb (List.mem_of_getElem? (i := 350) (by decide +kernel)) rfl, fm_tb (List.mem_of_getElem? (i := 0) (by decide +kernel)) rfl, rfl, by decide +kernel, by decide, rfl⟩
set_option maxHeartbeats 4000000 in
theorem fmL_function_c {E : fm_Ev} (hl : E.1.stackTraces = false) {d : Nat} (hd : 7 ≤ d) (I : fm_MI) (J : fm_MJ) (G : fm_MG) (pa pb : Nat × Nat) (f : Int32) (n : Int32) (m : Int32) (tp : Int32) (rs : Int32) (hp : fmF_function_p I J G pa pb f n m tp rs) (ht : (fmF_function_f I J G pa pb f n m tp rs).1 ≤ 1) : fm_Cw E d fmL_function fmL_function_h 1 [.inr (.inr (.inr (.inr (0, 0)))), .inl f, .inl n, .inl m, .inl tp, .inl rs] (I, J, G, fm_P pa pb) (some (.inl (Int32.ofNat (fmF_function_f I J G pa pb f n m tp rs).1))) (if (fmF_function_f I J G pa pb f n m tp rs).1 = 0 then ((fmF_function_f I J G pa pb f n m tp rs).2, J, G, fm_P pa pb) else ((fmF_function_f I J G pa pb f n m tp rs).2, J, G, fm_P pa pb)) := by
  obtain ⟨d, rfl⟩ : ∃ d0, d = d0 + 1 := ⟨d - 1, by omega⟩
  refine fm_cw fmL_function_w hl (Nat.le_of_ble_eq_true rfl) ?_
  have O := fmL_function_o
  have K := fmF_function_c (E := E) hl (d := d) (by omega) I J G pa pb f n m tp rs hp
  refine fm_gr O 6 (C' := (8, [(0, .inr (.inr (.inr (.inr (0, 0))))), (1, .inl f), (2, .inl n), (3, .inl m), (4, .inl tp), (5, .inl rs)], [.inl rs, .inl tp, .inl m, .inl n, .inl f, .inr (.inr (.inr (.inr (0, 0))))], (I, J, G, fm_P pa pb))) rfl ?_
  generalize hF : fmF_function_f I J G pa pb f n m tp rs = F at K ht ⊢
  by_cases h0 : F.1 = 0
  · rw [if_pos h0, h0]
    refine fm_gW (Nat.zero_le 1) ?_
    refine fm_cV0 (as := [.inl f, .inl n, .inl m, .inl tp, .inl rs]) (rest := []) O fmF_function_o rfl fk_8_7 rfl (by decide) fn_F_function (by decide) (K.1 h0) ?_
    refine fm_gr O 2 (C' := (19, _, [.inl 0], _)) rfl ?_
    exact fm_gRe O rfl trivial rfl rfl
  · rw [if_neg h0]
    have hc : F.1 = 1 := by omega
    have K2 := K.2 h0
    rw [hc] at K2 ⊢
    refine fm_xC (n1 := 1) (n := 0) (as := [.inl f, .inl n, .inl m, .inl tp, .inl rs]) (rest := []) fmL_function_w fmF_function_o rfl fk_8_7 rfl (by decide) fn_F_function (by decide) K2 fm_cc1 ⟨⟨by decide, by decide, by decide⟩, "java/lang/IllegalArgumentException", fm_k13, Or.inl ⟨rfl, rfl⟩⟩ (ij := .astore 6) (j := 6) rfl (Or.inl rfl) (by decide) ?_
    refine fm_g0n ?_
    refine fm_gr O 1 (C' := (17, [], [.inl 1], _)) rfl ?_
    exact fm_gRe O rfl trivial rfl rfl
abbrev fmL_emit_h : List (Nat × Nat × Nat × Nat) := [(0, 12, 15, 13), (0, 12, 19, 19)]
theorem fmL_emit_w : fm_mokw fmL_emit fmL_emit_h := ⟨fmL_emit_o, fm_tb (List.mem_of_getElem? (i := 426) (by decide +kernel)) rfl, fm_tb (List.mem_of_getElem? (i := 0) (by decide +kernel)) rfl, rfl, by decide +kernel, by decide, rfl⟩
set_option maxHeartbeats 4000000 in
theorem fmL_emit_c {E : fm_Ev} (hl : E.1.stackTraces = false) {d : Nat} (hd : 7 ≤ d) (I : fm_MI) (J : fm_MJ) (G : fm_MG) (pa pb : Nat × Nat) (f : Int32) (op : Int32) (aa : Int32) (hp : fmF_emit_p I f op aa) (ht : (fmF_emit_f I f op aa).1 ≤ 2) : fm_Cw E d fmL_emit fmL_emit_h 1 [.inr (.inr (.inr (.inr (0, 0)))), .inl f, .inl op, .inl aa, .inr (.inr (.inr (.inr (48, 0))))] (I, J, G, fm_P pa pb) (some (.inl (Int32.ofNat (fmF_emit_f I f op aa).1))) (if (fmF_emit_f I f op aa).1 = 0 then ((fmF_emit_f I f op aa).2.2, fm_u J 48 0 0 ((fmF_emit_f I f op aa).2.1).toInt64, G, fm_P pa pb) else ((fmF_emit_f I f op aa).2.2, J, G, fm_P pa pb)) := by
  obtain ⟨d, rfl⟩ : ∃ d0, d = d0 + 1 := ⟨d - 1, by omega⟩
  refine fm_cw fmL_emit_w hl (Nat.le_of_ble_eq_true rfl) ?_
  have O := fmL_emit_o
  have K := fmF_emit_c (E := E) hl (d := d) (by omega) I J G pa pb f op aa hp
  refine fm_gr O 6 (C' := (7, [(0, .inr (.inr (.inr (.inr (0, 0))))), (1, .inl f), (2, .inl op), (3, .inl aa), (4, .inr (.inr (.inr (.inr (48, 0)))))], [.inl aa, .inl op, .inl f, .inr (.inr (.inr (.inr (0, 0)))), .inl 0, .inr (.inr (.inr (.inr (48, 0))))], (I, J, G, fm_P pa pb))) rfl ?_
  generalize hF : fmF_emit_f I f op aa = F at K ht ⊢
  by_cases h0 : F.1 = 0
  · rw [if_pos h0, h0]
    refine fm_gW (Nat.zero_le 1) ?_
    refine fm_cV0 (as := [.inl f, .inl op, .inl aa]) (rest := [.inl 0, .inr (.inr (.inr (.inr (48, 0))))]) O fmF_emit_o rfl fk_8_15 rfl (by decide) fn_F_emit (by decide) (K.1 h0) ?_
    refine fm_gr O 1 rfl ?_
    refine fm_gg O rfl fm_0in1 ?_
    refine fm_gr O 2 (C' := (24, _, [.inl 0], _)) rfl ?_
    exact fm_gRe O rfl trivial rfl rfl
  · rw [if_neg h0]
    have hc : F.1 = 1 ∨ F.1 = 2 := by omega
    rcases hc with hc | hc
    · have K2 := K.2 h0
      rw [hc] at K2 ⊢
      refine fm_xC (n1 := 1) (n := 0) (as := [.inl f, .inl op, .inl aa]) (rest := [.inl 0, .inr (.inr (.inr (.inr (48, 0))))]) fmL_emit_w fmF_emit_o rfl fk_8_15 rfl (by decide) fn_F_emit (by decide) K2 fm_cc1 ⟨⟨by decide, by decide, by decide⟩, "java/lang/IllegalArgumentException", fm_k13, Or.inl ⟨rfl, rfl⟩⟩ (ij := .astore 5) (j := 5) rfl (Or.inl rfl) (by decide) ?_
      refine fm_g0n ?_
      refine fm_gr O 1 (C' := (18, [], [.inl 1], _)) rfl ?_
      exact fm_gRe O rfl trivial rfl rfl
    · have K2 := K.2 h0
      rw [hc] at K2 ⊢
      refine fm_xC (n1 := 1) (n := 0) (as := [.inl f, .inl op, .inl aa]) (rest := [.inl 0, .inr (.inr (.inr (.inr (48, 0))))]) fmL_emit_w fmF_emit_o rfl fk_8_15 rfl (by decide) fn_F_emit (by decide) K2 fm_cc2 ⟨⟨by decide, by decide, by decide⟩, "java/lang/IllegalArgumentException", fm_k13, Or.inr ⟨fun U h => h.1, ⟨⟨by decide, by decide, by decide⟩, "java/lang/IllegalStateException", fm_k19, Or.inl ⟨rfl, rfl⟩⟩⟩⟩ (ij := .astore 5) (j := 5) rfl (Or.inl rfl) (by decide) ?_
      refine fm_g0n ?_
      refine fm_gr O 1 (C' := (22, [], [.inl 2], _)) rfl ?_
      exact fm_gRe O rfl trivial rfl rfl
abbrev fmL_erase_h : List (Nat × Nat × Nat × Nat) := [(0, 5, 8, 13)]
theorem fmL_erase_w : fm_mokw fmL_erase fmL_erase_h := ⟨fmL_erase_o, fm_tb (List.mem_of_getElem? (i := 457) (by decide +kernel)) rfl, fm_tb (List.mem_of_getElem? (i := 0) (by decide +kernel)) rfl, rfl, by decide +kernel, by decide, rfl⟩
set_option maxHeartbeats 4000000 in
theorem fmL_erase_c {E : fm_Ev} (hl : E.1.stackTraces = false) {d : Nat} (hd : 7 ≤ d) (I : fm_MI) (J : fm_MJ) (G : fm_MG) (pa pb : Nat × Nat) (f : Int32) (hp : fmF_erase_p I f) (ht : (fmF_erase_f I f).1 ≤ 1) : fm_Cw E d fmL_erase fmL_erase_h 1 [.inr (.inr (.inr (.inr (0, 0)))), .inl f] (I, J, G, fm_P pa pb) (some (.inl (Int32.ofNat (fmF_erase_f I f).1))) (if (fmF_erase_f I f).1 = 0 then ((fmF_erase_f I f).2, J, G, fm_P pa pb) else ((fmF_erase_f I f).2, J, G, fm_P pa pb)) := by
  obtain ⟨d, rfl⟩ : ∃ d0, d = d0 + 1 := ⟨d - 1, by omega⟩
  refine fm_cw fmL_erase_w hl (Nat.le_of_ble_eq_true rfl) ?_
  have O := fmL_erase_o
  have K := fmF_erase_c (E := E) hl (d := d) (by omega) I J G pa pb f hp
  refine fm_gr O 2 (C' := (2, [(0, .inr (.inr (.inr (.inr (0, 0))))), (1, .inl f)], [.inl f, .inr (.inr (.inr (.inr (0, 0))))], (I, J, G, fm_P pa pb))) rfl ?_
  generalize hF : fmF_erase_f I f = F at K ht ⊢
  by_cases h0 : F.1 = 0
  · rw [if_pos h0, h0]
    refine fm_gW (Nat.zero_le 1) ?_
    refine fm_cV0 (as := [.inl f]) (rest := []) O fmF_erase_o rfl fk_8_21 rfl (by decide) fn_F_erase (by decide) (K.1 h0) ?_
    refine fm_gr O 2 (C' := (12, _, [.inl 0], _)) rfl ?_
    exact fm_gRe O rfl trivial rfl rfl
  · rw [if_neg h0]
    have hc : F.1 = 1 := by omega
    have K2 := K.2 h0
    rw [hc] at K2 ⊢
    refine fm_xC (n1 := 1) (n := 0) (as := [.inl f]) (rest := []) fmL_erase_w fmF_erase_o rfl fk_8_21 rfl (by decide) fn_F_erase (by decide) K2 fm_cc1 ⟨⟨by decide, by decide, by decide⟩, "java/lang/IllegalArgumentException", fm_k13, Or.inl ⟨rfl, rfl⟩⟩ (ij := .astore_n 2) (j := 2) rfl (Or.inr ⟨_, rfl, rfl⟩) (by decide) ?_
    refine fm_g0n ?_
    refine fm_gr O 1 (C' := (10, [], [.inl 1], _)) rfl ?_
    exact fm_gRe O rfl trivial rfl rfl
abbrev fmL_run_h : List (Nat × Nat × Nat × Nat) := [(0, 16, 19, 13), (0, 16, 23, 19), (0, 16, 27, 29), (0, 16, 31, 31)]
theorem fmL_run_w : fm_mokw fmL_run fmL_run_h := ⟨fmL_run_o, fm_tb (List.mem_of_getElem? (i := 464) (by decide +kernel)) rfl, fm_tb (List.mem_of_getElem? (i := 0) (by decide +kernel)) rfl, rfl, by decide +kernel, by decide, rfl⟩
set_option maxHeartbeats 4000000 in
theorem fmL_run_c {E : fm_Ev} (hl : E.1.stackTraces = false) {d : Nat} (hd : 13 ≤ d) (I : fm_MI) (J : fm_MJ) (G : fm_MG) (pa pb : Nat × Nat) (f : Int32) (x : UInt64) (y : UInt64) (z : UInt64) (fu : Int32) (hp : fmF_run_p I J G pa f x y z fu) (ht : (fmF_run_f I J G pa pb f x y z fu).1 ≤ 4) : fm_Cw E d fmL_run fmL_run_h 1 [.inr (.inr (.inr (.inr (0, 0)))), .inl f, .inr (.inr (.inr (.inl x))), .inr (.inr (.inr (.inl y))), .inr (.inr (.inr (.inl z))), .inl fu, .inr (.inr (.inr (.inr (49, 0))))] (I, J, G, fm_P pa pb) (some (.inl (Int32.ofNat (fmF_run_f I J G pa pb f x y z fu).1))) (if (fmF_run_f I J G pa pb f x y z fu).1 = 0 then ((fmF_run_f I J G pa pb f x y z fu).2.2.1, (fmF_run_f I J G pa pb f x y z fu).2.2.2.1, fm_u (fmF_run_f I J G pa pb f x y z fu).2.2.2.2.1 49 0 0 (fmF_run_f I J G pa pb f x y z fu).2.1, fm_P pa (fmF_run_f I J G pa pb f x y z fu).2.2.2.2.2) else ((fmF_run_f I J G pa pb f x y z fu).2.2.1, (fmF_run_f I J G pa pb f x y z fu).2.2.2.1, (fmF_run_f I J G pa pb f x y z fu).2.2.2.2.1, fm_P pa (fmF_run_f I J G pa pb f x y z fu).2.2.2.2.2)) := by
  obtain ⟨d, rfl⟩ : ∃ d0, d = d0 + 1 := ⟨d - 1, by omega⟩
  refine fm_cw fmL_run_w hl (Nat.le_of_ble_eq_true rfl) ?_
  have O := fmL_run_o
  have K := fmF_run_c (E := E) hl (d := d) (by omega) I J G pa pb f x y z fu hp
  refine fm_gr O 8 (C' := (12, [(0, .inr (.inr (.inr (.inr (0, 0))))), (1, .inl f), (2, .inr (.inr (.inr (.inl x)))), (4, .inr (.inr (.inr (.inl y)))), (6, .inr (.inr (.inr (.inl z)))), (8, .inl fu), (9, .inr (.inr (.inr (.inr (49, 0)))))], [.inl fu, .inr (.inr (.inr (.inl z))), .inr (.inr (.inr (.inl y))), .inr (.inr (.inr (.inl x))), .inl f, .inr (.inr (.inr (.inr (0, 0)))), .inl 0, .inr (.inr (.inr (.inr (49, 0))))], (I, J, G, fm_P pa pb))) rfl ?_
  generalize hF : fmF_run_f I J G pa pb f x y z fu = F at K ht ⊢
  by_cases h0 : F.1 = 0
  · rw [if_pos h0, h0]
    refine fm_gW (Nat.zero_le 1) ?_
    refine fm_cV0 (as := [.inl f, .inr (.inr (.inr (.inl x))), .inr (.inr (.inr (.inl y))), .inr (.inr (.inr (.inl z))), .inl fu]) (rest := [.inl 0, .inr (.inr (.inr (.inr (49, 0))))]) O fmF_run_o rfl fk_8_25 rfl (by decide) fn_F_run (by decide) (K.1 h0) ?_
    refine fm_gg O rfl fm_0in1 ?_
    refine fm_gr O 2 (C' := (36, _, [.inl 0], _)) rfl ?_
    exact fm_gRe O rfl trivial rfl rfl
  · rw [if_neg h0]
    have hc : F.1 = 1 ∨ F.1 = 2 ∨ F.1 = 3 ∨ F.1 = 4 := by omega
    rcases hc with hc | hc | hc | hc
    · have K2 := K.2 h0
      rw [hc] at K2 ⊢
      refine fm_xC (n1 := 1) (n := 0) (as := [.inl f, .inr (.inr (.inr (.inl x))), .inr (.inr (.inr (.inl y))), .inr (.inr (.inr (.inl z))), .inl fu]) (rest := [.inl 0, .inr (.inr (.inr (.inr (49, 0))))]) fmL_run_w fmF_run_o rfl fk_8_25 rfl (by decide) fn_F_run (by decide) K2 fm_cc1 ⟨⟨by decide, by decide, by decide⟩, "java/lang/IllegalArgumentException", fm_k13, Or.inl ⟨rfl, rfl⟩⟩ (ij := .astore 10) (j := 10) rfl (Or.inl rfl) (by decide) ?_
      refine fm_g0n ?_
      refine fm_gr O 1 (C' := (22, [], [.inl 1], _)) rfl ?_
      exact fm_gRe O rfl trivial rfl rfl
    · have K2 := K.2 h0
      rw [hc] at K2 ⊢
      refine fm_xC (n1 := 1) (n := 0) (as := [.inl f, .inr (.inr (.inr (.inl x))), .inr (.inr (.inr (.inl y))), .inr (.inr (.inr (.inl z))), .inl fu]) (rest := [.inl 0, .inr (.inr (.inr (.inr (49, 0))))]) fmL_run_w fmF_run_o rfl fk_8_25 rfl (by decide) fn_F_run (by decide) K2 fm_cc2 ⟨⟨by decide, by decide, by decide⟩, "java/lang/IllegalArgumentException", fm_k13, Or.inr ⟨fun U h => h.1, ⟨⟨by decide, by decide, by decide⟩, "java/lang/IllegalStateException", fm_k19, Or.inl ⟨rfl, rfl⟩⟩⟩⟩ (ij := .astore 10) (j := 10) rfl (Or.inl rfl) (by decide) ?_
      refine fm_g0n ?_
      refine fm_gr O 1 (C' := (26, [], [.inl 2], _)) rfl ?_
      exact fm_gRe O rfl trivial rfl rfl
    · have K2 := K.2 h0
      rw [hc] at K2 ⊢
      refine fm_xC (n1 := 1) (n := 0) (as := [.inl f, .inr (.inr (.inr (.inl x))), .inr (.inr (.inr (.inl y))), .inr (.inr (.inr (.inl z))), .inl fu]) (rest := [.inl 0, .inr (.inr (.inr (.inr (49, 0))))]) fmL_run_w fmF_run_o rfl fk_8_25 rfl (by decide) fn_F_run (by decide) K2 fm_cc3 ⟨⟨by decide, by decide, by decide⟩, "java/lang/IllegalArgumentException", fm_k13, Or.inr ⟨fun U h => h.2.1, ⟨⟨by decide, by decide, by decide⟩, "java/lang/IllegalStateException", fm_k19, Or.inr ⟨fun U h => h.2.2.1, ⟨⟨by decide, by decide, by decide⟩, "java/lang/ArithmeticException", fm_k29, Or.inl ⟨rfl, rfl⟩⟩⟩⟩⟩⟩ (ij := .astore 10) (j := 10) rfl (Or.inl rfl) (by decide) ?_
      refine fm_g0n ?_
      refine fm_gr O 1 (C' := (30, [], [.inl 3], _)) rfl ?_
      exact fm_gRe O rfl trivial rfl rfl
    · have K2 := K.2 h0
      rw [hc] at K2 ⊢
      refine fm_xC (n1 := 1) (n := 0) (as := [.inl f, .inr (.inr (.inr (.inl x))), .inr (.inr (.inr (.inl y))), .inr (.inr (.inr (.inl z))), .inl fu]) (rest := [.inl 0, .inr (.inr (.inr (.inr (49, 0))))]) fmL_run_w fmF_run_o rfl fk_8_25 rfl (by decide) fn_F_run (by decide) K2 fm_cc4 ⟨⟨by decide, by decide, by decide⟩, "java/lang/IllegalArgumentException", fm_k13, Or.inr ⟨fun U h => h.2.2.2.1, ⟨⟨by decide, by decide, by decide⟩, "java/lang/IllegalStateException", fm_k19, Or.inr ⟨fun U h => h.2.2.2.2.1, ⟨⟨by decide, by decide, by decide⟩, "java/lang/ArithmeticException", fm_k29, Or.inr ⟨fun U h => h.2.2.2.2.2, ⟨⟨by decide, by decide, by decide⟩, "java/lang/UnsupportedOperationException", fm_k31, Or.inl ⟨rfl, rfl⟩⟩⟩⟩⟩⟩⟩⟩ (ij := .astore 10) (j := 10) rfl (Or.inl rfl) (by decide) ?_
      refine fm_g0n ?_
      refine fm_gr O 1 (C' := (34, [], [.inl 4], _)) rfl ?_
      exact fm_gRe O rfl trivial rfl rfl
abbrev fmL_global_h : List (Nat × Nat × Nat × Nat) := [(0, 8, 11, 13)]
theorem fmL_global_w : fm_mokw fmL_global fmL_global_h := ⟨fmL_global_o, fm_tb (List.mem_of_getElem? (i := 607) (by decide +kernel)) rfl, fm_tb (List.mem_of_getElem? (i := 0) (by decide +kernel)) rfl, rfl, by decide +kernel, by decide, rfl⟩
set_option maxHeartbeats 4000000 in
theorem fmL_global_c {E : fm_Ev} (hl : E.1.stackTraces = false) {d : Nat} (hd : 7 ≤ d) (I : fm_MI) (J : fm_MJ) (G : fm_MG) (pa pb : Nat × Nat) (g : Int32) (hp : fmF_global_p g) (ht : (fmF_global_f J G g).1 ≤ 1) : fm_Cw E d fmL_global fmL_global_h 1 [.inr (.inr (.inr (.inr (0, 0)))), .inl g, .inr (.inr (.inr (.inr (49, 0))))] (I, J, G, fm_P pa pb) (some (.inl (Int32.ofNat (fmF_global_f J G g).1))) (if (fmF_global_f J G g).1 = 0 then (I, J, fm_u G 49 0 0 (fmF_global_f J G g).2, fm_P pa pb) else (I, J, G, fm_P pa pb)) := by
  obtain ⟨d, rfl⟩ : ∃ d0, d = d0 + 1 := ⟨d - 1, by omega⟩
  refine fm_cw fmL_global_w hl (Nat.le_of_ble_eq_true rfl) ?_
  have O := fmL_global_o
  have K := fmF_global_c (E := E) hl (d := d) (by omega) I J G pa pb g hp
  refine fm_gr O 4 (C' := (4, [(0, .inr (.inr (.inr (.inr (0, 0))))), (1, .inl g), (2, .inr (.inr (.inr (.inr (49, 0)))))], [.inl g, .inr (.inr (.inr (.inr (0, 0)))), .inl 0, .inr (.inr (.inr (.inr (49, 0))))], (I, J, G, fm_P pa pb))) rfl ?_
  generalize hF : fmF_global_f J G g = F at K ht ⊢
  by_cases h0 : F.1 = 0
  · rw [if_pos h0, h0]
    refine fm_gW (Nat.zero_le 1) ?_
    refine fm_cV0 (as := [.inl g]) (rest := [.inl 0, .inr (.inr (.inr (.inr (49, 0))))]) O fmF_global_o rfl fk_8_33 rfl (by decide) fn_F_global (by decide) (K.1 h0) ?_
    refine fm_gg O rfl fm_0in1 ?_
    refine fm_gr O 2 (C' := (15, _, [.inl 0], _)) rfl ?_
    exact fm_gRe O rfl trivial rfl rfl
  · rw [if_neg h0]
    have hc : F.1 = 1 := by omega
    have K2 := K.2 h0
    rw [hc] at K2 ⊢
    refine fm_xC (n1 := 1) (n := 0) (as := [.inl g]) (rest := [.inl 0, .inr (.inr (.inr (.inr (49, 0))))]) fmL_global_w fmF_global_o rfl fk_8_33 rfl (by decide) fn_F_global (by decide) K2 fm_cc1 ⟨⟨by decide, by decide, by decide⟩, "java/lang/IllegalArgumentException", fm_k13, Or.inl ⟨rfl, rfl⟩⟩ (ij := .astore_n 3) (j := 3) rfl (Or.inr ⟨_, rfl, rfl⟩) (by decide) ?_
    refine fm_g0n ?_
    refine fm_gr O 1 (C' := (13, [], [.inl 1], _)) rfl ?_
    exact fm_gRe O rfl trivial rfl rfl
