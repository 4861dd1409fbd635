/-! stores -/
def fm_stB (nL : Nat) (ins : Instr) (pc : Nat) (l : List (Nat × fm_V)) (st : List fm_V) (M : fm_M) : Option fm_C :=
  match ins with
  | .istore_n n => match st with
    | .inl x :: r => cond (Nat.blt n nL) (some (pc + 1, fm_set1 l n (.inl x), r, M)) none
    | _ => none
  | .istore n => match st with
    | .inl x :: r => cond (Nat.blt n nL) (some (pc + 2, fm_set1 l n (.inl x), r, M)) none
    | _ => none
  | .astore_n n => match st with
    | .inr (.inr (.inr (.inr x))) :: r => cond (Nat.blt n nL) (some (pc + 1, fm_set1 l n (.inr (.inr (.inr (.inr x)))), r, M)) none
    | _ => none
  | .astore n => match st with
    | .inr (.inr (.inr (.inr x))) :: r => cond (Nat.blt n nL) (some (pc + 2, fm_set1 l n (.inr (.inr (.inr (.inr x)))), r, M)) none
    | _ => none
  | .lstore_n n => match st with
    | .inr (.inl x) :: r => cond (Nat.blt (n + 1) nL) (some (pc + 1, fm_set2 l n (.inr (.inl x)), r, M)) none
    | _ => none
  | .lstore n => match st with
    | .inr (.inl x) :: r => cond (Nat.blt (n + 1) nL) (some (pc + 2, fm_set2 l n (.inr (.inl x)), r, M)) none
    | _ => none
  | .dstore_n n => match st with
    | .inr (.inr (.inr (.inl x))) :: r => cond (Nat.blt (n + 1) nL) (some (pc + 1, fm_set2 l n (.inr (.inr (.inr (.inl x)))), r, M)) none
    | _ => none
  | .dstore n => match st with
    | .inr (.inr (.inr (.inl x))) :: r => cond (Nat.blt (n + 1) nL) (some (pc + 2, fm_set2 l n (.inr (.inr (.inr (.inl x)))), r, M)) none
    | _ => none
  | .iinc n v => match fm_lk l n with
    | some (.inl x) => cond (Nat.blt n nL) (some (pc + 3, fm_set1 l n (.inl (x + Int32.ofInt v)), st, M)) none
    | _ => none
  | _ => none
theorem fm_vd_set1 {pc pc' : Nat} {l : List (Nat × fm_V)} {st st' : List fm_V} {M : fm_M} (h : fm_vd (pc, l, st, M)) {n : Nat} {v : fm_V} (hv : fm_ok v) (hs : ∀ w ∈ st', w ∈ st) : fm_vd (pc', fm_set1 l n v, st', M) :=
  ⟨fun q hq => (List.mem_cons.mp hq).elim (fun e => by rw [e]; exact hv) (fun h2 => h.1 q (List.mem_filter.mp h2).1), fun w hw => h.2.1 w (hs w hw), h.2.2⟩
theorem fm_vd_set2 {pc pc' : Nat} {l : List (Nat × fm_V)} {st st' : List fm_V} {M : fm_M} (h : fm_vd (pc, l, st, M)) {n : Nat} {v : fm_V} (hv : fm_ok v) (hs : ∀ w ∈ st', w ∈ st) : fm_vd (pc', fm_set2 l n v, st', M) :=
  ⟨fun q hq => (List.mem_cons.mp hq).elim (fun e => by rw [e]; exact hv) (fun h2 => h.1 q (List.mem_filter.mp h2).1), fun w hw => h.2.1 w (hs w hw), h.2.2⟩
theorem fm_lk_ix {l : List (Nat × fm_V)} {ad : fm_A} {n : Nat} {v : fm_V} (h : fm_lk l n = some v) : ∃ k : Nat, (fm_cl ad l)[k]? = some (n, fm_cv ad v) :=
  List.getElem?_of_mem (List.mem_map.mpr ⟨(n, v), fm_lk_mem h, rfl⟩)
section StB
variable {l : Launch} {D : va_G} {cA : Nat → ClassId} {ad : fm_A} {L : Nat} {xs : Nat → Int32} {oc : Nat} {cc : ByteArray} {nL : Nat} {p : Program} {e : Env} {R : Room} {s : State} {m : MethodId} {args : Array Value} {below : List Frame} {meth : Method} {c : Code} {A : Nat → Prop} {Q : State → Prop} {cells slots : Nat}
set_option maxHeartbeats 2000000 in
theorem fm_soB (X : fm_cx l D cA ad L xs oc cc nL p s m args meth c A) {ins : Instr} {pc : Nat} {lo : List (Nat × fm_V)} {st : List fm_V} {M : fm_M} {C' : fm_C} (hd : decode cc pc = .ok (ins, fm_ln ins)) (h : fm_stB nL ins pc lo st M = some C')
    (k : fm_ww l D cA ad nL p e R s m args below meth c A Q cells slots C') : fm_ww l D cA ad nL p e R s m args below meth c A Q cells slots (pc, lo, st, M) := by
  obtain ⟨hx, hb, -, hown, hts, -⟩ := X
  intro H locs ls hP hS hl hv
  cases ins
  case istore_n n =>
    simp only [fm_stB] at h
    split at h
    · next x r =>
      cases hb2 : Nat.blt n nL with
      | false => rw [hb2] at h; cases h
      | true =>
        rw [hb2] at h
        cases h
        refine lv_istore_n hx hb hd rfl hl (Nat.le_of_ble_eq_true hb2) (fm_set1_cl ad lo n (.inl x)) (fun ls hl => ?_)
        exact k H locs ls hP hS hl (fm_vd_set1 hv trivial (fun w hw => List.mem_cons_of_mem _ hw))
    · cases h
  case istore n =>
    simp only [fm_stB] at h
    split at h
    · next x r =>
      cases hb2 : Nat.blt n nL with
      | false => rw [hb2] at h; cases h
      | true =>
        rw [hb2] at h
        cases h
        refine lv_istore hx hb hd hl (Nat.le_of_ble_eq_true hb2) (fm_set1_cl ad lo n (.inl x)) (fun ls hl => ?_)
        exact k H locs ls hP hS hl (fm_vd_set1 hv trivial (fun w hw => List.mem_cons_of_mem _ hw))
    · cases h
  case astore_n n =>
    simp only [fm_stB] at h
    split at h
    · next x r =>
      cases hb2 : Nat.blt n nL with
      | false => rw [hb2] at h; cases h
      | true =>
        rw [hb2] at h
        cases h
        refine lv_astore_n hx hb hd rfl hl (Nat.le_of_ble_eq_true hb2) (fm_set1_cl ad lo n (.inr (.inr (.inr (.inr x))))) (fun ls hl => ?_)
        exact k H locs ls hP hS hl (fm_vd_set1 hv (hv.2.1 _ List.mem_cons_self) (fun w hw => List.mem_cons_of_mem _ hw))
    · cases h
  case astore n =>
    simp only [fm_stB] at h
    split at h
    · next x r =>
      cases hb2 : Nat.blt n nL with
      | false => rw [hb2] at h; cases h
      | true =>
        rw [hb2] at h
        cases h
        refine lv_astore hx hb hd hl (Nat.le_of_ble_eq_true hb2) (fm_set1_cl ad lo n (.inr (.inr (.inr (.inr x))))) (fun ls hl => ?_)
        exact k H locs ls hP hS hl (fm_vd_set1 hv (hv.2.1 _ List.mem_cons_self) (fun w hw => List.mem_cons_of_mem _ hw))
    · cases h
  case lstore_n n =>
    simp only [fm_stB] at h
    split at h
    · next x r =>
      cases hb2 : Nat.blt (n + 1) nL with
      | false => rw [hb2] at h; cases h
      | true =>
        rw [hb2] at h
        cases h
        refine lv_lstore_n hx hb hd rfl hl (Nat.le_of_ble_eq_true hb2) (fm_set2_cl ad lo n (.inr (.inl x))) (fun ls hl => ?_)
        exact k H locs ls hP hS hl (fm_vd_set2 hv trivial (fun w hw => List.mem_cons_of_mem _ hw))
    · cases h
  case lstore n =>
    simp only [fm_stB] at h
    split at h
    · next x r =>
      cases hb2 : Nat.blt (n + 1) nL with
      | false => rw [hb2] at h; cases h
      | true =>
        rw [hb2] at h
        cases h
        refine lv_lstore hx hb hd hl (Nat.le_of_ble_eq_true hb2) (fm_set2_cl ad lo n (.inr (.inl x))) (fun ls hl => ?_)
        exact k H locs ls hP hS hl (fm_vd_set2 hv trivial (fun w hw => List.mem_cons_of_mem _ hw))
    · cases h
  case dstore_n n =>
    simp only [fm_stB] at h
    split at h
    · next x r =>
      cases hb2 : Nat.blt (n + 1) nL with
      | false => rw [hb2] at h; cases h
      | true =>
        rw [hb2] at h
        cases h
        refine lv_dstore_n hx hb hd rfl hl (Nat.le_of_ble_eq_true hb2) (fm_set2_cl ad lo n (.inr (.inr (.inr (.inl x))))) (fun ls hl => ?_)
        exact k H locs ls hP hS hl (fm_vd_set2 hv trivial (fun w hw => List.mem_cons_of_mem _ hw))
    · cases h
  case dstore n =>
    simp only [fm_stB] at h
    split at h
    · next x r =>
      cases hb2 : Nat.blt (n + 1) nL with
      | false => rw [hb2] at h; cases h
      | true =>
        rw [hb2] at h
        cases h
        refine lv_dstore hx hb hd hl (Nat.le_of_ble_eq_true hb2) (fm_set2_cl ad lo n (.inr (.inr (.inr (.inl x))))) (fun ls hl => ?_)
        exact k H locs ls hP hS hl (fm_vd_set2 hv trivial (fun w hw => List.mem_cons_of_mem _ hw))
    · cases h
  case iinc n v =>
    simp only [fm_stB] at h
    split at h
    · next x hk =>
      cases hb2 : Nat.blt n nL with
      | false => rw [hb2] at h; cases h
      | true =>
        rw [hb2] at h
        cases h
        obtain ⟨j, hj⟩ := fm_lk_ix (ad := ad) hk
        refine lv_iinc hx hb hd hl hj rfl (Nat.le_of_ble_eq_true hb2) (fm_set1_cl ad lo n (.inl (x + Int32.ofInt v))) (fun ls hl => ?_)
        exact k H locs ls hP hS hl (fm_vd_set1 hv trivial (fun w hw => hw))
    · cases h
  all_goals (simp only [fm_stB] at h; exact nomatch h)
end StB
/-! arithmetic that asks nothing, stack moves, goto -/
def fm_stC (ins : Instr) (pc : Nat) (l : List (Nat × fm_V)) (st : List fm_V) (M : fm_M) : Option fm_C :=
  match ins with
  | .iadd => match st with
    | .inl y :: .inl x :: r => some (pc + 1, l, .inl (x + y) :: r, M)
    | _ => none
  | .isub => match st with
    | .inl y :: .inl x :: r => some (pc + 1, l, .inl (x - y) :: r, M)
    | _ => none
  | .imul => match st with
    | .inl y :: .inl x :: r => some (pc + 1, l, .inl (x * y) :: r, M)
    | _ => none
  | .iand => match st with
    | .inl y :: .inl x :: r => some (pc + 1, l, .inl (x &&& y) :: r, M)
    | _ => none
  | .ishr => match st with
    | .inl y :: .inl x :: r => some (pc + 1, l, .inl (x >>> (y &&& 31)) :: r, M)
    | _ => none
  | .ladd => match st with
    | .inr (.inl y) :: .inr (.inl x) :: r => some (pc + 1, l, .inr (.inl (x + y)) :: r, M)
    | _ => none
  | .lsub => match st with
    | .inr (.inl y) :: .inr (.inl x) :: r => some (pc + 1, l, .inr (.inl (x - y)) :: r, M)
    | _ => none
  | .lmul => match st with
    | .inr (.inl y) :: .inr (.inl x) :: r => some (pc + 1, l, .inr (.inl (x * y)) :: r, M)
    | _ => none
  | .land => match st with
    | .inr (.inl y) :: .inr (.inl x) :: r => some (pc + 1, l, .inr (.inl (x &&& y)) :: r, M)
    | _ => none
  | .lshl => match st with
    | .inl y :: .inr (.inl x) :: r => some (pc + 1, l, .inr (.inl (x <<< (y.toInt64 &&& 63))) :: r, M)
    | _ => none
  | .lcmp => match st with
    | .inr (.inl y) :: .inr (.inl x) :: r => some (pc + 1, l, .inl (lg_cmp x y) :: r, M)
    | _ => none
  | .i2l => match st with
    | .inl x :: r => some (pc + 1, l, .inr (.inl (x.toInt64)) :: r, M)
    | _ => none
  | .l2i => match st with
    | .inr (.inl x) :: r => some (pc + 1, l, .inl (x.toInt32) :: r, M)
    | _ => none
  | .i2d => match st with
    | .inl x :: r => some (pc + 1, l, .inr (.inr (.inr (.inl (FP.i2d x)))) :: r, M)
    | _ => none
  | .i2f => match st with
    | .inl x :: r => some (pc + 1, l, .inr (.inr (.inl (FP.i2f x))) :: r, M)
    | _ => none
  | .l2d => match st with
    | .inr (.inl x) :: r => some (pc + 1, l, .inr (.inr (.inr (.inl (FP.l2d x)))) :: r, M)
    | _ => none
  | .l2f => match st with
    | .inr (.inl x) :: r => some (pc + 1, l, .inr (.inr (.inl (FP.l2f x))) :: r, M)
    | _ => none
  | .d2i => match st with
    | .inr (.inr (.inr (.inl x))) :: r => some (pc + 1, l, .inl (FP.d2i x) :: r, M)
    | _ => none
  | .d2l => match st with
    | .inr (.inr (.inr (.inl x))) :: r => some (pc + 1, l, .inr (.inl (FP.d2l x)) :: r, M)
    | _ => none
  | .dcmp op => match st with
    | .inr (.inr (.inr (.inl y))) :: .inr (.inr (.inr (.inl x))) :: r => some (pc + 1, l, .inl (Op.cmpValue (FP.dcmp x y) op) :: r, M)
    | _ => none
  | .dup => match st with
    | v :: r => cond (fm_c2 v) none (some (pc + 1, l, v :: v :: r, M))
    | _ => none
  | .pop => match st with
    | v :: r => cond (fm_c2 v) none (some (pc + 1, l, r, M))
    | _ => none
  | .dup_x1 => match st with
    | v :: w :: r => cond (fm_c2 v || fm_c2 w) none (some (pc + 1, l, v :: w :: v :: r, M))
    | _ => none
  | .dup2 => match st with
    | v :: w :: r => cond (fm_c2 v || fm_c2 w) none (some (pc + 1, l, v :: w :: v :: w :: r, M))
    | _ => none
  | .goto off => match (pc : Int) + off with
    | .ofNat t => some (t, l, st, M)
    | .negSucc _ => none
  | _ => none
theorem fm_vd_st {pc pc' : Nat} {l : List (Nat × fm_V)} {st st' : List fm_V} {M : fm_M} (h : fm_vd (pc, l, st, M)) (hs : ∀ w ∈ st', fm_ok w) : fm_vd (pc', l, st', M) := ⟨h.1, hs, h.2.2⟩
theorem fm_c2_1 {ad : fm_A} {v : fm_V} (h : fm_c2 v = false) : (fm_cv ad v).category = 1 := by
  have := fm_cat ad v
  rw [h] at this
  rcases lv_cat (fm_cv ad v) with q | q
  · exact q
  · rw [q] at this
    cases this
section StC
variable {l : Launch} {D : va_G} {cA : Nat → ClassId} {ad : fm_A} {L : Nat} {xs : Nat → Int32} {oc : Nat} {cc : ByteArray} {nL : Nat} {p : Program} {e : Env} {R : Room} {s : State} {m : MethodId} {args : Array Value} {below : List Frame} {meth : Method} {c : Code} {A : Nat → Prop} {Q : State → Prop} {cells slots : Nat}
set_option maxHeartbeats 2000000 in
theorem fm_soC (X : fm_cx l D cA ad L xs oc cc nL p s m args meth c A) {ins : Instr} {pc : Nat} {lo : List (Nat × fm_V)} {st : List fm_V} {M : fm_M} {C' : fm_C} (hd : decode cc pc = .ok (ins, fm_ln ins)) (h : fm_stC ins pc lo st M = some C')
    (k : fm_ww l D cA ad nL p e R s m args below meth c A Q cells slots C') : fm_ww l D cA ad nL p e R s m args below meth c A Q cells slots (pc, lo, st, M) := by
  obtain ⟨hx, hb, -, hown, hts, -⟩ := X
  intro H locs ls hP hS hl hv
  cases ins
  case iadd =>
    simp only [fm_stC] at h
    split at h
    · next y x r =>
      cases h
      exact lv_iadd hx hb hd (k H locs ls hP hS hl (fm_vd_st hv (List.forall_mem_cons.mpr ⟨trivial, fun w hw => hv.2.1 w (List.mem_cons_of_mem _ (List.mem_cons_of_mem _ hw))⟩)))
    · cases h
  case isub =>
    simp only [fm_stC] at h
    split at h
    · next y x r =>
      cases h
      exact lv_isub hx hb hd (k H locs ls hP hS hl (fm_vd_st hv (List.forall_mem_cons.mpr ⟨trivial, fun w hw => hv.2.1 w (List.mem_cons_of_mem _ (List.mem_cons_of_mem _ hw))⟩)))
    · cases h
  case imul =>
    simp only [fm_stC] at h
    split at h
    · next y x r =>
      cases h
      exact lv_imul hx hb hd (k H locs ls hP hS hl (fm_vd_st hv (List.forall_mem_cons.mpr ⟨trivial, fun w hw => hv.2.1 w (List.mem_cons_of_mem _ (List.mem_cons_of_mem _ hw))⟩)))
    · cases h
  case iand =>
    simp only [fm_stC] at h
    split at h
    · next y x r =>
      cases h
      exact lv_iand hx hb hd (k H locs ls hP hS hl (fm_vd_st hv (List.forall_mem_cons.mpr ⟨trivial, fun w hw => hv.2.1 w (List.mem_cons_of_mem _ (List.mem_cons_of_mem _ hw))⟩)))
    · cases h
  case ishr =>
    simp only [fm_stC] at h
    split at h
    · next y x r =>
      cases h
      exact lv_ishr hx hb hd (k H locs ls hP hS hl (fm_vd_st hv (List.forall_mem_cons.mpr ⟨trivial, fun w hw => hv.2.1 w (List.mem_cons_of_mem _ (List.mem_cons_of_mem _ hw))⟩)))
    · cases h
  case ladd =>
    simp only [fm_stC] at h
    split at h
    · next y x r =>
      cases h
      exact lv_ladd hx hb hd (k H locs ls hP hS hl (fm_vd_st hv (List.forall_mem_cons.mpr ⟨trivial, fun w hw => hv.2.1 w (List.mem_cons_of_mem _ (List.mem_cons_of_mem _ hw))⟩)))
    · cases h
  case lsub =>
    simp only [fm_stC] at h
    split at h
    · next y x r =>
      cases h
      exact lv_lsub hx hb hd (k H locs ls hP hS hl (fm_vd_st hv (List.forall_mem_cons.mpr ⟨trivial, fun w hw => hv.2.1 w (List.mem_cons_of_mem _ (List.mem_cons_of_mem _ hw))⟩)))
    · cases h
  case lmul =>
    simp only [fm_stC] at h
    split at h
    · next y x r =>
      cases h
      exact lv_lmul hx hb hd (k H locs ls hP hS hl (fm_vd_st hv (List.forall_mem_cons.mpr ⟨trivial, fun w hw => hv.2.1 w (List.mem_cons_of_mem _ (List.mem_cons_of_mem _ hw))⟩)))
    · cases h
  case land =>
    simp only [fm_stC] at h
    split at h
    · next y x r =>
      cases h
      exact lv_land hx hb hd (k H locs ls hP hS hl (fm_vd_st hv (List.forall_mem_cons.mpr ⟨trivial, fun w hw => hv.2.1 w (List.mem_cons_of_mem _ (List.mem_cons_of_mem _ hw))⟩)))
    · cases h
  case lshl =>
    simp only [fm_stC] at h
    split at h
    · next y x r =>
      cases h
      exact lv_lshl hx hb hd rfl (k H locs ls hP hS hl (fm_vd_st hv (List.forall_mem_cons.mpr ⟨trivial, fun w hw => hv.2.1 w (List.mem_cons_of_mem _ (List.mem_cons_of_mem _ hw))⟩)))
    · cases h
  case lcmp =>
    simp only [fm_stC] at h
    split at h
    · next y x r =>
      cases h
      exact W.lcmp hx hb hd (k H locs ls hP hS hl (fm_vd_st hv (List.forall_mem_cons.mpr ⟨trivial, fun w hw => hv.2.1 w (List.mem_cons_of_mem _ (List.mem_cons_of_mem _ hw))⟩)))
    · cases h
  case i2l =>
    simp only [fm_stC] at h
    split at h
    · next x r =>
      cases h
      exact lv_i2l hx hb hd rfl (k H locs ls hP hS hl (fm_vd_st hv (List.forall_mem_cons.mpr ⟨trivial, fun w hw => hv.2.1 w (List.mem_cons_of_mem _ hw)⟩)))
    · cases h
  case l2i =>
    simp only [fm_stC] at h
    split at h
    · next x r =>
      cases h
      exact lv_l2i hx hb hd rfl (k H locs ls hP hS hl (fm_vd_st hv (List.forall_mem_cons.mpr ⟨trivial, fun w hw => hv.2.1 w (List.mem_cons_of_mem _ hw)⟩)))
    · cases h
  case i2d =>
    simp only [fm_stC] at h
    split at h
    · next x r =>
      cases h
      exact lv_i2d hx hb hd (k H locs ls hP hS hl (fm_vd_st hv (List.forall_mem_cons.mpr ⟨trivial, fun w hw => hv.2.1 w (List.mem_cons_of_mem _ hw)⟩)))
    · cases h
  case i2f =>
    simp only [fm_stC] at h
    split at h
    · next x r =>
      cases h
      exact lv_i2f hx hb hd (k H locs ls hP hS hl (fm_vd_st hv (List.forall_mem_cons.mpr ⟨trivial, fun w hw => hv.2.1 w (List.mem_cons_of_mem _ hw)⟩)))
    · cases h
  case l2d =>
    simp only [fm_stC] at h
    split at h
    · next x r =>
      cases h
      exact lv_l2d hx hb hd (k H locs ls hP hS hl (fm_vd_st hv (List.forall_mem_cons.mpr ⟨trivial, fun w hw => hv.2.1 w (List.mem_cons_of_mem _ hw)⟩)))
    · cases h
  case l2f =>
    simp only [fm_stC] at h
    split at h
    · next x r =>
      cases h
      exact lv_l2f hx hb hd (k H locs ls hP hS hl (fm_vd_st hv (List.forall_mem_cons.mpr ⟨trivial, fun w hw => hv.2.1 w (List.mem_cons_of_mem _ hw)⟩)))
    · cases h
  case d2i =>
    simp only [fm_stC] at h
    split at h
    · next x r =>
      cases h
      exact lv_d2i hx hb hd (k H locs ls hP hS hl (fm_vd_st hv (List.forall_mem_cons.mpr ⟨trivial, fun w hw => hv.2.1 w (List.mem_cons_of_mem _ hw)⟩)))
    · cases h
  case d2l =>
    simp only [fm_stC] at h
    split at h
    · next x r =>
      cases h
      exact lv_d2l hx hb hd (k H locs ls hP hS hl (fm_vd_st hv (List.forall_mem_cons.mpr ⟨trivial, fun w hw => hv.2.1 w (List.mem_cons_of_mem _ hw)⟩)))
    · cases h
  case dcmp op =>
    simp only [fm_stC] at h
    split at h
    · next y x r =>
      cases h
      exact lv_dcmp hx hb hd (k H locs ls hP hS hl (fm_vd_st hv (List.forall_mem_cons.mpr ⟨trivial, fun w hw => hv.2.1 w (List.mem_cons_of_mem _ (List.mem_cons_of_mem _ hw))⟩)))
    · cases h
  case dup =>
    simp only [fm_stC] at h
    split at h
    · next v r =>
      cases hc : fm_c2 v with
      | true => rw [hc] at h; cases h
      | false =>
        rw [hc] at h
        cases h
        exact lv_dup hx hb hd (fm_c2_1 hc) (k H locs ls hP hS hl (fm_vd_st hv (List.forall_mem_cons.mpr ⟨hv.2.1 _ List.mem_cons_self, hv.2.1⟩)))
    · cases h
  case pop =>
    simp only [fm_stC] at h
    split at h
    · next v r =>
      cases hc : fm_c2 v with
      | true => rw [hc] at h; cases h
      | false =>
        rw [hc] at h
        cases h
        exact lv_pop hx hb hd (fm_c2_1 hc) (k H locs ls hP hS hl (fm_vd_st hv (fun w hw => hv.2.1 w (List.mem_cons_of_mem _ hw))))
    · cases h
  case dup_x1 =>
    simp only [fm_stC] at h
    split at h
    · next v w r =>
      cases hc : fm_c2 v with
      | true => rw [hc] at h; cases h
      | false =>
        cases hc' : fm_c2 w with
        | true => rw [hc, hc'] at h; cases h
        | false =>
          rw [hc, hc'] at h
          cases h
          exact lv_dup_x1 hx hb hd (fm_c2_1 hc) (fm_c2_1 hc') (k H locs ls hP hS hl (fm_vd_st hv (List.forall_mem_cons.mpr ⟨hv.2.1 _ List.mem_cons_self, List.forall_mem_cons.mpr ⟨hv.2.1 _ (List.mem_cons_of_mem _ List.mem_cons_self), List.forall_mem_cons.mpr ⟨hv.2.1 _ List.mem_cons_self, fun z hz => hv.2.1 z (List.mem_cons_of_mem _ (List.mem_cons_of_mem _ hz))⟩⟩⟩)))
    · cases h
  case dup2 =>
    simp only [fm_stC] at h
    split at h
    · next v w r =>
      cases hc : fm_c2 v with
      | true => rw [hc] at h; cases h
      | false =>
        cases hc' : fm_c2 w with
        | true => rw [hc, hc'] at h; cases h
        | false =>
          rw [hc, hc'] at h
          cases h
          exact lv_dup2_11 hx hb hd (fm_c2_1 hc) (fm_c2_1 hc') (k H locs ls hP hS hl (fm_vd_st hv (List.forall_mem_cons.mpr ⟨hv.2.1 _ List.mem_cons_self, List.forall_mem_cons.mpr ⟨hv.2.1 _ (List.mem_cons_of_mem _ List.mem_cons_self), hv.2.1⟩⟩)))
    · cases h
  case goto off =>
    simp only [fm_stC] at h
    split at h
    · next t ht =>
      cases h
      exact lv_goto hx hb hd ht (k H locs ls hP hS hl ⟨hv.1, hv.2.1, hv.2.2⟩)
    · cases h
  all_goals (simp only [fm_stC] at h; exact nomatch h)
end StC
