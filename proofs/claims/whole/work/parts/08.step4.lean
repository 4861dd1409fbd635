theorem fm_sz_a {k : Nat} {t : Nat × Nat} (hk : k < 50) (h : fm_ka k = some t) : fm_sz k = t.2 := by
  unfold fm_sz
  rcases fm_kc_ka k hk with z | z
  · rw [z, h]
  · rw [z] at h; cases h
/-! instructions that go on only where something holds: divisors, no NaN, indices -/
def fm_gdA (ins : Instr) (pc : Nat) (l : List (Nat × fm_V)) (st : List fm_V) (M : fm_M) : Option (Prop × fm_C) :=
  match ins with
  | .idiv => match st with
    | .inl y :: .inl x :: r => some (¬ y = 0, (pc + 1, l, .inl (x / y) :: r, M))
    | _ => none
  | .irem => match st with
    | .inl y :: .inl x :: r => some (¬ y = 0, (pc + 1, l, .inl (x - x / y * y) :: r, M))
    | _ => none
  | .ldiv => match st with
    | .inr (.inl y) :: .inr (.inl x) :: r => some (¬ y = 0, (pc + 1, l, .inr (.inl (x / y)) :: r, M))
    | _ => none
  | .lrem => match st with
    | .inr (.inl y) :: .inr (.inl x) :: r => some (¬ y = 0, (pc + 1, l, .inr (.inl (x - x / y * y)) :: r, M))
    | _ => none
  | .dadd => match st with
    | .inr (.inr (.inr (.inl y))) :: .inr (.inr (.inr (.inl x))) :: r => some (vf_n64 (FP.dadd x y), (pc + 1, l, .inr (.inr (.inr (.inl (FP.dadd x y)))) :: r, M))
    | _ => none
  | .fadd => match st with
    | .inr (.inr (.inl y)) :: .inr (.inr (.inl x)) :: r => some (vf_n32 (FP.fadd x y), (pc + 1, l, .inr (.inr (.inl (FP.fadd x y))) :: r, M))
    | _ => none
  | .dsub => match st with
    | .inr (.inr (.inr (.inl y))) :: .inr (.inr (.inr (.inl x))) :: r => some (vf_n64 (FP.dsub x y), (pc + 1, l, .inr (.inr (.inr (.inl (FP.dsub x y)))) :: r, M))
    | _ => none
  | .fsub => match st with
    | .inr (.inr (.inl y)) :: .inr (.inr (.inl x)) :: r => some (vf_n32 (FP.fsub x y), (pc + 1, l, .inr (.inr (.inl (FP.fsub x y))) :: r, M))
    | _ => none
  | .dmul => match st with
    | .inr (.inr (.inr (.inl y))) :: .inr (.inr (.inr (.inl x))) :: r => some (vf_n64 (FP.dmul x y), (pc + 1, l, .inr (.inr (.inr (.inl (FP.dmul x y)))) :: r, M))
    | _ => none
  | .fmul => match st with
    | .inr (.inr (.inl y)) :: .inr (.inr (.inl x)) :: r => some (vf_n32 (FP.fmul x y), (pc + 1, l, .inr (.inr (.inl (FP.fmul x y))) :: r, M))
    | _ => none
  | .ddiv => match st with
    | .inr (.inr (.inr (.inl y))) :: .inr (.inr (.inr (.inl x))) :: r => some (vf_n64 (FP.ddiv x y), (pc + 1, l, .inr (.inr (.inr (.inl (FP.ddiv x y)))) :: r, M))
    | _ => none
  | .fdiv => match st with
    | .inr (.inr (.inl y)) :: .inr (.inr (.inl x)) :: r => some (vf_n32 (FP.fdiv x y), (pc + 1, l, .inr (.inr (.inl (FP.fdiv x y))) :: r, M))
    | _ => none
  | .f2d => match st with
    | .inr (.inr (.inl x)) :: r => some (vf_n64 (FP.f2d x), (pc + 1, l, .inr (.inr (.inr (.inl (FP.f2d x)))) :: r, M))
    | _ => none
  | .d2f => match st with
    | .inr (.inr (.inr (.inl x))) :: r => some (vf_n32 (FP.d2f x), (pc + 1, l, .inr (.inr (.inl (FP.d2f x))) :: r, M))
    | _ => none
  | _ => none
section GdA
variable {l : Launch} {D : va_G} {cA : Nat → ClassId} {ad : fm_A} {L : Nat} {xs : Nat → Int32} {oc : Nat} {cc : ByteArray} {nL : Nat} {p : Program} {e : Env} {R : Room} {s : State} {m : MethodId} {args : Array Value} {below : List Frame} {meth : Method} {c : Code} {A : Nat → Prop} {Q : State → Prop} {cells slots : Nat}
set_option maxHeartbeats 4000000 in
theorem fm_goA (X : fm_cx l D cA ad L xs oc cc nL p s m args meth c A) {ins : Instr} {pc : Nat} {lo : List (Nat × fm_V)} {st : List fm_V} {M : fm_M} {g : Prop × fm_C} (hd : decode cc pc = .ok (ins, fm_ln ins)) (h : fm_gdA ins pc lo st M = some g) (hg : g.1)
    (k : fm_ww l D cA ad nL p e R s m args below meth c A Q cells slots g.2) : fm_ww l D cA ad nL p e R s m args below meth c A Q cells slots (pc, lo, st, M) := by
  obtain ⟨hx, hb, -, hown, hts, -⟩ := X
  intro H locs ls hP hS hl hv
  cases ins
  case idiv =>
    simp only [fm_gdA] at h
    split at h
    · next y x r =>
      cases h
      exact lv_idiv hx hb hd hg (k H locs ls hP hS hl (fm_vd_st hv (List.forall_mem_cons.mpr ⟨trivial, fun w hw => hv.2.1 w (List.mem_cons_of_mem _ (List.mem_cons_of_mem _ hw))⟩)))
    · cases h
  case irem =>
    simp only [fm_gdA] at h
    split at h
    · next y x r =>
      cases h
      exact lv_irem hx hb hd hg (k H locs ls hP hS hl (fm_vd_st hv (List.forall_mem_cons.mpr ⟨trivial, fun w hw => hv.2.1 w (List.mem_cons_of_mem _ (List.mem_cons_of_mem _ hw))⟩)))
    · cases h
  case ldiv =>
    simp only [fm_gdA] at h
    split at h
    · next y x r =>
      cases h
      exact lv_ldiv hx hb hd hg (k H locs ls hP hS hl (fm_vd_st hv (List.forall_mem_cons.mpr ⟨trivial, fun w hw => hv.2.1 w (List.mem_cons_of_mem _ (List.mem_cons_of_mem _ hw))⟩)))
    · cases h
  case lrem =>
    simp only [fm_gdA] at h
    split at h
    · next y x r =>
      cases h
      exact lv_lrem hx hb hd hg (k H locs ls hP hS hl (fm_vd_st hv (List.forall_mem_cons.mpr ⟨trivial, fun w hw => hv.2.1 w (List.mem_cons_of_mem _ (List.mem_cons_of_mem _ hw))⟩)))
    · cases h
  case dadd =>
    simp only [fm_gdA] at h
    split at h
    · next y x r =>
      cases h
      exact lv_dadd hx hb hd hg (k H locs ls hP hS hl (fm_vd_st hv (List.forall_mem_cons.mpr ⟨trivial, fun w hw => hv.2.1 w (List.mem_cons_of_mem _ (List.mem_cons_of_mem _ hw))⟩)))
    · cases h
  case fadd =>
    simp only [fm_gdA] at h
    split at h
    · next y x r =>
      cases h
      exact lv_fadd hx hb hd hg (k H locs ls hP hS hl (fm_vd_st hv (List.forall_mem_cons.mpr ⟨trivial, fun w hw => hv.2.1 w (List.mem_cons_of_mem _ (List.mem_cons_of_mem _ hw))⟩)))
    · cases h
  case dsub =>
    simp only [fm_gdA] at h
    split at h
    · next y x r =>
      cases h
      exact lv_dsub hx hb hd hg (k H locs ls hP hS hl (fm_vd_st hv (List.forall_mem_cons.mpr ⟨trivial, fun w hw => hv.2.1 w (List.mem_cons_of_mem _ (List.mem_cons_of_mem _ hw))⟩)))
    · cases h
  case fsub =>
    simp only [fm_gdA] at h
    split at h
    · next y x r =>
      cases h
      exact lv_fsub hx hb hd hg (k H locs ls hP hS hl (fm_vd_st hv (List.forall_mem_cons.mpr ⟨trivial, fun w hw => hv.2.1 w (List.mem_cons_of_mem _ (List.mem_cons_of_mem _ hw))⟩)))
    · cases h
  case dmul =>
    simp only [fm_gdA] at h
    split at h
    · next y x r =>
      cases h
      exact lv_dmul hx hb hd hg (k H locs ls hP hS hl (fm_vd_st hv (List.forall_mem_cons.mpr ⟨trivial, fun w hw => hv.2.1 w (List.mem_cons_of_mem _ (List.mem_cons_of_mem _ hw))⟩)))
    · cases h
  case fmul =>
    simp only [fm_gdA] at h
    split at h
    · next y x r =>
      cases h
      exact lv_fmul hx hb hd hg (k H locs ls hP hS hl (fm_vd_st hv (List.forall_mem_cons.mpr ⟨trivial, fun w hw => hv.2.1 w (List.mem_cons_of_mem _ (List.mem_cons_of_mem _ hw))⟩)))
    · cases h
  case ddiv =>
    simp only [fm_gdA] at h
    split at h
    · next y x r =>
      cases h
      exact lv_ddiv hx hb hd hg (k H locs ls hP hS hl (fm_vd_st hv (List.forall_mem_cons.mpr ⟨trivial, fun w hw => hv.2.1 w (List.mem_cons_of_mem _ (List.mem_cons_of_mem _ hw))⟩)))
    · cases h
  case fdiv =>
    simp only [fm_gdA] at h
    split at h
    · next y x r =>
      cases h
      exact lv_fdiv hx hb hd hg (k H locs ls hP hS hl (fm_vd_st hv (List.forall_mem_cons.mpr ⟨trivial, fun w hw => hv.2.1 w (List.mem_cons_of_mem _ (List.mem_cons_of_mem _ hw))⟩)))
    · cases h
  case f2d =>
    simp only [fm_gdA] at h
    split at h
    · next x r =>
      cases h
      exact lv_f2d hx hb hd hg (k H locs ls hP hS hl (fm_vd_st hv (List.forall_mem_cons.mpr ⟨trivial, fun w hw => hv.2.1 w (List.mem_cons_of_mem _ hw)⟩)))
    · cases h
  case d2f =>
    simp only [fm_gdA] at h
    split at h
    · next x r =>
      cases h
      exact lv_d2f hx hb hd hg (k H locs ls hP hS hl (fm_vd_st hv (List.forall_mem_cons.mpr ⟨trivial, fun w hw => hv.2.1 w (List.mem_cons_of_mem _ hw)⟩)))
    · cases h
  all_goals (simp only [fm_gdA] at h; exact nomatch h)
end GdA
/-! arrays -/
def fm_gdB (ins : Instr) (pc : Nat) (l : List (Nat × fm_V)) (st : List fm_V) (M : fm_M) : Option (Prop × fm_C) :=
  match ins with
  | .iaload => match st with
    | .inl j :: .inr (.inr (.inr (.inr q))) :: r => match fm_ka q.1 with
      | some t => cond (Nat.blt q.1 50 && Nat.beq t.1 0) (some (vp_in j t.2, (pc + 1, l, .inl (M.1 q.1 q.2 j.toNatClampNeg) :: r, M))) none
      | none => none
    | _ => none
  | .baload => match st with
    | .inl j :: .inr (.inr (.inr (.inr q))) :: r => match fm_ka q.1 with
      | some t => cond (Nat.blt q.1 50 && Nat.beq t.1 3) (some (vp_in j t.2, (pc + 1, l, .inl (M.1 q.1 q.2 j.toNatClampNeg) :: r, M))) none
      | none => none
    | _ => none
  | .laload => match st with
    | .inl j :: .inr (.inr (.inr (.inr q))) :: r => match fm_ka q.1 with
      | some t => cond (Nat.blt q.1 50 && Nat.beq t.1 1) (some (vp_in j t.2, (pc + 1, l, .inr (.inl (M.2.1 q.1 q.2 j.toNatClampNeg)) :: r, M))) none
      | none => none
    | _ => none
  | .daload => match st with
    | .inl j :: .inr (.inr (.inr (.inr q))) :: r => match fm_ka q.1 with
      | some t => cond (Nat.blt q.1 50 && Nat.beq t.1 2) (some (vp_in j t.2, (pc + 1, l, .inr (.inr (.inr (.inl (M.2.2.1 q.1 q.2 j.toNatClampNeg)))) :: r, M))) none
      | none => none
    | _ => none
  | .aaload => match st with
    | .inl j :: .inr (.inr (.inr (.inr q))) :: r => match fm_ka q.1 with
      | some t => cond (Nat.blt q.1 50 && (Nat.beq t.1 4 || Nat.beq t.1 5)) (some (vp_in j t.2, (pc + 1, l, .inr (.inr (.inr (.inr (M.2.2.2 q.1 q.2 j.toNatClampNeg)))) :: r, M))) none
      | none => none
    | _ => none
  | .iastore => match st with
    | .inl x :: .inl j :: .inr (.inr (.inr (.inr q))) :: r => match fm_ka q.1 with
      | some t => cond (Nat.blt q.1 50 && Nat.beq t.1 0) (some (vp_in j t.2, (pc + 1, l, r, (fm_u M.1 q.1 q.2 j.toNatClampNeg x, M.2)))) none
      | none => none
    | _ => none
  | .bastore => match st with
    | .inl x :: .inl j :: .inr (.inr (.inr (.inr q))) :: r => match fm_ka q.1 with
      | some t => cond (Nat.blt q.1 50 && Nat.beq t.1 3) (some (vp_in j t.2 ∧ (x = 0 ∨ x = 1), (pc + 1, l, r, (fm_u M.1 q.1 q.2 j.toNatClampNeg x, M.2)))) none
      | none => none
    | _ => none
  | .lastore => match st with
    | .inr (.inl x) :: .inl j :: .inr (.inr (.inr (.inr q))) :: r => match fm_ka q.1 with
      | some t => cond (Nat.blt q.1 50 && Nat.beq t.1 1) (some (vp_in j t.2, (pc + 1, l, r, (M.1, fm_u M.2.1 q.1 q.2 j.toNatClampNeg x, M.2.2)))) none
      | none => none
    | _ => none
  | .dastore => match st with
    | .inr (.inr (.inr (.inl x))) :: .inl j :: .inr (.inr (.inr (.inr q))) :: r => match fm_ka q.1 with
      | some t => cond (Nat.blt q.1 50 && Nat.beq t.1 2) (some (vp_in j t.2, (pc + 1, l, r, (M.1, M.2.1, fm_u M.2.2.1 q.1 q.2 j.toNatClampNeg x, M.2.2.2)))) none
      | none => none
    | _ => none
  | _ => none
theorem fm_bb {x : Int32} (h : x = 0 ∨ x = 1) : vp_nar .boolean x = x := by
  rcases h with rfl | rfl <;> decide
section GdB
variable {l : Launch} {D : va_G} {cA : Nat → ClassId} {ad : fm_A} {L : Nat} {xs : Nat → Int32} {oc : Nat} {cc : ByteArray} {nL : Nat} {p : Program} {e : Env} {R : Room} {s : State} {m : MethodId} {args : Array Value} {below : List Frame} {meth : Method} {c : Code} {A : Nat → Prop} {Q : State → Prop} {cells slots : Nat}
set_option maxHeartbeats 4000000 in
theorem fm_goB (X : fm_cx l D cA ad L xs oc cc nL p s m args meth c A) {ins : Instr} {pc : Nat} {lo : List (Nat × fm_V)} {st : List fm_V} {M : fm_M} {g : Prop × fm_C} (hd : decode cc pc = .ok (ins, fm_ln ins)) (h : fm_gdB ins pc lo st M = some g) (hg : g.1)
    (k : fm_ww l D cA ad nL p e R s m args below meth c A Q cells slots g.2) : fm_ww l D cA ad nL p e R s m args below meth c A Q cells slots (pc, lo, st, M) := by
  obtain ⟨hx, hb, -, hown, hts, hK, hD, -⟩ := X
  intro H locs ls hP hS hl hv
  cases ins
  case iaload =>
    simp only [fm_gdB] at h
    split at h
    · next j q r =>
      split at h
      · next t ht =>
        cases h50 : Nat.blt q.1 50 with
        | false => rw [h50] at h; cases h
        | true =>
          cases h6 : Nat.beq t.1 0 with
          | false => rw [h50, h6] at h; cases h
          | true =>
            rw [h50, h6] at h
            cases h
            have hk50 : q.1 < 50 := Nat.le_of_ble_eq_true h50
            obtain ⟨i, hj⟩ := fm_ki_at hk50 (hv.2.1 _ (List.mem_cons_of_mem _ List.mem_cons_self))
            obtain ⟨t1, t2⟩ := t
            have e6 : t1 = 0 := Nat.eq_of_beq_eq_true h6
            subst e6
            have he : (fm_wl cA ad M)[i]? = some (ad q.1 q.2, .inl (cA 0, t2, fm_ar ad M 0 q.1 q.2)) := by rw [fm_wl_at hj, fm_ce_a hk50 ht]
            exact va_iald hx hb hK hP i 0 he rfl hg hd (k H locs ls hP hS hl (fm_vd_st hv (List.forall_mem_cons.mpr ⟨trivial, fun w hw => hv.2.1 w (List.mem_cons_of_mem _ (List.mem_cons_of_mem _ hw))⟩)))
      · cases h
    · cases h
  case baload =>
    simp only [fm_gdB] at h
    split at h
    · next j q r =>
      split at h
      · next t ht =>
        cases h50 : Nat.blt q.1 50 with
        | false => rw [h50] at h; cases h
        | true =>
          cases h6 : Nat.beq t.1 3 with
          | false => rw [h50, h6] at h; cases h
          | true =>
            rw [h50, h6] at h
            cases h
            have hk50 : q.1 < 50 := Nat.le_of_ble_eq_true h50
            obtain ⟨i, hj⟩ := fm_ki_at hk50 (hv.2.1 _ (List.mem_cons_of_mem _ List.mem_cons_self))
            obtain ⟨t1, t2⟩ := t
            have e6 : t1 = 3 := Nat.eq_of_beq_eq_true h6
            subst e6
            have he : (fm_wl cA ad M)[i]? = some (ad q.1 q.2, .inl (cA 3, t2, fm_ar ad M 3 q.1 q.2)) := by rw [fm_wl_at hj, fm_ce_a hk50 ht]
            exact va_zald hx hb hK hP i 3 he rfl hg hd (k H locs ls hP hS hl (fm_vd_st hv (List.forall_mem_cons.mpr ⟨trivial, fun w hw => hv.2.1 w (List.mem_cons_of_mem _ (List.mem_cons_of_mem _ hw))⟩)))
      · cases h
    · cases h
  case laload =>
    simp only [fm_gdB] at h
    split at h
    · next j q r =>
      split at h
      · next t ht =>
        cases h50 : Nat.blt q.1 50 with
        | false => rw [h50] at h; cases h
        | true =>
          cases h6 : Nat.beq t.1 1 with
          | false => rw [h50, h6] at h; cases h
          | true =>
            rw [h50, h6] at h
            cases h
            have hk50 : q.1 < 50 := Nat.le_of_ble_eq_true h50
            obtain ⟨i, hj⟩ := fm_ki_at hk50 (hv.2.1 _ (List.mem_cons_of_mem _ List.mem_cons_self))
            obtain ⟨t1, t2⟩ := t
            have e6 : t1 = 1 := Nat.eq_of_beq_eq_true h6
            subst e6
            have he : (fm_wl cA ad M)[i]? = some (ad q.1 q.2, .inl (cA 1, t2, fm_ar ad M 1 q.1 q.2)) := by rw [fm_wl_at hj, fm_ce_a hk50 ht]
            exact va_lald hx hb hK hP i 1 he rfl hg hd (k H locs ls hP hS hl (fm_vd_st hv (List.forall_mem_cons.mpr ⟨trivial, fun w hw => hv.2.1 w (List.mem_cons_of_mem _ (List.mem_cons_of_mem _ hw))⟩)))
      · cases h
    · cases h
  case daload =>
    simp only [fm_gdB] at h
    split at h
    · next j q r =>
      split at h
      · next t ht =>
        cases h50 : Nat.blt q.1 50 with
        | false => rw [h50] at h; cases h
        | true =>
          cases h6 : Nat.beq t.1 2 with
          | false => rw [h50, h6] at h; cases h
          | true =>
            rw [h50, h6] at h
            cases h
            have hk50 : q.1 < 50 := Nat.le_of_ble_eq_true h50
            obtain ⟨i, hj⟩ := fm_ki_at hk50 (hv.2.1 _ (List.mem_cons_of_mem _ List.mem_cons_self))
            obtain ⟨t1, t2⟩ := t
            have e6 : t1 = 2 := Nat.eq_of_beq_eq_true h6
            subst e6
            have he : (fm_wl cA ad M)[i]? = some (ad q.1 q.2, .inl (cA 2, t2, fm_ar ad M 2 q.1 q.2)) := by rw [fm_wl_at hj, fm_ce_a hk50 ht]
            exact va_dald hx hb hK hP i 2 he rfl hg hd (k H locs ls hP hS hl (fm_vd_st hv (List.forall_mem_cons.mpr ⟨trivial, fun w hw => hv.2.1 w (List.mem_cons_of_mem _ (List.mem_cons_of_mem _ hw))⟩)))
      · cases h
    · cases h
  case aaload =>
    simp only [fm_gdB] at h
    split at h
    · next j q r =>
      split at h
      · next t ht =>
        cases h50 : Nat.blt q.1 50 with
        | false => rw [h50] at h; cases h
        | true =>
          have hk50 : q.1 < 50 := Nat.le_of_ble_eq_true h50
          obtain ⟨i, hj⟩ := fm_ki_at hk50 (hv.2.1 _ (List.mem_cons_of_mem _ List.mem_cons_self))
          obtain ⟨t1, t2⟩ := t
          cases h6 : Nat.beq t1 4 with
          | true =>
            rw [h50, h6] at h
            cases h
            have e6 : t1 = 4 := Nat.eq_of_beq_eq_true h6
            subst e6
            have he : (fm_wl cA ad M)[i]? = some (ad q.1 q.2, .inl (cA 4, t2, fm_ar ad M 4 q.1 q.2)) := by rw [fm_wl_at hj, fm_ce_a hk50 ht]
            exact va_aldq hx hb hK hP i 4 he rfl hg hd (k H locs ls hP hS hl (fm_vd_st hv (List.forall_mem_cons.mpr ⟨hv.2.2 _ _ _ hk50 (hv.2.1 _ (List.mem_cons_of_mem _ List.mem_cons_self)) (by rw [fm_sz_a hk50 ht]; exact Nat.not_le.mp (fun y => hg (Or.inr y))), fun w hw => hv.2.1 w (List.mem_cons_of_mem _ (List.mem_cons_of_mem _ hw))⟩)))
          | false =>
            cases h7 : Nat.beq t1 5 with
            | false => rw [h50, h6, h7] at h; cases h
            | true =>
              rw [h50, h6, h7] at h
              cases h
              have e6 : t1 = 5 := Nat.eq_of_beq_eq_true h7
              subst e6
              have he : (fm_wl cA ad M)[i]? = some (ad q.1 q.2, .inl (cA 5, t2, fm_ar ad M 5 q.1 q.2)) := by rw [fm_wl_at hj, fm_ce_a hk50 ht]
              exact va_aldq hx hb hK hP i 5 he rfl hg hd (k H locs ls hP hS hl (fm_vd_st hv (List.forall_mem_cons.mpr ⟨hv.2.2 _ _ _ hk50 (hv.2.1 _ (List.mem_cons_of_mem _ List.mem_cons_self)) (by rw [fm_sz_a hk50 ht]; exact Nat.not_le.mp (fun y => hg (Or.inr y))), fun w hw => hv.2.1 w (List.mem_cons_of_mem _ (List.mem_cons_of_mem _ hw))⟩)))
      · cases h
    · cases h
  case iastore =>
    simp only [fm_gdB] at h
    split at h
    · next x j q r =>
      split at h
      · next t ht =>
        cases h50 : Nat.blt q.1 50 with
        | false => rw [h50] at h; cases h
        | true =>
          cases h6 : Nat.beq t.1 0 with
          | false => rw [h50, h6] at h; cases h
          | true =>
            rw [h50, h6] at h
            cases h
            have hk50 : q.1 < 50 := Nat.le_of_ble_eq_true h50
            obtain ⟨i, hj⟩ := fm_ki_at hk50 (hv.2.1 _ (List.mem_cons_of_mem _ (List.mem_cons_of_mem _ List.mem_cons_self)))
            obtain ⟨t1, t2⟩ := t
            have e6 : t1 = 0 := Nat.eq_of_beq_eq_true h6
            subst e6
            have he : (fm_wl cA ad M)[i]? = some (ad q.1 q.2, .inl (cA 0, t2, fm_ar ad M 0 q.1 q.2)) := by rw [fm_wl_at hj, fm_ce_a hk50 ht]
            refine va_iast hx hb hK hP (hD M) hS i 0 he rfl hg hd (fun H1 locs1 hP1 hD1 hS1 => ?_)
            have hset := fm_wl_set (cA := cA) (ad := ad) (M := M) (M' := (fm_u M.1 q.1 q.2 j.toNatClampNeg x, M.2)) hj (fun k' i' hne => fm_ce_congr (fun _ => fm_u_ne hne) (fun _ => rfl) (fun _ => rfl) (fun _ => rfl)) (e := .inl (cA 0, t2, .inl (upd (fun z => M.1 q.1 q.2 z) j.toNatClampNeg x))) (by
              rw [fm_ce_a hk50 ht]
              have ef : (fun z => fm_u M.1 q.1 q.2 j.toNatClampNeg x q.1 q.2 z) = upd (fun z => M.1 q.1 q.2 z) j.toNatClampNeg x := by
                funext z
                simp only [fm_u_if, upd, true_and]
              show (Sum.inl (cA 0, t2, .inl (fun z => fm_u M.1 q.1 q.2 j.toNatClampNeg x q.1 q.2 z)) : va_E) = _
              rw [ef])
            have hP2 : va_P D fm_cls (fm_wl cA ad (fm_u M.1 q.1 q.2 j.toNatClampNeg x, M.2)) H1 := by rw [← hset]; exact hP1
            exact k H1 locs1 ls hP2 hS1 hl (fm_vd_mem hv (fun w hw => List.mem_cons_of_mem _ (List.mem_cons_of_mem _ (List.mem_cons_of_mem _ hw))) hv.2.2)
      · cases h
    · cases h
  case bastore =>
    simp only [fm_gdB] at h
    split at h
    · next x j q r =>
      split at h
      · next t ht =>
        cases h50 : Nat.blt q.1 50 with
        | false => rw [h50] at h; cases h
        | true =>
          cases h6 : Nat.beq t.1 3 with
          | false => rw [h50, h6] at h; cases h
          | true =>
            rw [h50, h6] at h
            cases h
            have hk50 : q.1 < 50 := Nat.le_of_ble_eq_true h50
            obtain ⟨i, hj⟩ := fm_ki_at hk50 (hv.2.1 _ (List.mem_cons_of_mem _ (List.mem_cons_of_mem _ List.mem_cons_self)))
            obtain ⟨t1, t2⟩ := t
            have e6 : t1 = 3 := Nat.eq_of_beq_eq_true h6
            subst e6
            have he : (fm_wl cA ad M)[i]? = some (ad q.1 q.2, .inl (cA 3, t2, fm_ar ad M 3 q.1 q.2)) := by rw [fm_wl_at hj, fm_ce_a hk50 ht]
            refine va_zast hx hb hK hP (hD M) hS i 3 he rfl hg.1 hd (fun H1 locs1 hP1 hD1 hS1 => ?_)
            rw [fm_bb hg.2] at hP1
            have hset := fm_wl_set (cA := cA) (ad := ad) (M := M) (M' := (fm_u M.1 q.1 q.2 j.toNatClampNeg x, M.2)) hj (fun k' i' hne => fm_ce_congr (fun _ => fm_u_ne hne) (fun _ => rfl) (fun _ => rfl) (fun _ => rfl)) (e := .inl (cA 3, t2, .inl (upd (fun z => M.1 q.1 q.2 z) j.toNatClampNeg x))) (by
              rw [fm_ce_a hk50 ht]
              have ef : (fun z => fm_u M.1 q.1 q.2 j.toNatClampNeg x q.1 q.2 z) = upd (fun z => M.1 q.1 q.2 z) j.toNatClampNeg x := by
                funext z
                simp only [fm_u_if, upd, true_and]
              show (Sum.inl (cA 3, t2, .inl (fun z => fm_u M.1 q.1 q.2 j.toNatClampNeg x q.1 q.2 z)) : va_E) = _
              rw [ef])
            have hP2 : va_P D fm_cls (fm_wl cA ad (fm_u M.1 q.1 q.2 j.toNatClampNeg x, M.2)) H1 := by rw [← hset]; exact hP1
            exact k H1 locs1 ls hP2 hS1 hl (fm_vd_mem hv (fun w hw => List.mem_cons_of_mem _ (List.mem_cons_of_mem _ (List.mem_cons_of_mem _ hw))) hv.2.2)
      · cases h
    · cases h
  case lastore =>
    simp only [fm_gdB] at h
    split at h
    · next x j q r =>
      split at h
      · next t ht =>
        cases h50 : Nat.blt q.1 50 with
        | false => rw [h50] at h; cases h
        | true =>
          cases h6 : Nat.beq t.1 1 with
          | false => rw [h50, h6] at h; cases h
          | true =>
            rw [h50, h6] at h
            cases h
            have hk50 : q.1 < 50 := Nat.le_of_ble_eq_true h50
            obtain ⟨i, hj⟩ := fm_ki_at hk50 (hv.2.1 _ (List.mem_cons_of_mem _ (List.mem_cons_of_mem _ List.mem_cons_self)))
            obtain ⟨t1, t2⟩ := t
            have e6 : t1 = 1 := Nat.eq_of_beq_eq_true h6
            subst e6
            have he : (fm_wl cA ad M)[i]? = some (ad q.1 q.2, .inl (cA 1, t2, fm_ar ad M 1 q.1 q.2)) := by rw [fm_wl_at hj, fm_ce_a hk50 ht]
            refine va_last hx hb hK hP (hD M) hS i 1 he rfl hg hd (fun H1 locs1 hP1 hD1 hS1 => ?_)
            have hset := fm_wl_set (cA := cA) (ad := ad) (M := M) (M' := (M.1, fm_u M.2.1 q.1 q.2 j.toNatClampNeg x, M.2.2)) hj (fun k' i' hne => fm_ce_congr (fun _ => rfl) (fun _ => fm_u_ne hne) (fun _ => rfl) (fun _ => rfl)) (e := .inl (cA 1, t2, .inr (.inl (vp_updL (fun z => M.2.1 q.1 q.2 z) j.toNatClampNeg x)))) (by
              rw [fm_ce_a hk50 ht]
              have ef : (fun z => fm_u M.2.1 q.1 q.2 j.toNatClampNeg x q.1 q.2 z) = vp_updL (fun z => M.2.1 q.1 q.2 z) j.toNatClampNeg x := by
                funext z
                simp only [fm_u_if, vp_updL, true_and]
              show (Sum.inl (cA 1, t2, .inr (.inl (fun z => fm_u M.2.1 q.1 q.2 j.toNatClampNeg x q.1 q.2 z))) : va_E) = _
              rw [ef])
            have hP2 : va_P D fm_cls (fm_wl cA ad (M.1, fm_u M.2.1 q.1 q.2 j.toNatClampNeg x, M.2.2)) H1 := by rw [← hset]; exact hP1
            exact k H1 locs1 ls hP2 hS1 hl (fm_vd_mem hv (fun w hw => List.mem_cons_of_mem _ (List.mem_cons_of_mem _ (List.mem_cons_of_mem _ hw))) hv.2.2)
      · cases h
    · cases h
  case dastore =>
    simp only [fm_gdB] at h
    split at h
    · next x j q r =>
      split at h
      · next t ht =>
        cases h50 : Nat.blt q.1 50 with
        | false => rw [h50] at h; cases h
        | true =>
          cases h6 : Nat.beq t.1 2 with
          | false => rw [h50, h6] at h; cases h
          | true =>
            rw [h50, h6] at h
            cases h
            have hk50 : q.1 < 50 := Nat.le_of_ble_eq_true h50
            obtain ⟨i, hj⟩ := fm_ki_at hk50 (hv.2.1 _ (List.mem_cons_of_mem _ (List.mem_cons_of_mem _ List.mem_cons_self)))
            obtain ⟨t1, t2⟩ := t
            have e6 : t1 = 2 := Nat.eq_of_beq_eq_true h6
            subst e6
            have he : (fm_wl cA ad M)[i]? = some (ad q.1 q.2, .inl (cA 2, t2, fm_ar ad M 2 q.1 q.2)) := by rw [fm_wl_at hj, fm_ce_a hk50 ht]
            refine va_dast hx hb hK hP (hD M) hS i 2 he rfl hg hd (fun H1 locs1 hP1 hD1 hS1 => ?_)
            have hset := fm_wl_set (cA := cA) (ad := ad) (M := M) (M' := (M.1, M.2.1, fm_u M.2.2.1 q.1 q.2 j.toNatClampNeg x, M.2.2.2)) hj (fun k' i' hne => fm_ce_congr (fun _ => rfl) (fun _ => rfl) (fun _ => fm_u_ne hne) (fun _ => rfl)) (e := .inl (cA 2, t2, .inr (.inr (.inr (.inl (vf_upd (fun z => M.2.2.1 q.1 q.2 z) j.toNatClampNeg x)))))) (by
              rw [fm_ce_a hk50 ht]
              have ef : (fun z => fm_u M.2.2.1 q.1 q.2 j.toNatClampNeg x q.1 q.2 z) = vf_upd (fun z => M.2.2.1 q.1 q.2 z) j.toNatClampNeg x := by
                funext z
                simp only [fm_u_if, vf_upd, true_and]
              show (Sum.inl (cA 2, t2, .inr (.inr (.inr (.inl (fun z => fm_u M.2.2.1 q.1 q.2 j.toNatClampNeg x q.1 q.2 z))))) : va_E) = _
              rw [ef])
            have hP2 : va_P D fm_cls (fm_wl cA ad (M.1, M.2.1, fm_u M.2.2.1 q.1 q.2 j.toNatClampNeg x, M.2.2.2)) H1 := by rw [← hset]; exact hP1
            exact k H1 locs1 ls hP2 hS1 hl (fm_vd_mem hv (fun w hw => List.mem_cons_of_mem _ (List.mem_cons_of_mem _ (List.mem_cons_of_mem _ hw))) hv.2.2)
      · cases h
    · cases h
  all_goals (simp only [fm_gdB] at h; exact nomatch h)
end GdB
