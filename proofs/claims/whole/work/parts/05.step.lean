/-! ONE INSTRUCTION, PURE; and that the machine does it -/
def fm_stA (oc : Nat) (ins : Instr) (pc : Nat) (l : List (Nat × fm_V)) (st : List fm_V) (M : fm_M) : Option fm_C :=
  match ins with
  | .iconst n => some (pc + 1, l, .inl (Int32.ofInt n) :: st, M)
  | .bipush n => some (pc + 2, l, .inl (Int8.ofInt n).toInt32 :: st, M)
  | .sipush n => some (pc + 3, l, .inl (Int16.ofInt n).toInt32 :: st, M)
  | .lconst n => some (pc + 1, l, .inr (.inl (Int64.ofNat n)) :: st, M)
  | .dconst n => match n with
    | 0 => some (pc + 1, l, .inr (.inr (.inr (.inl FP.dconst0))) :: st, M)
    | 1 => none
  | .ldc ix => match fm_kf oc ix with
    | some v => some (pc + 2, l, .inr (.inr (.inl v)) :: st, M)
    | none => none
  | .ldc2_w ix => match fm_kd oc ix with
    | some v => some (pc + 3, l, .inr (.inr (.inr (.inl v))) :: st, M)
    | none => none
  | .iload_n n => match fm_lk l n with
    | some (.inl x) => some (pc + 1, l, .inl x :: st, M)
    | _ => none
  | .iload n => match fm_lk l n with
    | some (.inl x) => some (pc + 2, l, .inl x :: st, M)
    | _ => none
  | .lload_n n => match fm_lk l n with
    | some (.inr (.inl x)) => some (pc + 1, l, .inr (.inl x) :: st, M)
    | _ => none
  | .lload n => match fm_lk l n with
    | some (.inr (.inl x)) => some (pc + 2, l, .inr (.inl x) :: st, M)
    | _ => none
  | .fload_n n => match fm_lk l n with
    | some (.inr (.inr (.inl x))) => some (pc + 1, l, .inr (.inr (.inl x)) :: st, M)
    | _ => none
  | .dload_n n => match fm_lk l n with
    | some (.inr (.inr (.inr (.inl x)))) => some (pc + 1, l, .inr (.inr (.inr (.inl x))) :: st, M)
    | _ => none
  | .dload n => match fm_lk l n with
    | some (.inr (.inr (.inr (.inl x)))) => some (pc + 2, l, .inr (.inr (.inr (.inl x))) :: st, M)
    | _ => none
  | .aload_n n => match fm_lk l n with
    | some (.inr (.inr (.inr (.inr x)))) => some (pc + 1, l, .inr (.inr (.inr (.inr x))) :: st, M)
    | _ => none
  | .aload n => match fm_lk l n with
    | some (.inr (.inr (.inr (.inr x)))) => some (pc + 2, l, .inr (.inr (.inr (.inr x))) :: st, M)
    | _ => none
  | _ => none
theorem fm_vd_push {pc pc' : Nat} {l : List (Nat × fm_V)} {st : List fm_V} {M : fm_M} (h : fm_vd (pc, l, st, M)) {v : fm_V} (hv : fm_ok v) : fm_vd (pc', l, v :: st, M) :=
  ⟨h.1, fun w hw => (List.mem_cons.mp hw).elim (fun e => e ▸ hv) (h.2.1 w), h.2.2⟩
theorem fm_vd_lk {pc : Nat} {l : List (Nat × fm_V)} {st : List fm_V} {M : fm_M} (h : fm_vd (pc, l, st, M)) {n : Nat} {v : fm_V} (hk : fm_lk l n = some v) : fm_ok v := h.1 _ (fm_lk_mem hk)
theorem fm_kf_in {oc ix : Nat} {v : UInt32} (h : fm_kf oc ix = some v) : Cond.constantFloat (fm_cn oc) ix v ∈ fm_TB := by
  unfold fm_kf at h
  cases hf : fm_kfl.find? (fun q => Nat.beq q.1 oc && Nat.beq q.2.1 ix) with
  | none => rw [hf] at h; cases h
  | some q =>
    rw [hf] at h
    cases h
    have h1 := List.find?_some hf
    simp only [Bool.and_eq_true] at h1
    obtain ⟨e1, e2⟩ := h1
    rw [← Nat.eq_of_beq_eq_true e1, ← Nat.eq_of_beq_eq_true e2]
    exact fm_kfw _ (List.mem_map.mpr ⟨q, List.mem_of_find?_eq_some hf, rfl⟩)
theorem fm_kd_in {oc ix : Nat} {v : UInt64} (h : fm_kd oc ix = some v) : Cond.constantDouble (fm_cn oc) ix v ∈ fm_TB := by
  unfold fm_kd at h
  cases hf : fm_kdl.find? (fun q => Nat.beq q.1 oc && Nat.beq q.2.1 ix) with
  | none => rw [hf] at h; cases h
  | some q =>
    rw [hf] at h
    cases h
    have h1 := List.find?_some hf
    simp only [Bool.and_eq_true] at h1
    obtain ⟨e1, e2⟩ := h1
    rw [← Nat.eq_of_beq_eq_true e1, ← Nat.eq_of_beq_eq_true e2]
    exact fm_kdw _ (List.mem_map.mpr ⟨q, List.mem_of_find?_eq_some hf, rfl⟩)
section StA
variable {l : Launch} {D : va_G} {cA : Nat → ClassId} {ad : fm_A} {L : Nat} {xs : Nat → Int32} {oc : Nat} {cc : ByteArray} {nL : Nat} {p : Program} {e : Env} {R : Room} {s : State} {m : MethodId} {args : Array Value} {below : List Frame} {meth : Method} {c : Code} {A : Nat → Prop} {Q : State → Prop} {cells slots : Nat}
set_option maxHeartbeats 2000000 in
theorem fm_soA (X : fm_cx l D cA ad L xs oc cc nL p s m args meth c A) {ins : Instr} {pc : Nat} {lo : List (Nat × fm_V)} {st : List fm_V} {M : fm_M} {C' : fm_C} (hd : decode cc pc = .ok (ins, fm_ln ins)) (h : fm_stA oc ins pc lo st M = some C')
    (k : fm_ww l D cA ad nL p e R s m args below meth c A Q cells slots C') : fm_ww l D cA ad nL p e R s m args below meth c A Q cells slots (pc, lo, st, M) := by
  obtain ⟨hx, hb, -, hown, hts, -⟩ := X
  intro H locs ls hP hS hl hv
  cases ins
  case iconst n =>
    cases h
    exact lv_iconst hx hb hd rfl (k H locs ls hP hS hl (fm_vd_push hv trivial))
  case bipush n =>
    cases h
    exact lv_bipush hx hb hd rfl (k H locs ls hP hS hl (fm_vd_push hv trivial))
  case sipush n =>
    cases h
    exact lv_sipush hx hb hd rfl (k H locs ls hP hS hl (fm_vd_push hv trivial))
  case lconst n =>
    cases h
    exact lv_lconst hx hb hd rfl (k H locs ls hP hS hl (fm_vd_push hv trivial))
  case dconst n =>
    match n, h, hd with
    | 0, h, hd =>
      cases h
      exact lv_dconst0 hx hb hd (k H locs ls hP hS hl (fm_vd_push hv trivial))
    | 1, h, hd => cases h
  case ldc ix =>
    simp only [fm_stA] at h
    split at h
    · next v hk =>
      cases h
      exact lv_ldcf hx hb hown (hts _ (fm_kf_in hk)) hd (k H locs ls hP hS hl (fm_vd_push hv trivial))
    · cases h
  case ldc2_w ix =>
    simp only [fm_stA] at h
    split at h
    · next v hk =>
      cases h
      exact lv_ldc2d hx hb hown (hts _ (fm_kd_in hk)) hd (k H locs ls hP hS hl (fm_vd_push hv trivial))
    · cases h
  case iload_n n =>
    simp only [fm_stA] at h
    split at h
    · next x hk =>
      cases h
      exact lv_iload_n hx hb hd rfl (fm_lk_at hl hk) (k H locs ls hP hS hl (fm_vd_push hv trivial))
    · cases h
  case iload n =>
    simp only [fm_stA] at h
    split at h
    · next x hk =>
      cases h
      exact lv_iload hx hb hd (fm_lk_at hl hk) (k H locs ls hP hS hl (fm_vd_push hv trivial))
    · cases h
  case lload_n n =>
    simp only [fm_stA] at h
    split at h
    · next x hk =>
      cases h
      exact lv_lload_n hx hb hd rfl (fm_lk_at hl hk) (k H locs ls hP hS hl (fm_vd_push hv trivial))
    · cases h
  case lload n =>
    simp only [fm_stA] at h
    split at h
    · next x hk =>
      cases h
      exact lv_lload hx hb hd (fm_lk_at hl hk) (k H locs ls hP hS hl (fm_vd_push hv trivial))
    · cases h
  case fload_n n =>
    simp only [fm_stA] at h
    split at h
    · next x hk =>
      cases h
      exact lv_fload_n hx hb hd rfl (fm_lk_at hl hk) (k H locs ls hP hS hl (fm_vd_push hv trivial))
    · cases h
  case dload_n n =>
    simp only [fm_stA] at h
    split at h
    · next x hk =>
      cases h
      exact lv_dload_n hx hb hd rfl (fm_lk_at hl hk) (k H locs ls hP hS hl (fm_vd_push hv trivial))
    · cases h
  case dload n =>
    simp only [fm_stA] at h
    split at h
    · next x hk =>
      cases h
      exact lv_dload hx hb hd (fm_lk_at hl hk) (k H locs ls hP hS hl (fm_vd_push hv trivial))
    · cases h
  case aload_n n =>
    simp only [fm_stA] at h
    split at h
    · next x hk =>
      cases h
      exact lv_aload_n hx hb hd rfl (fm_lk_at hl hk) (k H locs ls hP hS hl (fm_vd_push hv (fm_vd_lk hv hk)))
    · cases h
  case aload n =>
    simp only [fm_stA] at h
    split at h
    · next x hk =>
      cases h
      exact lv_aload hx hb hd (fm_lk_at hl hk) (k H locs ls hP hS hl (fm_vd_push hv (fm_vd_lk hv hk)))
    · cases h
  all_goals (simp only [fm_stA] at h; exact nomatch h)
end StA
