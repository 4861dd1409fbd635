/-! a boolean field; the script; branches; switches -/
def fm_gdC (fl : Nat → Option (Nat × Nat)) (ins : Instr) (pc : Nat) (l : List (Nat × fm_V)) (st : List fm_V) (M : fm_M) : Option (Prop × fm_C) :=
  match ins with
  | .putfield ix => match st with
    | .inl x :: .inr (.inr (.inr (.inr q))) :: r => match fl ix with
      | some f => cond (fm_is q.1 f.1 && (Nat.beq (fm_ft f.1 f.2) 1 && !fm_fin f.1 f.2)) (some (x = 0 ∨ x = 1, (pc + 3, l, r, (fm_u M.1 q.1 q.2 f.2 x, M.2)))) none
      | none => none
    | _ => none
  | _ => none
theorem fm_bz {x : Int32} (h : x = 0 ∨ x = 1) : narrow .boolean (.int x) = .int x ∧ fits .boolean (.int x) = true := by
  rcases h with rfl | rfl <;> decide
section GdC
variable {l : Launch} {D : va_G} {cA : Nat → ClassId} {ad : fm_A} {L : Nat} {xs : Nat → Int32} {oc : Nat} {cc : ByteArray} {nL : Nat} {p : Program} {e : Env} {R : Room} {s : State} {m : MethodId} {args : Array Value} {below : List Frame} {meth : Method} {c : Code} {A : Nat → Prop} {Q : State → Prop} {cells slots : Nat}
set_option maxHeartbeats 4000000 in
theorem fm_goC (X : fm_cx l D cA ad L xs oc cc nL p s m args meth c A) {fl : Nat → Option (Nat × Nat)} (hfl : fm_flo oc fl) {ins : Instr} {pc : Nat} {lo : List (Nat × fm_V)} {st : List fm_V} {M : fm_M} {g : Prop × fm_C} (hd : decode cc pc = .ok (ins, fm_ln ins)) (h : fm_gdC fl ins pc lo st M = some g) (hg : g.1)
    (k : fm_ww l D cA ad nL p e R s m args below meth c A Q cells slots g.2) : fm_ww l D cA ad nL p e R s m args below meth c A Q cells slots (pc, lo, st, M) := by
  intro H locs ls hP hS hl hv
  cases ins
  case putfield ix =>
    simp only [fm_gdC] at h
    split at h
    · next x q r =>
      split at h
      · next f hf =>
        cases hq : fm_is q.1 f.1 with
        | false => rw [hq] at h; cases h
        | true =>
          cases hft : Nat.beq (fm_ft f.1 f.2) 1 with
          | false => rw [hq, hft] at h; cases h
          | true =>
            cases hfin : fm_fin f.1 f.2 with
            | true => rw [hq, hft, hfin] at h; cases h
            | false =>
              rw [hq, hft, hfin] at h
              cases h
              have hft' : fm_ft f.1 f.2 = 1 := Nat.eq_of_beq_eq_true hft
              have hsl := (hfl ix f hf).2.1
              refine fm_putf (M' := (fm_u M.1 q.1 q.2 f.2 x, M.2)) X hfl hq hf hfin (hv.2.1 _ (List.mem_cons_of_mem _ List.mem_cons_self)) (fun ty0 _ t1 _ => by rw [t1 f.2 hsl hft']; exact fm_bz hg) ?_ ?_ ?_ hd hP hS ?_
              · unfold fm_fv
                rw [hft']
                simp [fm_u_if, fm_cv]
                rfl
              · intro z hz
                unfold fm_fv
                simp [fm_u_if, hz]
              · intro k' i' hne
                exact fm_ce_congr (fun _ => fm_u_ne hne) (fun _ => rfl) (fun _ => rfl) (fun _ => rfl)
              · intro H1 locs1 hP1 hS1
                exact k H1 locs1 ls hP1 hS1 hl (fm_vd_mem hv (fun w hw => List.mem_cons_of_mem _ (List.mem_cons_of_mem _ hw)) hv.2.2)
      · cases h
    · cases h
  all_goals (simp only [fm_gdC] at h; exact nomatch h)
end GdC
def fm_tg (pc : Nat) (off : Int) : Option Nat := match (pc : Int) + off with
  | .ofNat t => some t
  | .negSucc _ => none
theorem fm_tg_ok {pc t : Nat} {off : Int} (h : fm_tg pc off = some t) : (pc : Int) + off = (t : Int) := by
  unfold fm_tg at h
  split at h
  · next t' ht => cases h; exact ht
  · cases h
def fm_br (ins : Instr) (pc : Nat) (l : List (Nat × fm_V)) (st : List fm_V) (M : fm_M) : Option (Prop × fm_C × fm_C) :=
  match ins with
  | .ifCond o off => match st with
    | .inl x :: r => match fm_tg pc off with
      | some t => match o with
        | .eq => some (x = 0, (t, l, r, M), (pc + 3, l, r, M))
        | .ne => some (x = 0, (pc + 3, l, r, M), (t, l, r, M))
        | .lt => some (x < 0, (t, l, r, M), (pc + 3, l, r, M))
        | .ge => some (0 ≤ x, (t, l, r, M), (pc + 3, l, r, M))
        | .gt => some (0 < x, (t, l, r, M), (pc + 3, l, r, M))
        | .le => some (x ≤ 0, (t, l, r, M), (pc + 3, l, r, M))
      | none => none
    | _ => none
  | .if_icmp o off => match st with
    | .inl y :: .inl x :: r => match fm_tg pc off with
      | some t => match o with
        | .eq => some (x = y, (t, l, r, M), (pc + 3, l, r, M))
        | .ne => some (x = y, (pc + 3, l, r, M), (t, l, r, M))
        | .lt => some (x < y, (t, l, r, M), (pc + 3, l, r, M))
        | .ge => some (y ≤ x, (t, l, r, M), (pc + 3, l, r, M))
        | .gt => some (y < x, (t, l, r, M), (pc + 3, l, r, M))
        | .le => some (x ≤ y, (t, l, r, M), (pc + 3, l, r, M))
      | none => none
    | _ => none
  | _ => none
section Br
variable {l : Launch} {D : va_G} {cA : Nat → ClassId} {ad : fm_A} {L : Nat} {xs : Nat → Int32} {oc : Nat} {cc : ByteArray} {nL : Nat} {p : Program} {e : Env} {R : Room} {s : State} {m : MethodId} {args : Array Value} {below : List Frame} {meth : Method} {c : Code} {A : Nat → Prop} {Q : State → Prop} {cells slots : Nat}
set_option maxHeartbeats 4000000 in
theorem fm_bro (X : fm_cx l D cA ad L xs oc cc nL p s m args meth c A) {ins : Instr} {pc : Nat} {lo : List (Nat × fm_V)} {st : List fm_V} {M : fm_M} {g : Prop × fm_C × fm_C} (hd : decode cc pc = .ok (ins, fm_ln ins)) (h : fm_br ins pc lo st M = some g)
    (kt : g.1 → fm_ww l D cA ad nL p e R s m args below meth c A Q cells slots g.2.1) (kf : ¬ g.1 → fm_ww l D cA ad nL p e R s m args below meth c A Q cells slots g.2.2) : fm_ww l D cA ad nL p e R s m args below meth c A Q cells slots (pc, lo, st, M) := by
  obtain ⟨hx, hb, -, hown, hts, hK, hD, -⟩ := X
  intro H locs ls hP hS hl hv
  cases ins
  case ifCond o off =>
    simp only [fm_br] at h
    split at h
    · next x r =>
      split at h
      · next t ht =>
        have v1 : fm_vd (t, lo, r, M) := ⟨hv.1, fun w hw => hv.2.1 w (List.mem_cons_of_mem _ hw), hv.2.2⟩
        have v2 : fm_vd (pc + 3, lo, r, M) := ⟨hv.1, fun w hw => hv.2.1 w (List.mem_cons_of_mem _ hw), hv.2.2⟩
        have ht := fm_tg_ok ht
        cases o <;> cases h
        · exact lv_if_eq hx hb hd ht (fun q => kt q H locs ls hP hS hl v1) (fun q => kf q H locs ls hP hS hl v2)
        · exact lv_if_ne hx hb hd ht (fun q => kf q H locs ls hP hS hl v1) (fun q => kt q H locs ls hP hS hl v2)
        · exact lv_if_lt hx hb hd ht (fun q => kt q H locs ls hP hS hl v1) (fun q => kf q H locs ls hP hS hl v2)
        · exact lv_if_ge hx hb hd ht (fun q => kt q H locs ls hP hS hl v1) (fun q => kf q H locs ls hP hS hl v2)
        · exact lv_if_gt hx hb hd ht (fun q => kt q H locs ls hP hS hl v1) (fun q => kf q H locs ls hP hS hl v2)
        · exact lv_if_le hx hb hd ht (fun q => kt q H locs ls hP hS hl v1) (fun q => kf q H locs ls hP hS hl v2)
      · cases h
    · cases h
  case if_icmp o off =>
    simp only [fm_br] at h
    split at h
    · next y x r =>
      split at h
      · next t ht =>
        have v1 : fm_vd (t, lo, r, M) := ⟨hv.1, fun w hw => hv.2.1 w (List.mem_cons_of_mem _ (List.mem_cons_of_mem _ hw)), hv.2.2⟩
        have v2 : fm_vd (pc + 3, lo, r, M) := ⟨hv.1, fun w hw => hv.2.1 w (List.mem_cons_of_mem _ (List.mem_cons_of_mem _ hw)), hv.2.2⟩
        have ht := fm_tg_ok ht
        cases o <;> cases h
        · exact lv_icmp_eq hx hb hd ht (fun q => kt q H locs ls hP hS hl v1) (fun q => kf q H locs ls hP hS hl v2)
        · exact lv_icmp_ne hx hb hd ht (fun q => kf q H locs ls hP hS hl v1) (fun q => kt q H locs ls hP hS hl v2)
        · exact lv_icmp_lt hx hb hd ht (fun q => kt q H locs ls hP hS hl v1) (fun q => kf q H locs ls hP hS hl v2)
        · exact lv_icmp_ge hx hb hd ht (fun q => kt q H locs ls hP hS hl v1) (fun q => kf q H locs ls hP hS hl v2)
        · exact lv_icmp_gt hx hb hd ht (fun q => kt q H locs ls hP hS hl v1) (fun q => kf q H locs ls hP hS hl v2)
        · exact lv_icmp_le hx hb hd ht (fun q => kt q H locs ls hP hS hl v1) (fun q => kf q H locs ls hP hS hl v2)
      · cases h
    · cases h
  all_goals (simp only [fm_br] at h; exact nomatch h)
/-- where a switch goes at the value v -/
def fm_sw (v : Int) (ins : Instr) (pc : Nat) (l : List (Nat × fm_V)) (st : List fm_V) (M : fm_M) : Option (Prop × fm_C) :=
  match ins with
  | .tableswitch d lo hi offs => match st with
    | .inl x :: r => match fm_tg pc (cond (decide (v < lo) || decide (hi < v)) d (offs.getD (v - lo).toNat d)) with
      | some t => cond (decide (v < lo) || decide (hi < v) || decide ((v - lo).toNat < offs.size)) (some (x.toInt = v, (t, l, r, M))) none
      | none => none
    | _ => none
  | _ => none
/-- a switch whose value lies outside -/
def fm_so (ins : Instr) (pc : Nat) (l : List (Nat × fm_V)) (st : List fm_V) (M : fm_M) : Option (Prop × fm_C) :=
  match ins with
  | .tableswitch d lo hi _ => match st with
    | .inl x :: r => match fm_tg pc d with
      | some t => some (x.toInt < lo ∨ hi < x.toInt, (t, l, r, M))
      | none => none
    | _ => none
  | _ => none
set_option maxHeartbeats 4000000 in
theorem fm_swo (X : fm_cx l D cA ad L xs oc cc nL p s m args meth c A) {v : Int} {ins : Instr} {pc len : Nat} {lo : List (Nat × fm_V)} {st : List fm_V} {M : fm_M} {g : Prop × fm_C} (hd : decode cc pc = .ok (ins, len)) (h : fm_sw v ins pc lo st M = some g) (hg : g.1)
    (k : fm_ww l D cA ad nL p e R s m args below meth c A Q cells slots g.2) : fm_ww l D cA ad nL p e R s m args below meth c A Q cells slots (pc, lo, st, M) := by
  obtain ⟨hx, hb, -, hown, hts, hK, hD, -⟩ := X
  intro H locs ls hP hS hl hv
  cases ins
  case tableswitch d lw hi offs =>
    simp only [fm_sw] at h
    split at h
    · next x r =>
      split at h
      · next t ht =>
        have ht := fm_tg_ok ht
        cases hc : (decide (v < lw) || decide (hi < v)) with
        | true =>
          rw [hc] at h ht
          simp only [Bool.true_or, cond_true] at h ht
          cases h
          refine lv_tableOut hx hb hd ?_ ht (k H locs ls hP hS hl ⟨hv.1, fun w hw => hv.2.1 w (List.mem_cons_of_mem _ hw), hv.2.2⟩)
          have hg : x.toInt = v := hg
          rw [hg]
          simpa using hc
        | false =>
          rw [hc] at h ht
          simp only [Bool.false_or, cond_false] at h ht
          cases hs : decide ((v - lw).toNat < offs.size) with
          | false => rw [hs] at h; cases h
          | true =>
            rw [hs] at h
            cases h
            have hg : x.toInt = v := hg
            simp only [Bool.or_eq_false_iff, decide_eq_false_iff_not] at hc
            have hs' : (v - lw).toNat < offs.size := of_decide_eq_true hs
            refine lv_tableIn hx hb hd (by rw [hg]; exact hc.1) (by rw [hg]; exact hc.2) (off := offs.getD (v - lw).toNat d) ?_ ht (k H locs ls hP hS hl ⟨hv.1, fun w hw => hv.2.1 w (List.mem_cons_of_mem _ hw), hv.2.2⟩)
            rw [hg, Array.getD_eq_getD_getElem?, Array.getElem?_eq_getElem hs']
            rfl
      · cases h
    · cases h
  all_goals (simp only [fm_sw] at h; exact nomatch h)
set_option maxHeartbeats 4000000 in
theorem fm_soo (X : fm_cx l D cA ad L xs oc cc nL p s m args meth c A) {ins : Instr} {pc len : Nat} {lo : List (Nat × fm_V)} {st : List fm_V} {M : fm_M} {g : Prop × fm_C} (hd : decode cc pc = .ok (ins, len)) (h : fm_so ins pc lo st M = some g) (hg : g.1)
    (k : fm_ww l D cA ad nL p e R s m args below meth c A Q cells slots g.2) : fm_ww l D cA ad nL p e R s m args below meth c A Q cells slots (pc, lo, st, M) := by
  obtain ⟨hx, hb, -, hown, hts, hK, hD, -⟩ := X
  intro H locs ls hP hS hl hv
  cases ins
  case tableswitch d lw hi offs =>
    simp only [fm_so] at h
    split at h
    · next x r =>
      split at h
      · next t ht =>
        cases h
        exact lv_tableOut hx hb hd hg (fm_tg_ok ht) (k H locs ls hP hS hl ⟨hv.1, fun w hw => hv.2.1 w (List.mem_cons_of_mem _ hw), hv.2.2⟩)
      · cases h
    · cases h
  all_goals (simp only [fm_so] at h; exact nomatch h)
/-- the script's ints, and its length -/
def fm_gdS (L : Nat) (xs : Nat → Int32) (ins : Instr) (pc : Nat) (l : List (Nat × fm_V)) (st : List fm_V) (M : fm_M) : Option (Prop × fm_C) :=
  match ins with
  | .iaload => match st with
    | .inl j :: .inr (.inr (.inr (.inr (50, 0)))) :: r => some (vp_in j L, (pc + 1, l, .inl (xs j.toNatClampNeg) :: r, M))
    | _ => none
  | .arraylength => match st with
    | .inr (.inr (.inr (.inr (50, 0)))) :: r => some (True, (pc + 1, l, .inl (nI L) :: r, M))
    | _ => none
  | _ => none
set_option maxHeartbeats 4000000 in
theorem fm_goS (X : fm_cx l D cA ad L xs oc cc nL p s m args meth c A) {ins : Instr} {pc : Nat} {lo : List (Nat × fm_V)} {st : List fm_V} {M : fm_M} {g : Prop × fm_C} (hd : decode cc pc = .ok (ins, fm_ln ins)) (h : fm_gdS L xs ins pc lo st M = some g) (hg : g.1)
    (k : fm_ww l D cA ad nL p e R s m args below meth c A Q cells slots g.2) : fm_ww l D cA ad nL p e R s m args below meth c A Q cells slots (pc, lo, st, M) := by
  obtain ⟨hx, hb, -, hown, hts, hK, hD, -, ⟨hX, hbl, hbA⟩, -⟩ := X
  intro H locs ls hP hS hl hv
  cases ins
  case iaload =>
    simp only [fm_gdS] at h
    split at h
    · next j r =>
      cases h
      exact va_sld hx hb hX hbl hbA hS hg hd (k H locs ls hP hS hl (fm_vd_st hv (List.forall_mem_cons.mpr ⟨trivial, fun w hw => hv.2.1 w (List.mem_cons_of_mem _ (List.mem_cons_of_mem _ hw))⟩)))
    · cases h
  case arraylength =>
    simp only [fm_gdS] at h
    split at h
    · next r =>
      cases h
      exact va_slen hx hb hX hbl hbA hS hd (k H locs ls hP hS hl (fm_vd_st hv (List.forall_mem_cons.mpr ⟨trivial, fun w hw => hv.2.1 w (List.mem_cons_of_mem _ hw)⟩)))
    · cases h
  all_goals (simp only [fm_gdS] at h; exact nomatch h)
end Br
