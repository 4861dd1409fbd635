/-! fields and array lengths -/
def fm_rt : FieldType → Bool
  | .object _ => true
  | .array _ => true
  | _ => false
theorem fm_rt_ok {ty : FieldType} (h : fm_rt ty = true) (a : Nat) : narrow ty (.ref a) = .ref a ∧ fits ty (.ref a) = true := by
  cases ty <;> first | (exact ⟨rfl, rfl⟩) | (cases h)
def fm_clp (ci : Nat) (C : String) (T : u_T) (N : Nat) (ty0 : Nat → FieldType) : Prop :=
  fm_cls[ci]? = some (C, T, N) ∧ fm_cls.getD ci ("", fm_T0, 0) = (C, T, N) ∧ N = fm_nf ci ∧ (∀ w ∈ u_ws C T N, w ∈ fm_TB) ∧ (∀ k, k < N → parseFieldDescriptor (T k).2.2.1 = some (ty0 k)) ∧ (∀ a, a < N → ∀ b, b < N → a ≠ b → (T a).2.1 ≠ (T b).2.1) ∧
  (∀ k, k < N → (T k).1 = C) ∧ (∀ k, k < N → (T k).2.2.2 = fm_fin ci k) ∧ (∀ k, k < N → fm_ft ci k = 0 → ty0 k = .int) ∧ (∀ k, k < N → fm_ft ci k = 1 → ty0 k = .boolean) ∧ (∀ k, k < N → fm_ft ci k = 2 → fm_rt (ty0 k) = true)
theorem fm_clo : ∀ ci, ci < 7 → ∃ C T N ty0, fm_clp ci C T N ty0
  | 0, _ => ⟨_, fm_T0, _, fm_y0, rfl, rfl, rfl, fm_in0, fm_ty0, fm_nm0, by decide +kernel, by decide +kernel, by decide +kernel, by decide +kernel, by decide +kernel⟩
  | 1, _ => ⟨_, fm_T1, _, fm_y1, rfl, rfl, rfl, fm_in1, fm_ty1, fm_nm1, by decide +kernel, by decide +kernel, by decide +kernel, by decide +kernel, by decide +kernel⟩
  | 2, _ => ⟨_, fm_T2, _, fm_y2, rfl, rfl, rfl, fm_in2, fm_ty2, fm_nm2, by decide +kernel, by decide +kernel, by decide +kernel, by decide +kernel, by decide +kernel⟩
  | 3, _ => ⟨_, fm_T3, _, fm_y3, rfl, rfl, rfl, fm_in3, fm_ty3, fm_nm3, by decide +kernel, by decide +kernel, by decide +kernel, by decide +kernel, by decide +kernel⟩
  | 4, _ => ⟨_, fm_T4, _, fm_y4, rfl, rfl, rfl, fm_in4, fm_ty4, fm_nm4, by decide +kernel, by decide +kernel, by decide +kernel, by decide +kernel, by decide +kernel⟩
  | 5, _ => ⟨_, fm_T5, _, fm_y5, rfl, rfl, rfl, fm_in5, fm_ty5, fm_nm5, by decide +kernel, by decide +kernel, by decide +kernel, by decide +kernel, by decide +kernel⟩
  | 6, _ => ⟨_, fm_T6, _, fm_y6, rfl, rfl, rfl, fm_in6, fm_ty6, fm_nm6, by decide +kernel, by decide +kernel, by decide +kernel, by decide +kernel, by decide +kernel⟩
  | n + 7, h => absurd h (by omega)
def fm_flo (oc : Nat) (fl : Nat → Option (Nat × Nat)) : Prop := ∀ ix f, fl ix = some f → f.1 < 7 ∧ f.2 < fm_nf f.1 ∧ Cond.fieldLink (fm_cn oc) ix (fm_cls.getD f.1 ("", fm_T0, 0)).1 ((fm_cls.getD f.1 ("", fm_T0, 0)).2.1 f.2).2.1 ((fm_cls.getD f.1 ("", fm_T0, 0)).2.1 f.2).2.2.1 ∈ fm_TB
def fm_is (k ci : Nat) : Bool := match fm_kc k with
  | some c => Nat.beq c ci && Nat.blt k 50
  | none => false
theorem fm_is_ok {k ci : Nat} (h : fm_is k ci = true) : fm_kc k = some ci ∧ k < 50 := by
  unfold fm_is at h
  split at h
  · next c hc =>
    simp only [Bool.and_eq_true] at h
    exact ⟨by rw [hc, Nat.eq_of_beq_eq_true h.1], Nat.le_of_ble_eq_true h.2⟩
  · cases h
theorem fm_ce_o {cA : Nat → ClassId} {ad : fm_A} {M : fm_M} {k i ci : Nat} (h : fm_kc k = some ci) : fm_ce cA ad M k i = .inr (ci, (List.range (fm_nf ci)).map (fm_fv ad M ci k i)) := by
  unfold fm_ce
  rw [h]
theorem fm_fs_at {ad : fm_A} {M : fm_M} {ci k i sl N : Nat} (h : sl < N) : ((List.range N).map (fm_fv ad M ci k i))[sl]? = some (fm_fv ad M ci k i sl) := by
  rw [List.getElem?_map, List.getElem?_range h]
  rfl
theorem fm_fs_set {ad : fm_A} {M M' : fm_M} {ci k i sl N : Nat} {v : Value} (h : sl < N) (hv : fm_fv ad M' ci k i sl = v) (ho : ∀ z, z ≠ sl → fm_fv ad M' ci k i z = fm_fv ad M ci k i z) : ((List.range N).map (fm_fv ad M ci k i)).set sl v = (List.range N).map (fm_fv ad M' ci k i) := by
  apply List.ext_getElem?
  intro n
  by_cases hn : n = sl
  · subst hn
    rw [List.getElem?_set_self (by simpa using h), fm_fs_at h, hv]
  · rw [List.getElem?_set_ne (Ne.symm hn), List.getElem?_map, List.getElem?_map]
    cases hz : (List.range N)[n]? with
    | none => rfl
    | some z =>
      have : z = n := by
        have h2 := List.getElem?_eq_some_iff.mp hz
        obtain ⟨h3, h4⟩ := h2
        rw [List.getElem_range] at h4
        exact h4.symm
      subst this
      simp only [Option.map_some]
      rw [ho z hn]
def fm_stG (fl : Nat → Option (Nat × Nat)) (ins : Instr) (pc : Nat) (l : List (Nat × fm_V)) (st : List fm_V) (M : fm_M) : Option fm_C :=
  match ins with
  | .getfield ix => match st with
    | .inr (.inr (.inr (.inr q))) :: r => match fl ix with
      | some f => cond (fm_is q.1 f.1) (some (pc + 3, l, cond (Nat.beq (fm_ft f.1 f.2) 2) (.inr (.inr (.inr (.inr (M.2.2.2 q.1 q.2 f.2))))) (.inl (M.1 q.1 q.2 f.2)) :: r, M)) none
      | none => none
    | _ => none
  | .putfield ix => match st with
    | .inl x :: .inr (.inr (.inr (.inr q))) :: r => match fl ix with
      | some f => cond (fm_is q.1 f.1 && (Nat.beq (fm_ft f.1 f.2) 0 && !fm_fin f.1 f.2)) (some (pc + 3, l, r, (fm_u M.1 q.1 q.2 f.2 x, M.2))) none
      | none => none
    | .inr (.inr (.inr (.inr w))) :: .inr (.inr (.inr (.inr q))) :: r => match fl ix with
      | some f => cond (fm_is q.1 f.1 && (Nat.beq (fm_ft f.1 f.2) 2 && !fm_fin f.1 f.2)) (some (pc + 3, l, r, (M.1, M.2.1, M.2.2.1, fm_u M.2.2.2 q.1 q.2 f.2 w))) none
      | none => none
    | _ => none
  | .arraylength => match st with
    | .inr (.inr (.inr (.inr q))) :: r => match fm_ka q.1 with
      | some t => cond (Nat.blt q.1 50 && Nat.blt t.1 6) (some (pc + 1, l, .inl (Int32.ofNat t.2) :: r, M)) none
      | none => none
    | _ => none
  | _ => none
theorem fm_kc_ka : ∀ k, k < 50 → fm_kc k = none ∨ fm_ka k = none := by decide +kernel
theorem fm_ce_a {cA : Nat → ClassId} {ad : fm_A} {M : fm_M} {k i : Nat} {t : Nat × Nat} (hk : k < 50) (h : fm_ka k = some t) : fm_ce cA ad M k i = .inl (cA t.1, t.2, fm_ar ad M t.1 k i) := by
  unfold fm_ce
  rcases fm_kc_ka k hk with h2 | h2
  · rw [h2, h]
  · rw [h2] at h
    cases h
theorem fm_tys_at {cA : Nat → ClassId} {t : Nat} (h : t < 6) : ∃ ty, (fm_tys cA)[t]? = some (cA t, ty) := by
  rcases (show t = 0 ∨ t = 1 ∨ t = 2 ∨ t = 3 ∨ t = 4 ∨ t = 5 by omega) with rfl | rfl | rfl | rfl | rfl | rfl <;> exact ⟨_, rfl⟩
section StG
variable {l : Launch} {D : va_G} {cA : Nat → ClassId} {ad : fm_A} {L : Nat} {xs : Nat → Int32} {oc : Nat} {cc : ByteArray} {nL : Nat} {p : Program} {e : Env} {R : Room} {s : State} {m : MethodId} {args : Array Value} {below : List Frame} {meth : Method} {c : Code} {A : Nat → Prop} {Q : State → Prop} {cells slots : Nat}
set_option maxHeartbeats 4000000 in
/-- a field written: the world and the pure memory go on together -/
theorem fm_putf (X : fm_cx l D cA ad L xs oc cc nL p s m args meth c A) {fl : Nat → Option (Nat × Nat)} (hfl : fm_flo oc fl) {ix : Nat} {q f : Nat × Nat} (hq : fm_is q.1 f.1 = true) (hf : fl ix = some f) (hfin : fm_fin f.1 f.2 = false) (hok : q.2 < fm_cnt q.1) {pc : Nat} {rest : List Value} {v : Value} {M M' : fm_M}
    (hty : ∀ ty0 : Nat → FieldType, (∀ k, k < fm_nf f.1 → fm_ft f.1 k = 0 → ty0 k = .int) → (∀ k, k < fm_nf f.1 → fm_ft f.1 k = 1 → ty0 k = .boolean) → (∀ k, k < fm_nf f.1 → fm_ft f.1 k = 2 → fm_rt (ty0 k) = true) → narrow (ty0 f.2) v = v ∧ fits (ty0 f.2) v = true)
    (hself : fm_fv ad M' f.1 q.1 q.2 f.2 = v) (hslots : ∀ z, z ≠ f.2 → fm_fv ad M' f.1 q.1 q.2 z = fm_fv ad M f.1 q.1 q.2 z) (hother : ∀ k' i', (k', i') ≠ (q.1, q.2) → fm_ce cA ad M' k' i' = fm_ce cA ad M k' i')
    (hd : decode cc pc = .ok (.putfield ix, 3)) {H : Heap} {locs : List Loc} {ls : Array Slot} (hP : va_P D fm_cls (fm_wl cA ad M) H) (hS : va_S A s.heap H locs)
    (k : ∀ (H1 : Heap) (locs1 : List Loc), va_P D fm_cls (fm_wl cA ad M') H1 → va_S A s.heap H1 locs1 → W p l e R s m args below meth c H1 locs1 cells slots Q (F0 m (pc + 3) ls rest)) :
    W p l e R s m args below meth c H locs cells slots Q (F0 m pc ls (v :: .ref (ad q.1 q.2) :: rest)) := by
  obtain ⟨hx, hb, -, hown, hts, hK, hD, -⟩ := X
  obtain ⟨h7, hsl, hlink⟩ := hfl ix f hf
  obtain ⟨C, T, N, ty0, hc, hgd, hN, hin, hty0, hnm, hC, hfi, t0, t1, t2⟩ := fm_clo f.1 h7
  obtain ⟨hkc, hk50⟩ := fm_is_ok hq
  obtain ⟨j, hj⟩ := fm_ki_at hk50 hok
  subst hN
  rw [hgd] at hlink
  have he : (fm_wl cA ad M)[j]? = some (ad q.1 q.2, .inr (f.1, (List.range (fm_nf f.1)).map (fm_fv ad M f.1 q.1 q.2))) := by rw [fm_wl_at hj, fm_ce_o hkc]
  obtain ⟨n1, n2⟩ := hty ty0 t0 t1 t2
  have hset := fm_wl_set (cA := cA) (ad := ad) (M := M) (M' := M') hj hother (e := .inr (f.1, (List.range (fm_nf f.1)).map (fm_fv ad M' f.1 q.1 q.2))) (fm_ce_o hkc)
  refine va_put (D := D) (cl := fm_cls) (ref := C) (C := C) (T := T) (N := fm_nf f.1) (ci := f.1) (Ts := fm_TB) hx hb hts hin ty0 hty0 hnm hown hK hP (hD M) hS j he hc f.2 hsl (hts _ hlink) (fun z hz => by rw [← hC f.2 hsl]; exact hz) (by rw [hfi f.2 hsl]; exact hfin) (hty0 f.2 hsl) n1 n2 (by simpa using hsl) hd (fun H1 locs1 hP1 hD1 hS1 => ?_)
  rw [fm_fs_set hsl hself hslots, hset] at hP1
  exact k H1 locs1 hP1 hS1
theorem fm_vd_mem {pc pc' : Nat} {l : List (Nat × fm_V)} {st st' : List fm_V} {M M' : fm_M} (h : fm_vd (pc, l, st, M)) (hs : ∀ w ∈ st', w ∈ st) (hm : fm_okM M') : fm_vd (pc', l, st', M') := ⟨h.1, fun w hw => h.2.1 w (hs w hw), hm⟩
set_option maxHeartbeats 4000000 in
theorem fm_soG (X : fm_cx l D cA ad L xs oc cc nL p s m args meth c A) {fl : Nat → Option (Nat × Nat)} (hfl : fm_flo oc fl) {ins : Instr} {pc : Nat} {lo : List (Nat × fm_V)} {st : List fm_V} {M : fm_M} {C' : fm_C} (hd : decode cc pc = .ok (ins, fm_ln ins)) (h : fm_stG fl ins pc lo st M = some C')
    (k : fm_ww l D cA ad nL p e R s m args below meth c A Q cells slots C') : fm_ww l D cA ad nL p e R s m args below meth c A Q cells slots (pc, lo, st, M) := by
  have X0 := X
  obtain ⟨hx, hb, -, hown, hts, hK, hD, -⟩ := X
  intro H locs ls hP hS hl hv
  cases ins
  case getfield ix =>
    simp only [fm_stG] at h
    split at h
    · next q r =>
      split at h
      · next f hf =>
        cases hq : fm_is q.1 f.1 with
        | false => rw [hq] at h; cases h
        | true =>
          rw [hq] at h
          cases h
          obtain ⟨h7, hsl, hlink⟩ := hfl ix f hf
          obtain ⟨C, T, N, ty0, hc, hgd, hN, hin, hty0, hnm, hC, hfi, t0, t1, t2⟩ := fm_clo f.1 h7
          obtain ⟨hkc, hk50⟩ := fm_is_ok hq
          obtain ⟨j, hj⟩ := fm_ki_at hk50 (hv.2.1 _ List.mem_cons_self)
          subst hN
          rw [hgd] at hlink
          have he : (fm_wl cA ad M)[j]? = some (ad q.1 q.2, .inr (f.1, (List.range (fm_nf f.1)).map (fm_fv ad M f.1 q.1 q.2))) := by rw [fm_wl_at hj, fm_ce_o hkc]
          refine va_get (D := D) (cl := fm_cls) (ref := C) (C := C) (T := T) (N := fm_nf f.1) (ci := f.1) (Ts := fm_TB) hx hb hts hin hown hK hP j he hc f.2 hsl (hts _ hlink) (fun z hz => by rw [← hC f.2 hsl]; exact hz) (v := fm_cv ad (cond (Nat.beq (fm_ft f.1 f.2) 2) (.inr (.inr (.inr (.inr (M.2.2.2 q.1 q.2 f.2))))) (.inl (M.1 q.1 q.2 f.2)))) ?_ hd ?_
          · rw [fm_fs_at hsl]
            unfold fm_fv
            cases Nat.beq (fm_ft f.1 f.2) 2 <;> rfl
          · refine k H locs ls hP hS hl (fm_vd_st hv (List.forall_mem_cons.mpr ⟨?_, fun w hw => hv.2.1 w (List.mem_cons_of_mem _ hw)⟩))
            cases Nat.beq (fm_ft f.1 f.2) 2
            · exact trivial
            · exact hv.2.2 _ _ _ hk50 (hv.2.1 _ List.mem_cons_self) (by unfold fm_sz; rw [hkc]; exact hsl)
      · cases h
    · cases h
  case putfield ix =>
    simp only [fm_stG] at h
    split at h
    · next x q r =>
      split at h
      · next f hf =>
        cases hq : fm_is q.1 f.1 with
        | false => rw [hq] at h; cases h
        | true =>
          cases hft : Nat.beq (fm_ft f.1 f.2) 0 with
          | false => rw [hq, hft] at h; cases h
          | true =>
            cases hfin : fm_fin f.1 f.2 with
            | true => rw [hq, hft, hfin] at h; cases h
            | false =>
              rw [hq, hft, hfin] at h
              cases h
              have hft' : fm_ft f.1 f.2 = 0 := Nat.eq_of_beq_eq_true hft
              have hsl := (hfl ix f hf).2.1
              refine fm_putf (M' := (fm_u M.1 q.1 q.2 f.2 x, M.2)) X0 hfl hq hf hfin (hv.2.1 _ (List.mem_cons_of_mem _ List.mem_cons_self)) (fun ty0 t0 _ _ => by rw [t0 f.2 hsl hft']; exact ⟨rfl, rfl⟩) ?_ ?_ ?_ hd hP hS ?_
              · unfold fm_fv
                rw [hft']
                simp [fm_u_if, fm_cv]
                rfl
              · intro z hz
                unfold fm_fv
                simp [fm_u_if, hz]
              · intro k' i' hne
                exact fm_ce_congr (fun _ => fm_u_ne hne) (fun _ => rfl) (fun _ => rfl) (fun _ => rfl)
              · intro H1 locs1 hP1 hS1
                exact k H1 locs1 ls hP1 hS1 hl (fm_vd_mem hv (fun w hw => List.mem_cons_of_mem _ (List.mem_cons_of_mem _ hw)) hv.2.2)
      · cases h
    · next w q r =>
      split at h
      · next f hf =>
        cases hq : fm_is q.1 f.1 with
        | false => rw [hq] at h; cases h
        | true =>
          cases hft : Nat.beq (fm_ft f.1 f.2) 2 with
          | false => rw [hq, hft] at h; cases h
          | true =>
            cases hfin : fm_fin f.1 f.2 with
            | true => rw [hq, hft, hfin] at h; cases h
            | false =>
              rw [hq, hft, hfin] at h
              cases h
              have hft' : fm_ft f.1 f.2 = 2 := Nat.eq_of_beq_eq_true hft
              have hsl := (hfl ix f hf).2.1
              refine fm_putf (M' := (M.1, M.2.1, M.2.2.1, fm_u M.2.2.2 q.1 q.2 f.2 w)) X0 hfl hq hf hfin (hv.2.1 _ (List.mem_cons_of_mem _ List.mem_cons_self)) (fun ty0 _ _ t2 => fm_rt_ok (t2 f.2 hsl hft') _) ?_ ?_ ?_ hd hP hS ?_
              · unfold fm_fv
                rw [hft']
                simp [fm_u_if]
              · intro z hz
                unfold fm_fv
                simp [fm_u_if, hz]
              · intro k' i' hne
                exact fm_ce_congr (fun _ => rfl) (fun _ => rfl) (fun _ => rfl) (fun _ => fm_u_ne hne)
              · intro H1 locs1 hP1 hS1
                refine k H1 locs1 ls hP1 hS1 hl (fm_vd_mem hv (fun w hw => List.mem_cons_of_mem _ (List.mem_cons_of_mem _ hw)) ?_)
                intro k' i' s' z1 z2 z3
                show ((fm_u M.2.2.2 q.1 q.2 f.2 w) k' i' s').2 < fm_cnt ((fm_u M.2.2.2 q.1 q.2 f.2 w) k' i' s').1
                rw [fm_u_if]
                split
                · exact hv.2.1 _ List.mem_cons_self
                · exact hv.2.2 _ _ _ z1 z2 z3
      · cases h
    · cases h
  case arraylength =>
    simp only [fm_stG] at h
    split at h
    · next q r =>
      split at h
      · next t ht =>
        cases h50 : Nat.blt q.1 50 with
        | false => rw [h50] at h; cases h
        | true =>
          cases h6 : Nat.blt t.1 6 with
          | false => rw [h50, h6] at h; cases h
          | true =>
            rw [h50, h6] at h
            cases h
            have hk50 : q.1 < 50 := Nat.le_of_ble_eq_true h50
            obtain ⟨j, hj⟩ := fm_ki_at hk50 (hv.2.1 _ List.mem_cons_self)
            obtain ⟨ty, hty⟩ := fm_tys_at (cA := cA) (Nat.le_of_ble_eq_true h6)
            have he : (fm_wl cA ad M)[j]? = some (ad q.1 q.2, .inl (cA t.1, t.2, fm_ar ad M t.1 q.1 q.2)) := by rw [fm_wl_at hj, fm_ce_a hk50 ht]
            exact va_alen hx hb hK hP j t.1 he hty rfl hd (k H locs ls hP hS hl (fm_vd_st hv (List.forall_mem_cons.mpr ⟨trivial, fun w hw => hv.2.1 w (List.mem_cons_of_mem _ hw)⟩)))
      · cases h
    · cases h
  all_goals (simp only [fm_stG] at h; exact nomatch h)
end StG
