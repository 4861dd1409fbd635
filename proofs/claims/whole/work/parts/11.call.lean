/-! RETURNS, CONTRACTS, CALLS -/
section Ret
variable {E : fm_Ev} {d : Nat} {u : fm_Me} {C : fm_C}
set_option maxHeartbeats 4000000 in
theorem fm_gR0 (O : fm_mo u) {g : Prop × Option fm_V} (h : fm_rt? u C = some g) (hg : g.1) : fm_Go E d u 0 C (fm_Zr E g.2 C.2.2.2) := by
  intro p e R s m args below meth c A cells slots X hr hA h1 h2 h3 h4
  obtain ⟨hx, hb, -, hown, hts, hK, hD, hAs, -, -, hlocks, -⟩ := X
  obtain ⟨pc, lo, st, M⟩ := C
  intro H locs ls hP hS hl hv
  have hq : ∀ v : Option fm_V, (∀ w ∈ v, fm_ok w) → ∀ t : State, t.heap = H → s.WarmedH t.vm → fm_Q E A v M args s (.returned (v.map (fm_cv E.2.2.2.1))) t := fun v hvv t ht _ => ⟨rfl, by rw [ht]; exact hP, hS.F ht, hvv, hv.2.2⟩
  unfold fm_rt? at h
  split at h
  · next hi =>
    obtain ⟨len, hd, hln⟩ := O.2 pc _ hi
    rw [hln rfl] at hd
    split at h
    · next e1 e2 =>
      cases h
      cases e2
      rw [e1] at hr
      exact W.vret hx hb hr (hq none (fun w hw => nomatch hw)) hS.2.2 hd
    · cases h
  · next hi =>
    obtain ⟨len, hd, hln⟩ := O.2 pc _ hi
    rw [hln rfl] at hd
    split at h
    · next x e1 e2 =>
      cases h
      cases e2
      rw [e1] at hr
      exact W.iret (v := x) hx hb hr (hq (some (.inl x)) (fun w hw => by cases hw; trivial)) hS.2.2 hd
    · next x e1 e2 =>
      cases h
      cases e2
      rw [e1] at hr
      exact W.zret (v := x) hx hb hr (fm_bz hg).1 (hq (some (.inl x)) (fun w hw => by cases hw; trivial)) hS.2.2 hd
    · cases h
  · next hi =>
    obtain ⟨len, hd, hln⟩ := O.2 pc _ hi
    rw [hln rfl] at hd
    split at h
    · next x e1 e2 =>
      cases h
      cases e2
      rw [e1] at hr
      exact W.lret (v := x) hx hb hr (hq (some (.inr (.inl x))) (fun w hw => by cases hw; trivial)) hS.2.2 hd
    · cases h
  · next hi =>
    obtain ⟨len, hd, hln⟩ := O.2 pc _ hi
    rw [hln rfl] at hd
    split at h
    · next x e1 e2 =>
      cases h
      cases e2
      rw [e1] at hr
      exact W.fret (v := x) hx hb hr (hq (some (.inr (.inr (.inl x)))) (fun w hw => by cases hw; trivial)) hS.2.2 hd
    · cases h
  · next hi =>
    obtain ⟨len, hd, hln⟩ := O.2 pc _ hi
    rw [hln rfl] at hd
    split at h
    · next x e1 e2 =>
      cases h
      cases e2
      rw [e1] at hr
      exact W.dret (v := x) hx hb hr (hq (some (.inr (.inr (.inr (.inl x))))) (fun w hw => by cases hw; trivial)) hS.2.2 hd
    · cases h
  · next hi =>
    obtain ⟨len, hd, hln⟩ := O.2 pc _ hi
    rw [hln rfl] at hd
    split at h
    · next nm x e1 e2 =>
      cases h
      cases e2
      rw [e1] at hr
      exact W.aret (v := fm_cv E.2.2.2.1 (.inr (.inr (.inr (.inr x))))) hx hb hr (Or.inl ⟨_, rfl⟩) (Or.inr ⟨_, rfl⟩) (hq (some (.inr (.inr (.inr (.inr x))))) (fun w hw => by cases hw; exact hv.2.1 _ List.mem_cons_self)) hS.2.2 hd
    · cases h
  · cases h
theorem fm_gR (O : fm_mo u) {pc : Nat} {lo : List (Nat × fm_V)} {st : List fm_V} {M : fm_M} {P : Prop} {v : Option fm_V} (h : fm_rt? u (pc, lo, st, M) = some (P, v)) (hg : P) : fm_Go E d u 0 (pc, lo, st, M) (fm_Zr E v M) := fm_gR0 O h hg
end Ret
def fm_rm (d n : Nat) : Room := { frames := d, cells := n, slots := 6 * n, locals := 41 * d }
abbrev fm_ws (u : fm_Me) : List Cond := Cond.code u.1 u.2.1 u.2.2.1 u.2.2.2.1 :: fm_TB
/-- what a callee finds -/
def fm_pre (E : fm_Ev) (sz : Nat) (as : List fm_V) (M : fm_M) (U : State) : Prop :=
  U.heap.size = sz ∧ va_P E.2.1 fm_cls (fm_wl E.2.2.1 E.2.2.2.1 M) U.heap ∧ va_K E.2.1 fm_cls (fm_tys E.2.2.1) U ∧ (∀ M, va_D (fm_Aw E.2.2.2.1 sz) (fm_wl E.2.2.1 E.2.2.2.1 M)) ∧
  (va_X (E.2.2.2.1 50 0) E.2.2.2.2.1 E.2.2.2.2.2 U U.heap ∧ E.2.2.2.1 50 0 < sz ∧ ¬ fm_Aw E.2.2.2.1 sz (E.2.2.2.1 50 0)) ∧ fm_nw (fm_Aw E.2.2.2.1 sz) U U.heap ∧ fm_okM M ∧ ∀ v ∈ as, fm_ok v
/-- A CONTRACT: called with these values on this memory, the method returns v and leaves the memory M' -/
def fm_Ct (E : fm_Ev) (d : Nat) (u : fm_Me) (n : Nat) (as : List fm_V) (M : fm_M) (v : Option fm_V) (M' : fm_M) : Prop :=
  ∀ sz, Met E.1 u.1 (fm_ws u) (fm_rm d n) (va_Pc (fm_cs E.2.2.2.1 as) (fm_pre E sz as M)) (fm_Q E (fm_Aw E.2.2.2.1 sz) v M') n (6 * n) (fm_Aw E.2.2.2.1 sz)
def fm_al : Nat → List fm_V → List (Nat × fm_V)
  | _, [] => []
  | i, v :: r => (i, v) :: fm_al (cond (fm_c2 v) (i + 2) (i + 1)) r
def fm_wd : List fm_V → Nat
  | [] => 0
  | v :: r => cond (fm_c2 v) 2 1 + fm_wd r
theorem fm_cat2 (ad : fm_A) (v : fm_V) : (fm_cv ad v).category = cond (fm_c2 v) 2 1 := by
  rcases v with x | x | x | x | x <;> rfl
theorem fm_al_cl (ad : fm_A) : ∀ (as : List fm_V) (i : Nat), lv_args i (fm_cs ad as) = fm_cl ad (fm_al i as)
  | [], i => rfl
  | v :: r, i => by
    show (i, fm_cv ad v) :: lv_args _ (fm_cs ad r) = (i, fm_cv ad v) :: fm_cl ad (fm_al _ r)
    rw [fm_cat2, fm_al_cl ad r]
    cases fm_c2 v <;> rfl
theorem fm_wd_sl (ad : fm_A) : ∀ as : List fm_V, (lg_sl (fm_cs ad as)).length = fm_wd as
  | [] => rfl
  | v :: r => by
    have ih := fm_wd_sl ad r
    unfold lg_sl at ih ⊢
    simp only [fm_cs, List.map_cons, List.flatMap_cons, List.length_append, fm_wd]
    rw [← ih, fm_cat2]
    cases fm_c2 v <;> rfl
theorem fm_wd_cat (ad : fm_A) : ∀ as : List fm_V, ((fm_cs ad as).map fun v => v.category).sum = fm_wd as
  | [] => rfl
  | v :: r => by
    have ih := fm_wd_cat ad r
    simp only [fm_cs, List.map_cons, List.sum_cons, fm_wd] at ih ⊢
    rw [ih, fm_cat2]
theorem fm_al_ok {as : List fm_V} (h : ∀ v ∈ as, fm_ok v) : ∀ i, ∀ q ∈ fm_al i as, fm_ok q.2 := by
  induction as with
  | nil => intro i q hq; cases hq
  | cons v r ih =>
    intro i q hq
    rcases List.mem_cons.mp hq with rfl | hq
    · exact h _ List.mem_cons_self
    · exact ih (fun w hw => h w (List.mem_cons_of_mem _ hw)) _ q hq
set_option maxHeartbeats 4000000 in
theorem fm_ct {E : fm_Ev} {d n : Nat} {u : fm_Me} {as : List fm_V} {M M' : fm_M} {v : Option fm_V} (O : fm_mok u) (hl : E.1.stackTraces = false) (hw : fm_wd as ≤ u.2.2.1) (G : fm_Go E d u n (0, fm_al 0 as, [], M) (fm_Zr E v M')) : fm_Ct E d u n as M v M' := by
  intro sz
  refine Met.ofW (cc := u.2.1) (maxL := u.2.2.1) (ret := u.2.2.2.1) O.2.2.2.2.1 rfl ?_
  intro p e s m args below meth c s₁ B hml hv
  obtain ⟨rfl, hsz, hP, hK, hD, hX, hnw, hM, has⟩ := hv
  subst hsz
  have hts := atoms_spec (ws := fm_ws u) B.pre
  have hown : s.vm.findClass u.1.cls = some m.cls := findClass_of_methodNamed B.named
  rw [O.2.2.2.1] at hown
  have hle := lv_entry (fm_cs E.2.2.2.1 as) (n := u.2.2.1) (by rw [fm_wd_sl]; exact hw)
  rw [fm_al_cl] at hle
  rw [lg_entry_eq]
  have G0 := G p e (fm_rm d n) s m (fm_cs E.2.2.2.1 as).toArray below meth c (fm_Aw E.2.2.2.1 s.heap.size) 0 0
    ⟨B.exec, B.bytes, hml, hown, fun w hw => hts w (List.mem_cons_of_mem _ hw), hK, hD, fun q h => Or.inr h, hX, hnw, B.notSynchronized, hl, Or.inr (by simpa using B.noHandlers (hts _ List.mem_cons_self))⟩ B.returns (fun q h => h) (Nat.le_refl _) (Nat.le_refl _) (by simp [fm_rm]) (by simp [fm_rm])
    s.heap [] _ hP va_S.rf hle ⟨fun q hq => fm_al_ok has 0 q hq, fun w hw => (List.not_mem_nil hw).elim, hM⟩
  rw [Nat.zero_add, Nat.zero_add] at G0
  exact G0
theorem fm_pre_blind {E : fm_Ev} {sz : Nat} {as : List fm_V} {M : fm_M} : FrameBlind (va_Pc (fm_cs E.2.2.2.1 as) (fm_pre E sz as M)) := by
  intro a U g mk h
  obtain ⟨q0, q1, qP, qK, qD, ⟨qX, qX2⟩, qN, qM⟩ := h
  exact ⟨q0, q1, qP, va_K.moved (u := U) (U := U.calling g mk a) (Vm.Alike.refl U.vm) qK, qD, ⟨va_X.moved (u := U) (U := U.calling g mk a) (Vm.Alike.refl U.vm) qX, qX2⟩, qN.same (U := U.calling g mk a) rfl, qM⟩
/-- behind a call -/
theorem fm_after {p : Program} {l : Launch} {e : Env} {R : Room} {s : State} {m : MethodId} {args : Array Value} {below : List Frame} {meth : Method} {c : Code} {H : Heap} {locs : List Loc} {cells slots mc ms : Nat} {Q : State → Prop} {pc : Nat} {ls : Array Slot} {st0 rest : List Value} {A A1 free : Nat → Prop} {Qa : State → Outcome → State → Prop} {v0 : Option Value} {PH : Heap → Prop}
    (hr : va_Run p l e R s m args below meth c H locs cells slots mc ms (F0 m pc ls st0) rest Qa free) (hQ : ∀ (st : State) (v : Option Value) (t : State), Qa st (.returned v) t → v = v0 ∧ PH t.heap ∧ va_F A1 st t) (hS : va_S A s.heap H locs) (hA : ∀ q, q < H.size → A1 q → A q) (hf : ∀ q, free q → A q)
    (kk : ∀ (H1 : Heap) (locs1 : List Loc), PH H1 → va_S A s.heap H1 locs1 → W p l e R s m args below meth c H1 locs1 (cells + mc) (slots + ms) Q (F0 m (pc + 3) ls (v0.toList ++ rest))) : W p l e R s m args below meth c H locs cells slots Q (F0 m pc ls st0) := by
  intro T hT X
  obtain ⟨v, st₀, t, T', Lc, h0, X', hL, e1, e2, hq, st⟩ := hr T hT X
  obtain ⟨rfl, hp, hz, hk⟩ := hQ _ _ _ hq
  rw [h0] at hz hk
  obtain ⟨t2, a1, b1⟩ := kk T'.heap (locs ++ Lc) (by rw [e1]; exact hp)
    ⟨Nat.le_trans hS.1 (by rw [e1]; exact hz), fun q h1 h2 => by rw [e1, hk q (Nat.lt_of_lt_of_le h1 hS.1) (fun z => h2 (hA q (Nat.lt_of_lt_of_le h1 hS.1) z))]; exact hS.2.1 q h1 h2, fun q hq => by
      rcases List.mem_append.mp hq with h | h
      · exact hS.2.2 q h
      · exact hf _ (hL q h)⟩ T' rfl X'
  exact ⟨t2, st t2 a1, b1⟩
theorem fm_Aw_sub {ad : fm_A} {A : Nat → Prop} {a b : Nat} (h : ∀ q, fm_Aw ad a q → A q) (hab : a ≤ b) : ∀ q, fm_Aw ad b q → A q := fun q hq => h q (hq.elim Or.inl (fun z => Or.inr (Nat.le_trans hab z)))
theorem fm_preAt {E : fm_Ev} {u : fm_Me} {p : Program} {s : State} {m : MethodId} {args : Array Value} {meth : Method} {c : Code} {A : Nat → Prop} (X : fm_cx E.1 E.2.1 E.2.2.1 E.2.2.2.1 E.2.2.2.2.1 E.2.2.2.2.2 u.2.2.2.2.1 u.2.1 u.2.2.1 p s m args meth c A) (hA : ∀ q, fm_Aw E.2.2.2.1 s.heap.size q → A q)
    {H : Heap} {locs : List Loc} {M : fm_M} (hP : va_P E.2.1 fm_cls (fm_wl E.2.2.1 E.2.2.2.1 M) H) (hS : va_S A s.heap H locs) (hM : fm_okM M) {as : List fm_V} (has : ∀ v ∈ as, fm_ok v) :
    ∀ U : State, U.heap = H → s.WarmedH U.vm → fm_pre E H.size as M U := by
  obtain ⟨-, -, -, -, -, hK, hD, -, ⟨hX, hbl, hbA⟩, hnw, -⟩ := X
  intro U hU hW
  refine ⟨by rw [hU], by rw [hU]; exact hP, va_K.moved hW.alike hK, fun M' => ⟨(hD M').1, fun k q hk => ?_⟩, ⟨?_, Nat.lt_of_lt_of_le hbl hS.1, fun z => hbA (fm_Aw_sub hA hS.1 _ z)⟩, ?_, hM, has⟩
  · obtain ⟨j, hj⟩ : ∃ j : Nat × Nat, fm_ki[k]? = some j ∧ q.1 = E.2.2.2.1 j.1 j.2 := by
      unfold fm_wl at hk
      rw [List.getElem?_map] at hk
      cases hz : fm_ki[k]? with
      | none => rw [hz] at hk; cases hk
      | some j =>
        rw [hz] at hk
        cases hk
        exact ⟨j, rfl, rfl⟩
    have hmem := List.mem_of_getElem? hj.1
    have hall := List.all_eq_true.mp (show fm_ki.all (fun q => decide (q.1 < 50) && decide (q.2 < fm_cnt q.1)) = true by decide +kernel) j hmem
    simp only [Bool.and_eq_true, decide_eq_true_eq] at hall
    exact Or.inl ⟨j.1, j.2, hall.1, hall.2, hj.2⟩
  · rw [hU]
    exact (va_X.kept (hX.moved hW.alike) (hS.2.1 _ hbl hbA))
  · rw [hU]
    exact hnw.to hW (fun a h1 h2 => hS.2.1 a h1 h2) (fm_Aw_sub hA hS.1)
