/-! THROWS: a method that ends by an exception -/
/-- at the end: a new object of the class cl is thrown, with the memory M' -/
def fm_X (E : fm_Ev) (A : Nat → Prop) (cl : String) (M' : fm_M) : Array Value → State → Outcome → State → Prop := fun _ st o t =>
  ∃ (q : Addr) (ce : Cell), o = .threw q ∧ t.heap[q]? = some ce ∧ ce.vm = .none ∧ st.vm.findClass cl = some ce.cls ∧ va_P E.2.1 fm_cls (fm_wl E.2.2.1 E.2.2.2.1 M') t.heap ∧ va_F A st t ∧ fm_okM M'
def fm_Xe (st t : State) (cells slots : Nat) (free : Nat → Prop) : Prop := ∃ Lc : List Loc, st.WarmedH t.vm ∧ st.sameButNew ({ t with vm := st.vm } : State) Lc cells slots ∧ ∀ q ∈ Lc, free q.base
abbrev fm_Zx (E : fm_Ev) (cl : String) (M' : fm_M) : (Nat → Prop) → List Frame → Array Value → State → Nat → Nat → State → Prop := fun A below args s cells slots t =>
  ∃ o, t.status = .running ∧ Ended t below o ∧ fm_X E A cl M' args s o t ∧ fm_Xe s t cells slots A
/-- A CONTRACT: called with these values on this memory, the method throws a new cl and leaves the memory M' -/
def fm_Cx (E : fm_Ev) (d : Nat) (u : fm_Me) (n : Nat) (as : List fm_V) (M : fm_M) (cl : String) (M' : fm_M) : Prop :=
  ∀ sz, MetFree E.1 u.1 (headSpec (fm_ws u) (fm_rm d n)) (va_Pc (fm_cs E.2.2.2.1 as) (fm_pre E sz as M)) (fun _ _ _ _ _ => True) (fun a st o t => fm_X E (fm_Aw E.2.2.2.1 sz) cl M' a st o t ∧ fm_Xe st t n (6 * n) (fm_Aw E.2.2.2.1 sz))
set_option maxHeartbeats 4000000 in
theorem fm_cxt {E : fm_Ev} {d n : Nat} {u : fm_Me} {as : List fm_V} {M M' : fm_M} {cl : String} (O : fm_mok u) (hl : E.1.stackTraces = false) (hw : fm_wd as ≤ u.2.2.1) (G : fm_Go E d u n (0, fm_al 0 as, [], M) (fm_Zx E cl M')) : fm_Cx E d u n as M cl M' := by
  intro sz
  refine MetFree.of_bodyS (code := u.2.1) (maxLocals := u.2.2.1) (ret := u.2.2.2.1) O.2.2.2.2.1 ?_ ?_
  · intro args s m h hn
    obtain ⟨meth, c, h1, h2, h3, h4, h5, h6, -, -⟩ := Cond.code_spec hn (atoms_spec (ws := fm_ws u) h _ List.mem_cons_self)
    exact ⟨meth, c, h1, h2, h3, h4, h5, h6⟩
  · intro p e s m args below meth c s₁ B hml hv _
    have hh0 : s₁.heap = s.heap := by rw [B.state]; rfl
    obtain ⟨rfl, hsz, hP, hK, hD, hX, hnw, hM, has⟩ := hv
    subst hsz
    have hts := atoms_spec (ws := fm_ws u) B.pre
    have hown : s.vm.findClass u.1.cls = some m.cls := findClass_of_methodNamed B.named
    rw [O.2.2.2.1] at hown
    have hle := lv_entry (fm_cs E.2.2.2.1 as) (n := u.2.2.1) (by rw [fm_wd_sl]; exact hw)
    rw [fm_al_cl] at hle
    have G0 := G p e (fm_rm d n) s m (fm_cs E.2.2.2.1 as).toArray below meth c (fm_Aw E.2.2.2.1 s.heap.size) 0 0
      ⟨B.exec, B.bytes, hml, hown, fun w hw => hts w (List.mem_cons_of_mem _ hw), hK, hD, fun q h => Or.inr h, hX, hnw, B.notSynchronized, hl, Or.inr (by simpa using B.noHandlers (hts _ List.mem_cons_self))⟩ B.returns (fun q h => h) (Nat.le_refl _) (Nat.le_refl _) (by simp [fm_rm]) (by simp [fm_rm])
      s.heap [] _ hP va_S.rf hle ⟨fun q hq => fm_al_ok has 0 q hq, fun w hw => (List.not_mem_nil hw).elim, hM⟩
    rw [Nat.zero_add, Nat.zero_add] at G0
    rw [lg_entry_eq]
    obtain ⟨t, a1, o, b1, b2, b3, b4⟩ := G0 s₁ hh0 (Stand.of_body B)
    exact ⟨t, o, a1, b1, b2, b3, b4⟩
/-- a callee throws: the walk stands behind it, the note laid -/
theorem fm_xback {l : Launch} {p : Program} {e : Env} {R : Room} {s : State} {m : MethodId} {args : Array Value} {below : List Frame} {meth : Method} {c : Code} {T : State} {locs : List Loc} {cells slots : Nat} {y : MethodName} {ws : List Cond} {rm : Room} {Pc : Array Value → State → Prop} {Qx : Array Value → State → Outcome → State → Prop} {mc ms : Nat} {free : Nat → Prop} {bytes : ByteArray} {maxL : Nat} {ret : Option FieldType}
    (X : Stand p l e R s m args below meth c T locs cells slots) (hM : MetFree l y (headSpec ws rm) Pc (fun _ _ _ _ _ => True) (fun a st o t => Qx a st o t ∧ fm_Xe st t mc ms free)) (hbl : FrameBlind Pc) (hthr : ∀ a st o t, Qx a st o t → ∃ q, o = .threw q)
    (hframes : rm.frames + 1 ≤ R.frames) (hlocals : 8 + (maxL + 11) + rm.locals ≤ R.locals) (hc : cells + rm.cells ≤ R.cells) (hs : slots + rm.slots ≤ R.slots)
    (hws : ∀ w ∈ ws, ∀ (a' : Array Value) (U : State), s.WarmedH U.vm → w.before a' U = true) (hcode : Cond.code y bytes maxL ret ∈ ws) (hini : ∀ (a' : Array Value) (U : State), s.WarmedH U.vm → (Cond.initialized y.cls).before a' U = true)
    {g : JFrame} {ig : Instr} {mk : MethodId} {a : Array Value} (hg : g.method = m) (hsize : g.locals.size = c.maxLocals) (hdg : decode c.code g.pc = .ok (ig, 3)) (hW : 2 * g.monitorRoom + (g.stack.map fun v => v.category).sum ≤ 8) (hn : T.methodNamed? y = some mk) (hp : Pc a T) :
    ∃ (q : Addr) (t T' : State) (Lc : List Loc), Stand p l e R s m args below meth c T' (locs ++ Lc) (cells + mc) (slots + ms) ∧ (∀ z ∈ Lc, free z.base) ∧ T'.heap = t.heap ∧ T'.vm = t.vm ∧ Qx a (T.calling g mk a) (.threw q) t ∧ Steps p.tables e below (doInvoke e (T.setTop g) [] mk a).1 ((T'.setTop g).pushFrame (.throwing q)) := by
  obtain ⟨methY, cY, hmY, hcY, -, hlY, -, -, -, -⟩ := Cond.code_spec hn (hws _ hcode a T X.warmed)
  obtain ⟨kY, hkY, -⟩ := className_of_methodNamed hn
  have hinitY : kY.init = .initialized := Cond.initialized_spec (findClass_of_methodNamed hn) hkY (hini a T X.warmed)
  have h : At T g.method c below := by rw [hg]; exact X.here
  have happ : (headSpec ws rm).appliesLoose y e.platform (T.calling g mk a) = true :=
    Spec.appliesLoose_calling (g := g) h hdg hn hkY hinitY
      (X.room_calling (g := g) (R' := (headSpec ws rm).room) hsize hmY hcY hframes (by rw [hlY]; show _ + _ + rm.locals ≤ _; omega) hc hs) (atoms_intro fun w hw => hws w hw _ _ X.warmed)
  obtain ⟨mid, hmid⟩ := h.above
  have hfr : (T.setTop g).frames = (.java g :: mid) ++ below := by rw [State.frames_setTop' g h.top, hmid]; rfl
  obtain ⟨o, s₂, hsteps, -, hend, hq, Lc, hWu, hsame, hL⟩ := Steps.callFree hM p X.admits X.cas X.clock (acts := []) hfr happ (hbl _ _ _ _ hp) trivial
  obtain ⟨q, rfl⟩ := hthr _ _ _ _ hq
  rw [State.frames_setTop' g h.top] at hend
  have hmb : T.frames.tail = below := X.tail
  rw [hmb] at hend
  obtain ⟨T', X', hW', -, ht⟩ := X.outOfThrown hg hend hWu hsame
  refine ⟨q, s₂, T', Lc, X', hL, ?_, ?_, hq, by rw [← ht]; exact hsteps⟩
  · rw [ht, Stand.throwing_heap]
  · rw [ht, Stand.throwing_vm]

section Throws
variable {E : fm_Ev} {d n n1 : Nat} {u u' : fm_Me}
theorem fm_thr {E : fm_Ev} {A : Nat → Prop} {cl : String} {M' : fm_M} : ∀ a st o t, fm_X E A cl M' a st o t → ∃ q, o = Outcome.threw q := fun a st o t h => by
  obtain ⟨q, ce, h1, -⟩ := h
  exact ⟨q, h1⟩
/-- the exception goes on, out of a method without handlers -/
theorem fm_xout {E : fm_Ev} {u : fm_Me} {p : Program} {e : Env} {R : Room} {s : State} {m : MethodId} {args : Array Value} {below : List Frame} {meth : Method} {c : Code} {A : Nat → Prop} {cells slots : Nat} (X : fm_cx E.1 E.2.1 E.2.2.1 E.2.2.2.1 E.2.2.2.2.1 E.2.2.2.2.2 u.2.2.2.2.1 u.2.1 u.2.2.1 p s m args meth c A) (hoc : u.2.2.2.2.1 ≠ 8)
    {cl : String} {M1 : fm_M} {H : Heap} {locs : List Loc} (hS : va_S A s.heap H locs) (hf : ∀ q, fm_Aw E.2.2.2.1 H.size q → A q) {T' t : State} {q : Addr} {Lc : List Loc} {g : JFrame} (hg : g.method = m) (hk1 : g.locked = none) (hk2 : g.entered = []) {st : State} {a : Array Value} (hst : st.heap = H) (hvm : s.vm.Alike st.vm)
    (X' : Stand p E.1 e R s m args below meth c T' (locs ++ Lc) cells slots) (hL : ∀ z ∈ Lc, fm_Aw E.2.2.2.1 H.size z.base) (e1 : T'.heap = t.heap) (hq : fm_X E (fm_Aw E.2.2.2.1 H.size) cl M1 a st (.threw q) t) :
    ∃ t2, Steps p.tables e below ((T'.setTop g).pushFrame (.throwing q)) t2 ∧ fm_Zx E cl M1 A below args s cells slots t2 := by
  obtain ⟨-, -, -, -, -, -, -, -, -, -, hlocks, -, hh⟩ := X
  have hempty : c.exceptionTable.toList = [] := hh.resolve_left hoc
  obtain ⟨hsteps, hrun, hend, hWu, hsame⟩ := X'.leaveThrown q hg hk1 hk2 (fun x hx => by rw [hempty] at hx; cases hx)
  obtain ⟨q', ce, eq, h1, h2, h3, h4, h5, h6⟩ := hq
  cases eq
  have hF : va_F A s (T'.setFrames (.throwing q :: below)) := by
    obtain ⟨z1, z2⟩ := h5
    rw [hst] at z1 z2
    refine ⟨?_, fun w hw hA => ?_⟩
    · show s.heap.size ≤ T'.heap.size
      rw [e1]
      exact Nat.le_trans hS.1 z1
    · show T'.heap[w]? = s.heap[w]?
      rw [e1, z2 w (Nat.lt_of_lt_of_le hw hS.1) (fun z => hA (hf w z))]
      exact hS.2.1 w hw hA
  exact ⟨_, hsteps, .threw q, hrun, hend, ⟨q, ce, rfl, by show T'.heap[q]? = _; rw [e1]; exact h1, h2, by rw [← hvm.findClass]; exact h3, by show va_P _ _ _ T'.heap; rw [e1]; exact h4, hF, h6⟩, locs ++ Lc, hWu, hsame, fun z hz => (List.mem_append.mp hz).elim (hS.2.2 z) (fun y => hf _ (hL z y))⟩
end Throws

section ThrowCalls
variable {E : fm_Ev} {d n n1 : Nat} {u u' : fm_Me}
set_option maxHeartbeats 4000000 in
/-- an invokevirtual whose callee throws, in a method without handlers -/
theorem fm_xV (O : fm_mo u) (O' : fm_mok u') (hoc : u.2.2.2.2.1 ≠ 8) {pc ix kd i : Nat} {lo : List (Nat × fm_V)} {as rest : List fm_V} {M M1 : fm_M} {cl : String} (hi : u.2.2.2.2.2.2 pc = some (.invokevirtual ix)) (hlk : fm_lv u.2.2.2.2.1 ix u'.1) (hkd : fm_is kd u'.2.2.2.2.1 = true) (h7 : u'.2.2.2.2.1 < 7)
    (hn : fm_np u'.1 as.length) (hrest : fm_wd rest ≤ 8) (K : fm_Cx E d u' n (.inr (.inr (.inr (.inr (kd, i)))) :: as) M cl M1) : fm_Go E (d + 1) u n (pc, lo, as.reverse ++ .inr (.inr (.inr (.inr (kd, i)))) :: rest, M) (fm_Zx E cl M1) := by
  intro p e R s m args below meth c A cells slots X hr hA h1 h2 h3 h4
  have X0 := X
  obtain ⟨hx, hb, hml, hown, hts, hK, hD, -⟩ := X
  obtain ⟨len, hd, hln⟩ := O.2 pc _ hi
  rw [hln rfl] at hd
  intro H locs ls hP hS hl hv
  have has : ∀ w ∈ (.inr (.inr (.inr (.inr (kd, i)))) :: as : List fm_V), fm_ok w := by
    intro w hw
    rcases List.mem_cons.mp hw with rfl | hw
    · exact hv.2.1 _ (List.mem_append_right _ List.mem_cons_self)
    · exact hv.2.1 _ (List.mem_append_left _ (List.mem_reverse.mpr hw))
  have hpre := fm_preAt X0 hA hP hS hv.2.2 has
  obtain ⟨hkc, hk50⟩ := fm_is_ok hkd
  obtain ⟨j, hj⟩ := fm_ki_at hk50 (show i < fm_cnt kd from has _ List.mem_cons_self)
  obtain ⟨Cn, T0, N, ty0, hc, hgd, hN, hin, hty0, hnm, hC, hfi, t0, t1, t2⟩ := fm_clo u'.2.2.2.2.1 h7
  have hCn : Cn = u'.1.cls := by
    rw [O'.2.2.2.1]
    have h9 := hgd
    rcases (show u'.2.2.2.2.1 = 0 ∨ u'.2.2.2.2.1 = 1 ∨ u'.2.2.2.2.1 = 2 ∨ u'.2.2.2.2.1 = 3 ∨ u'.2.2.2.2.1 = 4 ∨ u'.2.2.2.2.1 = 5 ∨ u'.2.2.2.2.1 = 6 by omega) with q | q | q | q | q | q | q <;> (rw [q] at h9 ⊢; cases h9; rfl)
  have he : (fm_wl E.2.2.1 E.2.2.2.1 M)[j]? = some (E.2.2.2.1 kd i, .inr (u'.2.2.2.2.1, (List.range (fm_nf u'.2.2.2.2.1)).map (fm_fv E.2.2.2.1 M u'.2.2.2.2.1 kd i))) := by rw [fm_wl_at hj, fm_ce_o hkc]
  obtain ⟨cellB, hcB, hoB, hclB⟩ := va_recv hK hP hc he
  rw [show (Cn, T0, N).1 = u'.1.cls from hCn] at hclB
  have hw : ∀ w ∈ fm_ws u', ∀ (a' : Array Value) (U : State), s.WarmedH U.vm → w.before a' U = true := by
    intro w hw a' U hW
    have hin : w ∈ fm_TB := by
      rcases List.mem_cons.mp hw with rfl | hw
      · exact O'.2.1
      · exact hw
    exact word_at hW (good_of_word (List.mem_filter.mp hin).2) (hts w hin)
  have hst : fm_cs E.2.2.2.1 (as.reverse ++ .inr (.inr (.inr (.inr (kd, i)))) :: rest) = (fm_cs E.2.2.2.1 as).reverse ++ .ref (E.2.2.2.1 kd i) :: fm_cs E.2.2.2.1 rest := by
    simp only [fm_cs, List.map_append, List.map_reverse, List.map_cons]
    rfl
  rw [hst]
  intro T hT XS
  have hcode := hts _ O'.2.1
  obtain ⟨mk, methM, hnamed, hmethM, hstM, habM⟩ := Cond.instanceMethod_spec (hts _ hlk.2.1)
  obtain ⟨methM', cM, hmethM', -, -, -, -, -, -, hsigM⟩ := Cond.code_spec hnamed hcode
  cases hmethM.symm.trans hmethM'
  obtain ⟨c2, r2, m2, q1, q2, q3, q4, kP, hkP, hkPi⟩ := Cond.selects_spec (hts _ hlk.2.2)
  cases hclB.symm.trans q1
  cases (State.methodFound?_of_named hnamed hn.1).symm.trans q2
  cases hnamed.symm.trans q3
  have hselP : selectMethod e.platform s.vm cellB.cls mk = .method mk := by rw [Launch.admits_selectMethod XS.admits]; exact q4
  have hlen : (fm_cs E.2.2.2.1 as).length = methM.sig.parameters.length := by
    have h9 := hn.2
    rw [hsigM] at h9
    simp only [fm_cs, List.length_map]
    exact (Option.some.inj h9).symm
  obtain ⟨vm₁, X₁, hstep₁⟩ := XS.invokevirtual hx hown (hts _ hlk.1) hnamed hmethM hstM hkP hkPi hn.1 (a := E.2.2.2.1 kd i) (cell := cellB) (by rw [hT]; exact hcB)
    (fun z h => by rw [h] at hoB; cases hoB) hselP hmethM habM hkP hkPi (g := F0 m pc ls ((fm_cs E.2.2.2.1 as).reverse ++ .ref (E.2.2.2.1 kd i) :: fm_cs E.2.2.2.1 rest)) rfl (argsL := fm_cs E.2.2.2.1 as) (rest := fm_cs E.2.2.2.1 rest) hlen rfl (by rw [hb]; exact hd)
  have hroom := O'.2.2.2.2.2
  obtain ⟨q, t, T', Lc, X', hL, e1, e2, hq, hsteps⟩ := fm_xback (bytes := u'.2.1) (maxL := u'.2.2.1) (ret := u'.2.2.2.1) (g := F0 m pc ls (fm_cs E.2.2.2.1 rest)) (ig := .invokevirtual ix) (a := (Value.ref (E.2.2.2.1 kd i) :: fm_cs E.2.2.2.1 as).toArray) X₁ (K H.size) fm_pre_blind fm_thr (by simp only [fm_rm]; omega) (by simp only [fm_rm]; omega) (by simp only [fm_rm]; omega) (by simp only [fm_rm]; omega) hw List.mem_cons_self
    (fun a' U hW => word_at hW (good_of_word (List.mem_filter.mp O'.2.2.1).2) (hts _ O'.2.2.1)) rfl (hl.1.trans hml.symm) (by rw [hb]; exact hd) (lv_room (by rw [fm_wd_cat]; exact hrest)) (X₁.named hnamed) ⟨rfl, hpre (T.setVm vm₁) hT X₁.warmed⟩
  obtain ⟨t2, a2, z2⟩ := fm_xout X0 hoc hS (fm_Aw_sub hA hS.1) (g := F0 m pc ls (fm_cs E.2.2.2.1 rest)) rfl rfl rfl (st := (T.setVm vm₁).calling (F0 m pc ls (fm_cs E.2.2.2.1 rest)) mk (Value.ref (E.2.2.2.1 kd i) :: fm_cs E.2.2.2.1 as).toArray) hT X₁.warmed.alike X' hL e1 hq
  exact ⟨t2, hstep₁ _ fun acts => by rw [doInvoke_state]; exact hsteps.trans a2, z2⟩
set_option maxHeartbeats 4000000 in
/-- an invokestatic whose callee throws, in a method without handlers -/
theorem fm_xS (O : fm_mo u) (O' : fm_mok u') (hoc : u.2.2.2.2.1 ≠ 8) {pc ix : Nat} {lo : List (Nat × fm_V)} {as rest : List fm_V} {M M1 : fm_M} {cl : String} (hi : u.2.2.2.2.2.2 pc = some (.invokestatic ix)) (hlk : fm_lst u.2.2.2.2.1 ix u'.1)
    (hn : fm_np u'.1 as.length) (hrest : fm_wd rest ≤ 8) (K : fm_Cx E d u' n as M cl M1) : fm_Go E (d + 1) u n (pc, lo, as.reverse ++ rest, M) (fm_Zx E cl M1) := by
  intro p e R s m args below meth c A cells slots X hr hA h1 h2 h3 h4
  have X0 := X
  obtain ⟨hx, hb, hml, hown, hts, hK, hD, -⟩ := X
  obtain ⟨len, hd, hln⟩ := O.2 pc _ hi
  rw [hln rfl] at hd
  intro H locs ls hP hS hl hv
  have has : ∀ w ∈ as, fm_ok w := fun w hw => hv.2.1 _ (List.mem_append_left _ (List.mem_reverse.mpr hw))
  have hpre := fm_preAt X0 hA hP hS hv.2.2 has
  have hw : ∀ w ∈ fm_ws u', ∀ (a' : Array Value) (U : State), s.WarmedH U.vm → w.before a' U = true := by
    intro w hw a' U hW
    have hin : w ∈ fm_TB := by
      rcases List.mem_cons.mp hw with rfl | hw
      · exact O'.2.1
      · exact hw
    exact word_at hW (good_of_word (List.mem_filter.mp hin).2) (hts w hin)
  have hst : fm_cs E.2.2.2.1 (as.reverse ++ rest) = (fm_cs E.2.2.2.1 as).reverse ++ fm_cs E.2.2.2.1 rest := by
    simp only [fm_cs, List.map_append, List.map_reverse]
  rw [hst]
  intro T hT XS
  have hcode := hts _ O'.2.1
  obtain ⟨mk, hnamed⟩ := Cond.code_named hcode
  obtain ⟨methM, cM, hmethM, -, -, -, -, -, -, hsigM⟩ := Cond.code_spec hnamed hcode
  have hstatic : methM.isStatic = true := Cond.static_spec hnamed hmethM (hts _ hlk.2)
  obtain ⟨kP, hkP, -⟩ := className_of_methodNamed hnamed
  have hinitP : kP.init = .initialized := Cond.initialized_spec (findClass_of_methodNamed hnamed) hkP (hts _ O'.2.2.1)
  have hlen : (fm_cs E.2.2.2.1 as).length = methM.sig.parameters.length := by
    have h9 := hn.2
    rw [hsigM] at h9
    simp only [fm_cs, List.length_map]
    exact (Option.some.inj h9).symm
  obtain ⟨vm₁, X₁, hstep₁⟩ := XS.invokestatic hx hown (hts _ hlk.1) hnamed hmethM hstatic hkP hinitP hn.1 (g := F0 m pc ls ((fm_cs E.2.2.2.1 as).reverse ++ fm_cs E.2.2.2.1 rest)) rfl (argsL := fm_cs E.2.2.2.1 as) (rest := fm_cs E.2.2.2.1 rest) hlen rfl (by rw [hb]; exact hd)
  have hroom := O'.2.2.2.2.2
  obtain ⟨q, t, T', Lc, X', hL, e1, e2, hq, hsteps⟩ := fm_xback (bytes := u'.2.1) (maxL := u'.2.2.1) (ret := u'.2.2.2.1) (g := F0 m pc ls (fm_cs E.2.2.2.1 rest)) (ig := .invokestatic ix) (a := (fm_cs E.2.2.2.1 as).toArray) X₁ (K H.size) fm_pre_blind fm_thr (by simp only [fm_rm]; omega) (by simp only [fm_rm]; omega) (by simp only [fm_rm]; omega) (by simp only [fm_rm]; omega) hw List.mem_cons_self
    (fun a' U hW => word_at hW (good_of_word (List.mem_filter.mp O'.2.2.1).2) (hts _ O'.2.2.1)) rfl (hl.1.trans hml.symm) (by rw [hb]; exact hd) (lv_room (by rw [fm_wd_cat]; exact hrest)) (X₁.named hnamed) ⟨rfl, hpre (T.setVm vm₁) hT X₁.warmed⟩
  obtain ⟨t2, a2, z2⟩ := fm_xout X0 hoc hS (fm_Aw_sub hA hS.1) (g := F0 m pc ls (fm_cs E.2.2.2.1 rest)) rfl rfl rfl (st := (T.setVm vm₁).calling (F0 m pc ls (fm_cs E.2.2.2.1 rest)) mk (fm_cs E.2.2.2.1 as).toArray) hT X₁.warmed.alike X' hL e1 hq
  exact ⟨t2, hstep₁ _ fun acts => by rw [doInvoke_state]; exact hsteps.trans a2, z2⟩
end ThrowCalls
