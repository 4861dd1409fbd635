/-! METHODS WITH HANDLERS: their contracts, calls of them, and the catch -/
def fm_cwd (u : fm_Me) (hs : List (Nat × Nat × Nat × Nat)) : Cond := Cond.codeWith u.1 u.2.1 u.2.2.1 u.2.2.2.1 hs
abbrev fm_wsW (u : fm_Me) (hs : List (Nat × Nat × Nat × Nat)) : List Cond := fm_cwd u hs :: fm_TB
def fm_mokw (u : fm_Me) (hs : List (Nat × Nat × Nat × Nat)) : Prop := fm_mo u ∧ fm_cwd u hs ∈ fm_TB ∧ Cond.initialized u.1.cls ∈ fm_TB ∧ u.1.cls = fm_cn u.2.2.2.2.1 ∧ plainName u.1.cls = true ∧ u.2.2.1 ≤ 22 ∧ u.2.2.2.2.1 = 8
def fm_Cw (E : fm_Ev) (d : Nat) (u : fm_Me) (hs : List (Nat × Nat × Nat × Nat)) (n : Nat) (as : List fm_V) (M : fm_M) (v : Option fm_V) (M' : fm_M) : Prop :=
  ∀ sz, MetFree E.1 u.1 (headSpec (fm_wsW u hs) (fm_rm d n)) (va_Pc (fm_cs E.2.2.2.1 as) (fm_pre E sz as M)) (fun _ _ _ _ _ => True) (fun a st o t => fm_Q E (fm_Aw E.2.2.2.1 sz) v M' a st o t ∧ fm_Xe st t n (6 * n) (fm_Aw E.2.2.2.1 sz))
set_option maxHeartbeats 4000000 in
theorem fm_cw {E : fm_Ev} {d n : Nat} {u : fm_Me} {hs : List (Nat × Nat × Nat × Nat)} {as : List fm_V} {M M' : fm_M} {v : Option fm_V} (O : fm_mokw u hs) (hl : E.1.stackTraces = false) (hw : fm_wd as ≤ u.2.2.1) (G : fm_Go E d u n (0, fm_al 0 as, [], M) (fm_Zn u.1 (fm_Zr E v M'))) : fm_Cw E d u hs n as M v M' := by
  intro sz
  refine MetFree.of_bodyS (code := u.2.1) (maxLocals := u.2.2.1) (ret := u.2.2.2.1) O.2.2.2.2.1 ?_ ?_
  · intro args s m h hn
    obtain ⟨m', meth, c, hn', h1, h2, h3, h4, -, h5, h6, -⟩ := Cond.codeWith_spec (atoms_spec (ws := fm_wsW u hs) h _ List.mem_cons_self)
    cases hn.symm.trans hn'
    exact ⟨meth, c, h1, h2, h3, h4, h5, h6⟩
  · intro p e s m args below meth c s₁ B hml hv _
    have hh0 : s₁.heap = s.heap := by rw [B.state]; rfl
    obtain ⟨rfl, hsz, hP, hK, hD, hX, hnw, hM, has⟩ := hv
    subst hsz
    have hts := atoms_spec (ws := fm_wsW u hs) B.pre
    have hown : s.vm.findClass u.1.cls = some m.cls := findClass_of_methodNamed B.named
    rw [O.2.2.2.1] at hown
    have hle := lv_entry (fm_cs E.2.2.2.1 as) (n := u.2.2.1) (by rw [fm_wd_sl]; exact hw)
    rw [fm_al_cl] at hle
    have G0 := G p e (fm_rm d n) s m (fm_cs E.2.2.2.1 as).toArray below meth c (fm_Aw E.2.2.2.1 s.heap.size) 0 0
      ⟨B.exec, B.bytes, hml, hown, fun w hw => hts w (List.mem_cons_of_mem _ hw), hK, hD, fun q h => Or.inr h, hX, hnw, B.notSynchronized, hl, Or.inl O.2.2.2.2.2.2⟩ B.returns (fun q h => h) (Nat.le_refl _) (Nat.le_refl _) (by simp [fm_rm]) (by simp [fm_rm])
      s.heap [] _ hP va_S.rf hle ⟨fun q hq => fm_al_ok has 0 q hq, fun w hw => (List.not_mem_nil hw).elim, hM⟩
    rw [Nat.zero_add, Nat.zero_add] at G0
    rw [lg_entry_eq]
    obtain ⟨t, a1, hz⟩ := G0 s₁ hh0 (Stand.of_body B)
    obtain ⟨o, b1, b2, b3, L, b4, b5⟩ := hz ⟨m, _, below, B.frames, B.named⟩
    exact ⟨t, o, a1, b1, b2, b3, L, b4.2.1, b4.2.2, b5⟩
theorem fm_wback {l : Launch} {p : Program} {e : Env} {R : Room} {s : State} {m : MethodId} {args : Array Value} {below : List Frame} {meth : Method} {c : Code} {T : State} {locs : List Loc} {cells slots : Nat} {y : MethodName} {ws : List Cond} {rm : Room} {Pc : Array Value → State → Prop} {Qx : Array Value → State → Outcome → State → Prop} {mc ms : Nat} {free : Nat → Prop} {bytes : ByteArray} {maxL : Nat} {ret : Option FieldType} {hs : List (Nat × Nat × Nat × Nat)}
    (X : Stand p l e R s m args below meth c T locs cells slots) (hM : MetFree l y (headSpec ws rm) Pc (fun _ _ _ _ _ => True) (fun a st o t => Qx a st o t ∧ fm_Xe st t mc ms free)) (hbl : FrameBlind Pc) (hret : ∀ a st o t, Qx a st o t → ∃ v, o = .returned v)
    (hframes : rm.frames + 1 ≤ R.frames) (hlocals : 8 + (maxL + 11) + rm.locals ≤ R.locals) (hc : cells + rm.cells ≤ R.cells) (hsl : slots + rm.slots ≤ R.slots)
    (hws : ∀ w ∈ ws, ∀ (a' : Array Value) (U : State), s.WarmedH U.vm → w.before a' U = true) (hcode : Cond.codeWith y bytes maxL ret hs ∈ ws) (hini : ∀ (a' : Array Value) (U : State), s.WarmedH U.vm → (Cond.initialized y.cls).before a' U = true)
    {g : JFrame} {ig : Instr} {mk : MethodId} {a : Array Value} (hg : g.method = m) (hsize : g.locals.size = c.maxLocals) (hdg : decode c.code g.pc = .ok (ig, 3)) (hW : 2 * g.monitorRoom + (g.stack.map fun v => v.category).sum ≤ 8) (hn : T.methodNamed? y = some mk) (hp : Pc a T) :
    ∃ (v : Option Value) (t T' : State) (Lc : List Loc), Stand p l e R s m args below meth c T' (locs ++ Lc) (cells + mc) (slots + ms) ∧ (∀ z ∈ Lc, free z.base) ∧ T'.heap = t.heap ∧ Qx a (T.calling g mk a) (.returned v) t ∧ Steps p.tables e below (doInvoke e (T.setTop g) [] mk a).1 (T'.setTop { g with pc := g.pc + 3, stack := v.toList ++ g.stack }) := by
  obtain ⟨m', methY, cY, hn', hmY, hcY, -, hlY, -, -, -, -⟩ := Cond.codeWith_spec (hws _ hcode a T X.warmed)
  cases hn.symm.trans hn'
  obtain ⟨kY, hkY, -⟩ := className_of_methodNamed hn
  have hinitY : kY.init = .initialized := Cond.initialized_spec (findClass_of_methodNamed hn) hkY (hini a T X.warmed)
  have h : At T g.method c below := by rw [hg]; exact X.here
  have happ : (headSpec ws rm).appliesLoose y e.platform (T.calling g mk a) = true :=
    Spec.appliesLoose_calling (g := g) h hdg hn hkY hinitY
      (X.room_calling (g := g) (R' := (headSpec ws rm).room) hsize hmY hcY hframes (by rw [hlY]; show _ + _ + rm.locals ≤ _; omega) hc hsl) (atoms_intro fun w hw => hws w hw _ _ X.warmed)
  obtain ⟨mid, hmid⟩ := h.above
  have hfr : (T.setTop g).frames = (.java g :: mid) ++ below := by rw [State.frames_setTop' g h.top, hmid]; rfl
  obtain ⟨o, s₂, hsteps, -, hend, hq, Lc, hWu, hsame, hL⟩ := Steps.callFree hM p X.admits X.cas X.clock (acts := []) hfr happ (hbl _ _ _ _ hp) trivial
  obtain ⟨v, rfl⟩ := hret _ _ _ _ hq
  rw [State.frames_setTop' g h.top] at hend
  have hmb : T.frames.tail = below := X.tail
  rw [hmb] at hend
  obtain ⟨T', X', hW', hsb, ht⟩ := X.outOf hg hdg hend hWu hsame
  refine ⟨v, s₂, T', Lc, X', hL, ?_, hq, by rw [← ht]; exact hsteps⟩
  rw [ht, State.heap_setTop]
section HelpCalls
variable {E : fm_Ev} {d n n1 : Nat} {u u' : fm_Me} {Z : fm_ZT}
set_option maxHeartbeats 4000000 in
/-- a static call of a method with handlers, which returns -/
theorem fm_cW (O : fm_mo u) {hs : List (Nat × Nat × Nat × Nat)} (O' : fm_mokw u' hs) {pc ix : Nat} {lo : List (Nat × fm_V)} {as rest : List fm_V} {M M1 : fm_M} {v : Option fm_V} (hi : u.2.2.2.2.2.2 pc = some (.invokestatic ix)) (hlk : fm_lst u.2.2.2.2.1 ix u'.1)
    (hn : fm_np u'.1 as.length) (hrest : fm_wd rest ≤ 8) (K : fm_Cw E d u' hs n1 as M v M1)
    (k : fm_Go E (d + 1) u n (pc + 3, lo, v.toList ++ rest, M1) Z) : fm_Go E (d + 1) u (n1 + n) (pc, lo, as.reverse ++ rest, M) Z := by
  intro p e R s m args below meth c A cells slots X hr hA h1 h2 h3 h4
  have X0 := X
  obtain ⟨hx, hb, hml, hown, hts, hK, hD, -⟩ := X
  obtain ⟨len, hd, hln⟩ := O.2 pc _ hi
  rw [hln rfl] at hd
  intro H locs ls hP hS hl hv
  have has : ∀ w ∈ as, fm_ok w := fun w hw => hv.2.1 _ (List.mem_append_left _ (List.mem_reverse.mpr hw))
  have hpre := fm_preAt X0 hA hP hS hv.2.2 has
  have hw : ∀ w ∈ fm_wsW u' hs, ∀ (a' : Array Value) (U : State), s.WarmedH U.vm → w.before a' U = true := by
    intro w hw a' U hW
    have hin : w ∈ fm_TB := by
      rcases List.mem_cons.mp hw with rfl | hw
      · exact O'.2.1
      · exact hw
    exact word_at hW (good_of_word (List.mem_filter.mp hin).2) (hts w hin)
  have hst : fm_cs E.2.2.2.1 (as.reverse ++ rest) = (fm_cs E.2.2.2.1 as).reverse ++ fm_cs E.2.2.2.1 rest := by
    simp only [fm_cs, List.map_append, List.map_reverse]
  rw [hst]
  intro T hT XS
  obtain ⟨mk, methM, cM, hnamed, hmethM, -, -, -, -, -, -, hsigM⟩ := Cond.codeWith_spec (hts _ O'.2.1)
  have hstatic : methM.isStatic = true := Cond.static_spec hnamed hmethM (hts _ hlk.2)
  obtain ⟨kP, hkP, -⟩ := className_of_methodNamed hnamed
  have hinitP : kP.init = .initialized := Cond.initialized_spec (findClass_of_methodNamed hnamed) hkP (hts _ O'.2.2.1)
  have hlen : (fm_cs E.2.2.2.1 as).length = methM.sig.parameters.length := by
    have h9 := hn.2
    rw [hsigM] at h9
    simp only [fm_cs, List.length_map]
    exact (Option.some.inj h9).symm
  obtain ⟨vm₁, X₁, hstep₁⟩ := XS.invokestatic hx hown (hts _ hlk.1) hnamed hmethM hstatic hkP hinitP hn.1 (g := F0 m pc ls ((fm_cs E.2.2.2.1 as).reverse ++ fm_cs E.2.2.2.1 rest)) rfl (argsL := fm_cs E.2.2.2.1 as) (rest := fm_cs E.2.2.2.1 rest) hlen rfl (by rw [hb]; exact hd)
  have hroom := O'.2.2.2.2.2.1
  obtain ⟨w, t, T', Lc, X', hL, e1, hq, hsteps⟩ := fm_wback (bytes := u'.2.1) (maxL := u'.2.2.1) (ret := u'.2.2.2.1) (hs := hs) (g := F0 m pc ls (fm_cs E.2.2.2.1 rest)) (ig := .invokestatic ix) (a := (fm_cs E.2.2.2.1 as).toArray) X₁ (K H.size) fm_pre_blind (fun a st o t h => ⟨_, h.1⟩) (by simp only [fm_rm]; omega) (by simp only [fm_rm]; omega) (by simp only [fm_rm]; omega) (by simp only [fm_rm]; omega) hw List.mem_cons_self
    (fun a' U hW => word_at hW (good_of_word (List.mem_filter.mp O'.2.2.1).2) (hts _ O'.2.2.1)) rfl (hl.1.trans hml.symm) (by rw [hb]; exact hd) (lv_room (by rw [fm_wd_cat]; exact hrest)) (X₁.named hnamed) ⟨rfl, hpre (T.setVm vm₁) hT X₁.warmed⟩
  obtain ⟨rfl, ⟨hp, hvok, hM1⟩, hz, hk⟩ := fm_Ctv hq
  have hst0 : ((T.setVm vm₁).calling (F0 m pc ls (fm_cs E.2.2.2.1 rest)) mk (fm_cs E.2.2.2.1 as).toArray).heap = H := hT
  rw [hst0] at hz hk
  have kk := k p e R s m args below meth c A (cells + n1) (slots + 6 * n1) X0 hr hA h1 h2 (by omega) (by omega) T'.heap (locs ++ Lc) ls (by rw [e1]; exact hp)
    ⟨Nat.le_trans hS.1 (by rw [e1]; exact hz), fun q h1 h2 => by rw [e1, hk q (Nat.lt_of_lt_of_le h1 hS.1) (fun z => h2 (fm_Aw_sub hA hS.1 q z))]; exact hS.2.1 q h1 h2, fun q hq => by
      rcases List.mem_append.mp hq with h | h
      · exact hS.2.2 q h
      · exact fm_Aw_sub hA hS.1 _ (hL q h)⟩ hl ⟨hv.1, fun w hw => by
      rcases List.mem_append.mp hw with h | h
      · exact hvok w (Option.mem_toList.mp h)
      · exact hv.2.1 w (List.mem_append_right _ h), hM1⟩
  rw [show cells + n1 + n = cells + (n1 + n) by omega, show slots + 6 * n1 + 6 * n = slots + 6 * (n1 + n) by omega] at kk
  obtain ⟨t2, a1, b1⟩ := kk T' rfl X'
  refine ⟨t2, hstep₁ _ fun acts => ?_, b1⟩
  rw [doInvoke_state]
  refine hsteps.trans ?_
  rw [← fm_vm] at a1
  exact a1
/-- the handler puts the exception away -/
def fm_aj (ij : Instr) (j : Nat) : Prop := ij = .astore j ∨ ∃ k : Fin 4, ij = .astore_n k ∧ (k : Nat) = j
set_option maxHeartbeats 4000000 in
/-- an invokevirtual whose callee throws, and the handler that takes it -/
theorem fm_xC {hs : List (Nat × Nat × Nat × Nat)} (Ow : fm_mokw u hs) (O' : fm_mok u') {pc ix kd i h j : Nat} {ij : Instr} {lo : List (Nat × fm_V)} {as rest : List fm_V} {M M1 : fm_M} {cl : String} (hi : u.2.2.2.2.2.2 pc = some (.invokevirtual ix)) (hlk : fm_lv u.2.2.2.2.1 ix u'.1) (hkd : fm_is kd u'.2.2.2.2.1 = true) (h7 : u'.2.2.2.2.1 < 7)
    (hn : fm_np u'.1 as.length) (hrest : fm_wd rest ≤ 8) (K : fm_Cx E d u' n1 (.inr (.inr (.inr (.inr (kd, i)))) :: as) M cl M1)
    (hcl : ∀ (A : Nat → Prop) (U : State) (H : Heap), fm_nw A U H → va_Nw (.castable cl cl) U) (hfnd : fm_hf (fm_cn u.2.2.2.2.1) cl pc hs h) (hij : u.2.2.2.2.2.2 h = some ij) (haj : fm_aj ij j) (hj : j < u.2.2.1)
    (k : fm_Go E (d + 1) u n (h + fm_ln ij, [], [], M1) (fm_Zn u.1 Z)) : fm_Go E (d + 1) u (n1 + n) (pc, lo, as.reverse ++ .inr (.inr (.inr (.inr (kd, i)))) :: rest, M) (fm_Zn u.1 Z) := by
  have O := Ow.1
  intro p e R s m args below meth c A cells slots X hr hA h1 h2 h3 h4
  have X0 := X
  obtain ⟨hx, hb, hml, hown, hts, hK, hD, -, -, hnw, -, -⟩ := X
  obtain ⟨len, hd, hln⟩ := O.2 pc _ hi
  rw [hln rfl] at hd
  intro H locs ls hP hS hl hv
  have has : ∀ w ∈ (.inr (.inr (.inr (.inr (kd, i)))) :: as : List fm_V), fm_ok w := by
    intro w hw
    rcases List.mem_cons.mp hw with rfl | hw
    · exact hv.2.1 _ (List.mem_append_right _ List.mem_cons_self)
    · exact hv.2.1 _ (List.mem_append_left _ (List.mem_reverse.mpr hw))
  have hpre := fm_preAt X0 hA hP hS hv.2.2 has
  obtain ⟨hkc, hk50⟩ := fm_is_ok hkd
  obtain ⟨jj, hjj⟩ := fm_ki_at hk50 (show i < fm_cnt kd from has _ List.mem_cons_self)
  obtain ⟨Cn, T0, N, ty0, hc, hgd, hN, hin, hty0, hnm, hC, hfi, t0, t1, t2⟩ := fm_clo u'.2.2.2.2.1 h7
  have hCn : Cn = u'.1.cls := by
    rw [O'.2.2.2.1]
    have h9 := hgd
    rcases (show u'.2.2.2.2.1 = 0 ∨ u'.2.2.2.2.1 = 1 ∨ u'.2.2.2.2.1 = 2 ∨ u'.2.2.2.2.1 = 3 ∨ u'.2.2.2.2.1 = 4 ∨ u'.2.2.2.2.1 = 5 ∨ u'.2.2.2.2.1 = 6 by omega) with q | q | q | q | q | q | q <;> (rw [q] at h9 ⊢; cases h9; rfl)
  have he : (fm_wl E.2.2.1 E.2.2.2.1 M)[jj]? = some (E.2.2.2.1 kd i, .inr (u'.2.2.2.2.1, (List.range (fm_nf u'.2.2.2.2.1)).map (fm_fv E.2.2.2.1 M u'.2.2.2.2.1 kd i))) := by rw [fm_wl_at hjj, fm_ce_o hkc]
  obtain ⟨cellB, hcB, hoB, hclB⟩ := va_recv hK hP hc he
  rw [show (Cn, T0, N).1 = u'.1.cls from hCn] at hclB
  have hw : ∀ w ∈ fm_ws u', ∀ (a' : Array Value) (U : State), s.WarmedH U.vm → w.before a' U = true := by
    intro w hw a' U hW
    have hin : w ∈ fm_TB := by
      rcases List.mem_cons.mp hw with rfl | hw
      · exact O'.2.1
      · exact hw
    exact word_at hW (good_of_word (List.mem_filter.mp hin).2) (hts w hin)
  have hst : fm_cs E.2.2.2.1 (as.reverse ++ .inr (.inr (.inr (.inr (kd, i)))) :: rest) = (fm_cs E.2.2.2.1 as).reverse ++ .ref (E.2.2.2.1 kd i) :: fm_cs E.2.2.2.1 rest := by
    simp only [fm_cs, List.map_append, List.map_reverse, List.map_cons]
    rfl
  rw [hst]
  intro T hT XS
  have hcode := hts _ O'.2.1
  obtain ⟨mk, methM, hnamed, hmethM, hstM, habM⟩ := Cond.instanceMethod_spec (hts _ hlk.2.1)
  obtain ⟨methM', cM, hmethM', -, -, -, -, -, -, hsigM⟩ := Cond.code_spec hnamed hcode
  cases hmethM.symm.trans hmethM'
  obtain ⟨c2, r2, m2, q1, q2, q3, q4, kP, hkP, hkPi⟩ := Cond.selects_spec (hts _ hlk.2.2)
  cases hclB.symm.trans q1
  cases (State.methodFound?_of_named hnamed hn.1).symm.trans q2
  cases hnamed.symm.trans q3
  have hselP : selectMethod e.platform s.vm cellB.cls mk = .method mk := by rw [Launch.admits_selectMethod XS.admits]; exact q4
  have hlen : (fm_cs E.2.2.2.1 as).length = methM.sig.parameters.length := by
    have h9 := hn.2
    rw [hsigM] at h9
    simp only [fm_cs, List.length_map]
    exact (Option.some.inj h9).symm
  obtain ⟨vm₁, X₁, hstep₁⟩ := XS.invokevirtual hx hown (hts _ hlk.1) hnamed hmethM hstM hkP hkPi hn.1 (a := E.2.2.2.1 kd i) (cell := cellB) (by rw [hT]; exact hcB)
    (fun z h => by rw [h] at hoB; cases hoB) hselP hmethM habM hkP hkPi (g := F0 m pc ls ((fm_cs E.2.2.2.1 as).reverse ++ .ref (E.2.2.2.1 kd i) :: fm_cs E.2.2.2.1 rest)) rfl (argsL := fm_cs E.2.2.2.1 as) (rest := fm_cs E.2.2.2.1 rest) hlen rfl (by rw [hb]; exact hd)
  have hroom := O'.2.2.2.2.2
  obtain ⟨q, t, T', Lc, X', hL, e1, e2, hq, hsteps⟩ := fm_xback (bytes := u'.2.1) (maxL := u'.2.2.1) (ret := u'.2.2.2.1) (g := F0 m pc ls (fm_cs E.2.2.2.1 rest)) (ig := .invokevirtual ix) (a := (Value.ref (E.2.2.2.1 kd i) :: fm_cs E.2.2.2.1 as).toArray) X₁ (K H.size) fm_pre_blind fm_thr (by simp only [fm_rm]; omega) (by simp only [fm_rm]; omega) (by simp only [fm_rm]; omega) (by simp only [fm_rm]; omega) hw List.mem_cons_self
    (fun a' U hW => word_at hW (good_of_word (List.mem_filter.mp O'.2.2.1).2) (hts _ O'.2.2.1)) rfl (hl.1.trans hml.symm) (by rw [hb]; exact hd) (lv_room (by rw [fm_wd_cat]; exact hrest)) (X₁.named hnamed) ⟨rfl, hpre (T.setVm vm₁) hT X₁.warmed⟩
  by_cases hnm' : fm_nm u.1 s
  · obtain ⟨m', args', below', hf', hn'⟩ := id hnm'
    have hm' : m' = m := by
      have := X'.frames.symm.trans hf'
      cases this
      rfl
    subst hm'
    obtain ⟨m3, meth3, c3, y1, y2, y3, -, -, y4, -⟩ := Cond.codeWith_spec (hts _ Ow.2.1)
    cases hn'.symm.trans y1
    cases X'.method.symm.trans y2
    cases X'.code.symm.trans y3
    have htab : c.exceptionTable.toList = tableOf hs := by rw [← y4]; exact (table_eq _).symm
    obtain ⟨q', ce, eq, z1, z2, z3, z4, z5, z6⟩ := hq
    cases eq
    have hfc : s.vm.findClass cl = some ce.cls := by
      rw [← (show s.vm.Alike ((T.setVm vm₁).calling (F0 m' pc ls (fm_cs E.2.2.2.1 rest)) mk (Value.ref (E.2.2.2.1 kd i) :: fm_cs E.2.2.2.1 as).toArray).vm from X₁.warmed.alike).findClass]
      exact z3
    have hpl : e.platform.magicAccessors = ({} : Platform).magicAccessors := by rw [X'.admits.platform]
    have hnc : fm_nc s := hnw.2.2.2.2.2.2.2.2.2.2.2.2
    have hcc : (Cond.castable cl cl).before args s = true := (hcl A s s.heap hnw).use rfl
    obtain ⟨vm2, X2, hgo⟩ := fm_hst X' q (g := F0 m' pc ls (fm_cs E.2.2.2.1 rest)) rfl (ce := ce) (by rw [e1]; exact z1) (fun k hk => by rw [z2] at hk; cases hk) (Vm.classAt_of_findClass hfc) (h := h) (by rw [htab]; exact fm_hfk hpl hown hts hnc hfc hcc hs hfnd)
    obtain ⟨z5a, z5b⟩ := z5
    have hst0 : ((T.setVm vm₁).calling (F0 m' pc ls (fm_cs E.2.2.2.1 rest)) mk (Value.ref (E.2.2.2.1 kd i) :: fm_cs E.2.2.2.1 as).toArray).heap = H := hT
    rw [hst0] at z5a z5b
    obtain ⟨len2, hd2, hln2⟩ := O.2 h _ hij
    have kk : ∀ ls2 : Array Slot, lv_has ls2 u.2.2.1 [] → W p E.1 e R s m' args below meth c T'.heap (locs ++ Lc) (cells + n1) (slots + 6 * n1) (fm_Zn u.1 Z A below args s (cells + (n1 + n)) (slots + 6 * (n1 + n))) (F0 m' (h + fm_ln ij) ls2 []) := by
      intro ls2 hl2
      have kk := k p e R s m' args below meth c A (cells + n1) (slots + 6 * n1) X0 hr hA h1 h2 (by omega) (by omega) T'.heap (locs ++ Lc) ls2 (by rw [e1]; exact z4)
        ⟨Nat.le_trans hS.1 (by rw [e1]; exact z5a), fun q h1 h2 => by rw [e1, z5b q (Nat.lt_of_lt_of_le h1 hS.1) (fun z => h2 (fm_Aw_sub hA hS.1 q z))]; exact hS.2.1 q h1 h2, fun q hq => by
          rcases List.mem_append.mp hq with h | h
          · exact hS.2.2 q h
          · exact fm_Aw_sub hA hS.1 _ (hL q h)⟩ hl2 ⟨fun q hq => (List.not_mem_nil hq).elim, fun w hw => (List.not_mem_nil hw).elim, z6⟩
      rw [show cells + n1 + n = cells + (n1 + n) by omega, show slots + 6 * n1 + 6 * n = slots + 6 * (n1 + n) by omega] at kk
      exact kk
    have hWh : W p E.1 e R s m' args below meth c T'.heap (locs ++ Lc) (cells + n1) (slots + 6 * n1) (fm_Zn u.1 Z A below args s (cells + (n1 + n)) (slots + 6 * (n1 + n))) (F0 m' h ls [.ref q]) := by
      have hl0 : lv_has ls u.2.2.1 [] := ⟨hl.1, hl.2.1, fun q hq => (List.not_mem_nil hq).elim⟩
      rcases haj with rfl | ⟨kf, rfl, hkf⟩
      · rw [hln2 rfl] at hd2
        refine lv_astore hx hb hd2 hl0 hj rfl (fun ls2 hl2 => ?_)
        exact kk ls2 ⟨hl2.1, hl2.2.1, fun q hq => (List.not_mem_nil hq).elim⟩
      · rw [hln2 rfl] at hd2
        refine lv_astore_n hx hb hd2 hkf hl0 hj rfl (fun ls2 hl2 => ?_)
        exact kk ls2 ⟨hl2.1, hl2.2.1, fun q hq => (List.not_mem_nil hq).elim⟩
    obtain ⟨t9, a9, b9⟩ := hWh (T'.setVm vm2) rfl X2
    refine ⟨t9, hstep₁ _ fun acts => ?_, b9⟩
    rw [doInvoke_state]
    exact hsteps.trans (hgo _ a9)
  · exact ⟨_, hstep₁ _ fun acts => by rw [doInvoke_state]; exact hsteps, fun z => absurd z hnm'⟩
end HelpCalls
