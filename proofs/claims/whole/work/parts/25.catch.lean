/-! HANDLERS: the law's helpers catch what the class throws -/
section Hand
/-- the method that the entry state calls bears this name -/
def fm_nm (y : MethodName) (s : State) : Prop := ∃ (m : MethodId) (args : Array Value) (below : List Frame), s.frames = Frame.invoking m args :: below ∧ s.methodNamed? y = some m
abbrev fm_ZT : Type := (Nat → Prop) → List Frame → Array Value → State → Nat → Nat → State → Prop
abbrev fm_Zn (y : MethodName) (Z : fm_ZT) : fm_ZT := fun A below args s cells slots t => fm_nm y s → Z A below args s cells slots t
theorem fm_gZ {E : fm_Ev} {d n : Nat} {u : fm_Me} {C : fm_C} {Z Z' : fm_ZT} (h : ∀ A below args s cells slots t, Z A below args s cells slots t → Z' A below args s cells slots t) (k : fm_Go E d u n C Z) : fm_Go E d u n C Z' := by
  intro p e R s m args below meth c A cells slots X hr hA h1 h2 h3 h4 H locs ls hP hS hl hv T hT XS
  obtain ⟨t, a1, b1⟩ := k p e R s m args below meth c A cells slots X hr hA h1 h2 h3 h4 H locs ls hP hS hl hv T hT XS
  exact ⟨t, a1, h _ _ _ _ _ _ _ b1⟩
/-- one row of a table whose class is linked, be it noted already or not -/
theorem fm_hrow {e : Env} {S : State} {f : JFrame} {a : Addr} {x : ExceptionTableEntry} {t : List ExceptionTableEntry} {c : ClassId} {ce : Cell} (hx : covers x f.pc = true) (h0 : x.catchType ≠ 0) (hl : S.vm.ClassLinks e.platform f.method.cls x.catchType c) (hce : S.heap[a]? = some ce) (hob : ∀ k, ce.vm ≠ .statics k)
    (h1 : ∃ k, S.vm.classes[ce.cls]? = some k) (h2 : ∃ k, S.vm.classes[c]? = some k) {b : Bool} (hb : S.vm.assignable ce.cls c = b) (Q : Handler → Pre) (E : CtlPost) (d : Bool) (acts : List Action) :
    wp (findHandler.go f a (x :: t)) Q E e d acts S ↔ (if b = true then Q (.found x.handlerPc) d acts (S.setVm (S.vm.noted f.method.cls x.catchType (.cls c))) else wp (findHandler.go f a t) Q E e d acts (S.setVm (S.vm.noted f.method.cls x.catchType (.cls c)))) := by
  simp only [covers] at hx
  have hG := (resolveClass_links e.toSetting hl).op (op := VmOp.resolveClass f.method.cls x.catchType) rfl
  have hA : S.vm.Alike (S.vm.noted f.method.cls x.catchType (.cls c)) := (Vm.Alike.refl S.vm).noted _ _ _
  obtain ⟨k1, q1⟩ := h1
  obtain ⟨k2, q2⟩ := h2
  obtain ⟨k1', q1', -⟩ := hA.2.2 _ _ q1
  obtain ⟨k2', q2', -⟩ := hA.2.2 _ _ q2
  have hb' : (S.vm.noted f.method.cls x.catchType (.cls c)).assignable ce.cls c = b := by rw [hA.assignable]; exact hb
  cases b <;> simp [findHandler.go, hx, h0, hG.1, hG.2, hce, hob, q1', q2', hb', VmOp.dirties, VmOp.acts]
/-- the search: rows that cover the place and aren't it, then the one that is -/
def fm_hk (pl : Platform) (s : State) (own : ClassId) (pc : Nat) (tc : ClassId) : List ExceptionTableEntry → Nat → Prop
  | [], _ => False
  | x :: t, h => covers x pc = true ∧ x.catchType ≠ 0 ∧ ∃ c, s.vm.ClassLinks pl own x.catchType c ∧ ((s.vm.assignable tc c = true ∧ h = x.handlerPc) ∨ (s.vm.assignable tc c = false ∧ fm_hk pl s own pc tc t h))
theorem fm_hgo {e : Env} {s : State} {f : JFrame} {a : Addr} {ce : Cell} (hob : ∀ k, ce.vm ≠ .statics k) (h1 : ∃ k, s.vm.classes[ce.cls]? = some k) {h : Nat} : ∀ (xs : List ExceptionTableEntry), fm_hk e.platform s f.method.cls f.pc ce.cls xs h → ∀ S : State, s.WarmedH S.vm → S.heap[a]? = some ce →
    ∃ vm', s.WarmedH vm' ∧ ∀ (Q : Handler → Pre) (E : CtlPost) (d : Bool) (acts : List Action), wp (findHandler.go f a xs) Q E e d acts S ↔ Q (.found h) d acts (S.setVm vm')
  | [], hk, _, _, _ => hk.elim
  | x :: t, hk, S, hW, hce => by
    obtain ⟨hx, h0, c, hl, hk⟩ := hk
    obtain ⟨k1, q1⟩ := h1
    obtain ⟨k1', q1', -⟩ := hW.alike.2.2 _ _ q1
    obtain ⟨dk, _, _, kt, hd, _, _, _, _, hkt, _, hopen⟩ := hl.here
    obtain ⟨kt', hkt', -⟩ := hW.alike.2.2 _ _ hkt
    have hW2 := hW.noted hd hopen (State.rightAt_cls hl)
    rcases hk with ⟨hb, rfl⟩ | ⟨hb, hr⟩
    · refine ⟨_, hW2, fun Q E d acts => ?_⟩
      rw [fm_hrow hx h0 (hW.classLinks hl) hce hob ⟨_, q1'⟩ ⟨_, hkt'⟩ (b := true) (by rw [hW.alike.assignable]; exact hb) Q E d acts, if_pos rfl]
    · obtain ⟨vm', w1, w2⟩ := fm_hgo hob ⟨k1, q1⟩ t hr (S.setVm (S.vm.noted f.method.cls x.catchType (.cls c))) hW2 hce
      refine ⟨vm', w1, fun Q E d acts => ?_⟩
      rw [fm_hrow hx h0 (hW.classLinks hl) hce hob ⟨_, q1'⟩ ⟨_, hkt'⟩ (b := false) (by rw [hW.alike.assignable]; exact hb) Q E d acts, if_neg (by decide)]
      exact w2 Q E d acts
/-- into the handler -/
theorem fm_hst {p : Program} {l : Launch} {e : Env} {R : Room} {s : State} {m : MethodId} {args : Array Value} {below : List Frame} {meth : Method} {c : Code} {T : State} {locs : List Loc} {cells slots : Nat} (X : Stand p l e R s m args below meth c T locs cells slots) (a : Addr) {g : JFrame} (hg : g.method = m) {ce : Cell} (hce : T.heap[a]? = some ce) (hob : ∀ k, ce.vm ≠ .statics k)
    (h1 : ∃ k, s.vm.classes[ce.cls]? = some k) {h : Nat} (hk : fm_hk e.platform s m.cls g.pc ce.cls c.exceptionTable.toList h) :
    ∃ vm', Stand p l e R s m args below meth c (T.setVm vm') locs cells slots ∧ ∀ tg, Steps p.tables e below ((T.setVm vm').setTop { g with pc := h, stack := [.ref a] }) tg → Steps p.tables e below ((T.setTop g).pushFrame (.throwing a)) tg := by
  subst hg
  obtain ⟨vm', w1, w2⟩ := fm_hgo (e := e) (f := g) (a := a) hob h1 c.exceptionTable.toList hk ((T.setTop g).pushFrame (.throwing a)) (by rw [Stand.throwing_vm]; exact X.warmed) (by rw [Stand.throwing_heap]; exact hce)
  refine ⟨vm', X.noted w1, fun tg hrest => ?_⟩
  have hfind : ∀ (Q : Handler → Pre) (E : CtlPost) (d : Bool) (acts : List Action), wp (findHandler g a) Q E e d acts ((T.setTop g).pushFrame (.throwing a)) ↔ Q (.found h) d acts (((T.setTop g).pushFrame (.throwing a)).setVm vm') := by
    intro Q E d acts
    rw [W.findHandler_eq (meth := meth) (code := c) (by rw [Stand.throwing_vm]; exact X.method') X.code]
    exact w2 Q E d acts
  obtain ⟨hgo, hw⟩ := X.here.throwing a
  refine Steps.head hgo hw ?_
  have hstep : ∀ r, (stepThrowing e ((T.setTop g).pushFrame (.throwing a)) a (.java g :: r)).1 = ((((T.setTop g).pushFrame (.throwing a)).setVm vm').setFrames (.java { g with pc := h, stack := [.ref a] } :: r)) := by
    intro r
    simp only [stepThrowing, searchFrame, vmDo]
    generalize hr : Sem.go _ e false [] ((T.setTop g).pushFrame (.throwing a)) = res
    obtain ⟨as, rfl, -⟩ := Sem.eq_ok_of hr (a := Handler.found h) (s' := ((T.setTop g).pushFrame (.throwing a)).setVm vm') (acts' := []) (by simp [hfind _ _ _ _])
    rfl
  rw [stepThread_throwing (frames_entered X.here.top _), hstep]
  obtain ⟨g0, hg0⟩ := Option.isSome_iff_exists.mp X.here.top
  obtain ⟨r, hr⟩ := State.topJava?_eq_some.mp hg0
  have hr' : (T.setVm vm').frames = .java g0 :: r := hr
  have hcom : ∀ (u : State) (F G : List Frame), ((u.setFrames F).setVm vm').setFrames G = (u.setVm vm').setFrames G := by
    intro u F G
    rw [show (u.setFrames F).setVm vm' = (u.setVm vm').setFrames F from rfl, State.setFrames_setFrames]
  rw [State.setTop_of_frames _ hr'] at hrest
  rw [hr, List.tail_cons, State.pushFrame, hcom, State.setTop_of_frames _ hr, hcom]
  exact hrest
/-- the same search, in the tables' words -/
def fm_hf (own cl : String) (pc : Nat) : List (Nat × Nat × Nat × Nat) → Nat → Prop
  | [], _ => False
  | q :: r, h => (q.1 ≤ pc ∧ pc < q.2.1 ∧ q.2.2.2 ≠ 0) ∧ ∃ nm, Cond.classLink own q.2.2.2 nm ∈ fm_TB ∧ ((nm = cl ∧ h = q.2.2.1) ∨ ((∀ U : State, fm_nc U → va_Nc cl nm U) ∧ fm_hf own cl pc r h))
theorem fm_hfk {pl : Platform} (hpl : pl.magicAccessors = ({} : Platform).magicAccessors) {s : State} {args : Array Value} {own cl : String} {oc tc : ClassId} {pc h : Nat} (hown : s.vm.findClass own = some oc) (hts : ∀ w ∈ fm_TB, w.before args s = true) (hnc : fm_nc s) (htc : s.vm.findClass cl = some tc) (hcc : (Cond.castable cl cl).before args s = true) :
    ∀ hs : List (Nat × Nat × Nat × Nat), fm_hf own cl pc hs h → fm_hk pl s oc pc tc (tableOf hs) h
  | [], hk => hk.elim
  | q :: r, hk => by
    obtain ⟨⟨q1, q2, q3⟩, nm, hin, hk⟩ := hk
    obtain ⟨c', hc', hcl⟩ := Cond.classLink_spec hown (hts _ hin) pl hpl
    refine ⟨by simp [covers, q1, q2], q3, c', hcl, ?_⟩
    rcases hk with ⟨rfl, rfl⟩ | ⟨hno, hr⟩
    · obtain ⟨c3, c4, z1, z2, z3⟩ := Cond.castable_spec hcc
      cases z1.symm.trans z2
      cases z1.symm.trans htc
      cases htc.symm.trans hc'
      exact Or.inl ⟨z3, rfl⟩
    · obtain ⟨c3, c4, z1, z2, z3⟩ := hno s hnc
      cases z1.symm.trans htc
      cases z2.symm.trans hc'
      exact Or.inr ⟨z3, fm_hfk hpl hown hts hnc htc hcc r hr⟩
end Hand
