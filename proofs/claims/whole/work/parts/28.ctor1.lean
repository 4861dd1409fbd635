/-! CONSTRUCTORS: what stands in them, their steps (the world grows at its end, the object is its first entry) -/
abbrev fm_sF : String := "FlatModule$Function"
abbrev fm_sR : String := "FlatModule$Frame"
def fm_kn (U : State) : Prop := va_Nw (.methodLinkNest "FlatModule$Checker" 27 ⟨"FlatModule$Frame", "<init>", "()V"⟩ "FlatModule") U ∧ va_Nw (.methodLinkNest "FlatModule" 24 ⟨"FlatModule$Machine", "<init>", "()V"⟩ "FlatModule") U ∧ va_Nw (.methodLinkNest "FlatModule" 29 ⟨"FlatModule$Function", "<init>", "()V"⟩ "FlatModule") U ∧ va_Nw (.methodLinkNest "FlatModule$Function" 23 ⟨"FlatModule$FlatCode", "<init>", "()V"⟩ "FlatModule") U ∧ va_AO fm_sF U ∧ va_AO fm_sR U
theorem fm_kn.to {s U : State} (h : fm_kn s) (hW : s.WarmedH U.vm) : fm_kn U := ⟨va_Nw.warmM hW h.1, va_Nw.warmM hW h.2.1, va_Nw.warmM hW h.2.2.1, va_Nw.warmM hW h.2.2.2.1, va_AO.moved hW.alike h.2.2.2.2.1, va_AO.moved hW.alike h.2.2.2.2.2⟩
theorem fm_kn.same {s U : State} (h : fm_kn s) (hvm : s.vm = U.vm) : fm_kn U := ⟨h.1.same rfl hvm, h.2.1.same rfl hvm, h.2.2.1.same rfl hvm, h.2.2.2.1.same rfl hvm, va_AO.moved (by rw [hvm]; exact Vm.Alike.refl _) h.2.2.2.2.1, va_AO.moved (by rw [hvm]; exact Vm.Alike.refl _) h.2.2.2.2.2⟩
def fm_kx (D : va_G) (cA : Nat → ClassId) (oc : Nat) (cc : ByteArray) (nL : Nat) (p : Program) (s : State) (m : MethodId) (args : Array Value) (meth : Method) (c : Code) (A : Nat → Prop) : Prop :=
  p.tables.exec = Jvm.exec ∧ c.code = cc ∧ c.maxLocals = nL ∧ s.vm.findClass (fm_cn oc) = some m.cls ∧ (∀ w ∈ fm_TB, w.before args s = true) ∧ va_K D fm_cls (fm_tys cA) s ∧ (∀ q, s.heap.size ≤ q → A q) ∧ fm_kn s ∧ meth.locks = false
def fm_kw (D : va_G) (A : Nat → Prop) (s : State) (ws : va_W) (H : Heap) (locs : List Loc) : Prop := va_P D fm_cls ws H ∧ va_D A ws ∧ va_S A s.heap H locs
def fm_z (t : Nat) : (Nat → Int32) ⊕ (Nat → Int64) ⊕ (Nat → UInt32) ⊕ (Nat → UInt64) ⊕ (Nat → Option Nat) :=
  match t with
  | 0 => .inl (fun _ => 0)
  | 1 => .inr (.inl (fun _ => 0))
  | 2 => .inr (.inr (.inr (.inl (fun _ => 0))))
  | 3 => .inl (fun _ => 0)
  | _ => .inr (.inr (.inr (.inr (fun _ => none))))
def fm_df (ci : Nat) : List Value := (List.range (fm_nf ci)).map (fun k => cond (Nat.beq (fm_ft ci k) 2) .null (.int 0))
def fm_att (t : Nat) : ArrayType := match t with
  | 0 => .int
  | 1 => .long
  | 2 => .double
  | _ => .boolean
def fm_aty (t : Nat) : FieldType := match t with
  | 0 => .int
  | 1 => .long
  | 2 => .double
  | _ => .boolean
theorem fm_aw : ∀ t, t < 4 → Cond.arrayClass (fm_aty t) ∈ fm_TB
  | 0, _ => fm_tb (List.mem_of_getElem? (i := 70) (by decide +kernel)) rfl
  | 1, _ => fm_tb (List.mem_of_getElem? (i := 130) (by decide +kernel)) rfl
  | 2, _ => fm_tb (List.mem_of_getElem? (i := 131) (by decide +kernel)) rfl
  | 3, _ => fm_tb (List.mem_of_getElem? (i := 722) (by decide +kernel)) rfl
  | n + 4, h => absurd h (by omega)
section KS
variable {l : Launch} {D : va_G} {cA : Nat → ClassId} {oc : Nat} {cc : ByteArray} {nL : Nat} {p : Program} {e : Env} {R : Room} {s : State} {m : MethodId} {args : Array Value} {below : List Frame} {meth : Method} {c : Code} {A : Nat → Prop} {Q : State → Prop} {cells slots pc : Nat} {ls : Array Slot} {rest : List Value} {ws : va_W} {H : Heap} {locs : List Loc}
set_option maxHeartbeats 4000000 in
theorem fm_knew (X : fm_kx D cA oc cc nL p s m args meth c A) (t N : Nat) (ht : t < 4) {n : Int32} (hn : ¬ n < 0) (hN : n.toNatClampNeg = N) (hby : N ≤ 1000) (hc : cells + 1 ≤ R.cells) (hs : slots + N ≤ R.slots) (hd : decode cc pc = .ok (.newarray (fm_att t), 2)) (h : fm_kw D A s ws H locs)
    (k : ∀ (q : Nat) (H1 : Heap), fm_kw D A s (ws ++ [(q, .inl (cA t, N, fm_z t))]) H1 locs → W p l e R s m args below meth c H1 locs (cells + 1) (slots + N) Q (F0 m (pc + 2) ls (.ref q :: rest))) : W p l e R s m args below meth c H locs cells slots Q (F0 m pc ls (.int n :: rest)) := by
  obtain ⟨hx, hb, -, hown, hts, hK, hA, -⟩ := X
  obtain ⟨hP, hD, hS⟩ := h
  have hcase : t = 0 ∨ t = 1 ∨ t = 2 ∨ t = 3 := by omega
  have hw := fm_aw t ht
  rcases hcase with rfl | rfl | rfl | rfl
  · refine va_newa (atype := .int) (ty := .int) (a0 := (N, fm_z 0)) hx hb (hts _ hw) rfl hK hP hD hS hA (fun cA => rfl) hn hN (by show N * 4 ≤ _; omega) hc hs hd (fun q cB H1 hK1 hP1 hD1 hS1 => ?_)
    have e1 : cB = cA 0 := Option.some.inj (((hK1.2 6 _ rfl).2 : s.vm.findClass _ = some cB).symm.trans ((hK.2 0 _ rfl).2 : s.vm.findClass _ = some (cA 0)))
    subst e1
    exact k q H1 ⟨hP1, hD1, hS1⟩
  · refine va_newa (atype := .long) (ty := .long) (a0 := (N, fm_z 1)) hx hb (hts _ hw) rfl hK hP hD hS hA (fun cA => rfl) hn hN (by show N * 8 ≤ _; omega) hc hs hd (fun q cB H1 hK1 hP1 hD1 hS1 => ?_)
    have e1 : cB = cA 1 := Option.some.inj (((hK1.2 6 _ rfl).2 : s.vm.findClass _ = some cB).symm.trans ((hK.2 1 _ rfl).2 : s.vm.findClass _ = some (cA 1)))
    subst e1
    exact k q H1 ⟨hP1, hD1, hS1⟩
  · refine va_newa (atype := .double) (ty := .double) (a0 := (N, fm_z 2)) hx hb (hts _ hw) rfl hK hP hD hS hA (fun cA => rfl) hn hN (by show N * 8 ≤ _; omega) hc hs hd (fun q cB H1 hK1 hP1 hD1 hS1 => ?_)
    have e1 : cB = cA 2 := Option.some.inj (((hK1.2 6 _ rfl).2 : s.vm.findClass _ = some cB).symm.trans ((hK.2 2 _ rfl).2 : s.vm.findClass _ = some (cA 2)))
    subst e1
    exact k q H1 ⟨hP1, hD1, hS1⟩
  · refine va_newa (atype := .boolean) (ty := .boolean) (a0 := (N, fm_z 3)) hx hb (hts _ hw) rfl hK hP hD hS hA (fun cA => rfl) hn hN (by show N * 1 ≤ _; omega) hc hs hd (fun q cB H1 hK1 hP1 hD1 hS1 => ?_)
    have e1 : cB = cA 3 := Option.some.inj (((hK1.2 6 _ rfl).2 : s.vm.findClass _ = some cB).symm.trans ((hK.2 3 _ rfl).2 : s.vm.findClass _ = some (cA 3)))
    subst e1
    exact k q H1 ⟨hP1, hD1, hS1⟩
def fm_rc (t : Nat) : String := if t = 4 then fm_sF else fm_sR
set_option maxHeartbeats 4000000 in
theorem fm_knq (X : fm_kx D cA oc cc nL p s m args meth c A) (t N : Nat) (ht : t = 4 ∨ t = 5) {ix : Nat} (hcl : Cond.classLink (fm_cn oc) ix (fm_rc t) ∈ fm_TB) {n : Int32} (hn : ¬ n < 0) (hN : n.toNatClampNeg = N) (hby : N ≤ 1000) (hc : cells + 1 ≤ R.cells) (hs : slots + N ≤ R.slots) (hd : decode cc pc = .ok (.anewarray ix, 3)) (h : fm_kw D A s ws H locs)
    (k : ∀ (q : Nat) (H1 : Heap), fm_kw D A s (ws ++ [(q, .inl (cA t, N, .inr (.inr (.inr (.inr (fun _ => none))))))]) H1 locs → W p l e R s m args below meth c H1 locs (cells + 1) (slots + N) Q (F0 m (pc + 3) ls (.ref q :: rest))) : W p l e R s m args below meth c H locs cells slots Q (F0 m pc ls (.int n :: rest)) := by
  obtain ⟨hx, hb, -, hown, hts, hK, hA, hn9, -⟩ := X
  have hF := hn9.2.2.2.2.1
  have hR := hn9.2.2.2.2.2
  obtain ⟨hP, hD, hS⟩ := h
  rcases ht with rfl | rfl
  · refine va_newq (C := fm_sF) hx hb hown (hts _ hcl) hF hK hP hD hS hA hn hN (by omega) hc hs hd (fun q cB H1 hK1 hP1 hD1 hS1 => ?_)
    obtain ⟨_, _, -, -, -, g1⟩ : va_RA s cB (.object fm_sF) := (hK1.2 6 _ rfl).2
    obtain ⟨_, _, -, -, -, g2⟩ : va_RA s (cA 4) (.object fm_sF) := (hK.2 4 _ rfl).2
    have e1 : cB = cA 4 := Option.some.inj (g1.symm.trans g2)
    subst e1
    exact k q H1 ⟨hP1, hD1, hS1⟩
  · refine va_newq (C := fm_sR) hx hb hown (hts _ hcl) hR hK hP hD hS hA hn hN (by omega) hc hs hd (fun q cB H1 hK1 hP1 hD1 hS1 => ?_)
    obtain ⟨_, _, -, -, -, g1⟩ : va_RA s cB (.object fm_sR) := (hK1.2 6 _ rfl).2
    obtain ⟨_, _, -, -, -, g2⟩ : va_RA s (cA 5) (.object fm_sR) := (hK.2 5 _ rfl).2
    have e1 : cB = cA 5 := Option.some.inj (g1.symm.trans g2)
    subst e1
    exact k q H1 ⟨hP1, hD1, hS1⟩
set_option maxHeartbeats 4000000 in
/-- a field of the object itself (the world's first entry) is set -/
theorem fm_kput (X : fm_kx D cA oc cc nL p s m args meth c A) (hin2 : meth.name = "<init>") {fl : Nat → Option (Nat × Nat)} (hfl : fm_flo oc fl) {ix k : Nat} (hf : fl ix = some (oc, k)) (hft : fm_ft oc k = 2) {h0 v : Nat} {fs : List Value} (hl : k < fs.length) (hd : decode cc pc = .ok (.putfield ix, 3)) (h : fm_kw D A s ((h0, .inr (oc, fs)) :: ws) H locs)
    (kk : ∀ (H1 : Heap) (locs1 : List Loc), fm_kw D A s ((h0, .inr (oc, fs.set k (.ref v))) :: ws) H1 locs1 → W p l e R s m args below meth c H1 locs1 cells slots Q (F0 m (pc + 3) ls rest)) : W p l e R s m args below meth c H locs cells slots Q (F0 m pc ls (.ref v :: .ref h0 :: rest)) := by
  obtain ⟨hx, hb, -, hown, hts, hK, hA, -⟩ := X
  obtain ⟨hP, hD, hS⟩ := h
  obtain ⟨h7, hsl, hlink⟩ := hfl ix _ hf
  obtain ⟨C, T, N, ty0, hc, hgd, hN, hin, hty0, hnm, hC, hfi, t0, t1, t2⟩ := fm_clo oc h7
  subst hN
  rw [hgd] at hlink
  have hcn : C = fm_cn oc := by
    have : ∀ ci, ci < 7 → (fm_cls.getD ci ("", fm_T0, 0)).1 = fm_cn ci := by decide +kernel
    have := this oc h7
    rw [hgd] at this
    exact this
  obtain ⟨n1, n2⟩ := fm_rt_ok (t2 k hsl hft) v
  cases hfin : fm_fin oc k with
  | false => exact va_put (D := D) (cl := fm_cls) (ref := C) (C := C) (T := T) (N := fm_nf oc) (ci := oc) (Ts := fm_TB) hx hb hts hin ty0 hty0 hnm hown hK hP hD hS 0 rfl hc k hsl (hts _ hlink) (fun z hz => by rw [← hC k hsl]; exact hz) (by rw [hfi k hsl]; exact hfin) (hty0 k hsl) n1 n2 hl hd (fun H1 locs1 hP1 hD1 hS1 => kk H1 locs1 ⟨hP1, hD1, hS1⟩)
  | true => exact va_putF (D := D) (cl := fm_cls) (ref := C) (C := C) (T := T) (N := fm_nf oc) (ci := oc) (Ts := fm_TB) hx hb hts hin ty0 hty0 hnm hown hK hP hD hS 0 rfl hc k hsl (hts _ hlink) (fun z hz => by rw [← hC k hsl]; exact hz) (by rw [hfi k hsl]; exact hfin) hin2 (by rw [hC k hsl]; exact hcn) (hty0 k hsl) n1 n2 hl hd (fun H1 locs1 hP1 hD1 hS1 => kk H1 locs1 ⟨hP1, hD1, hS1⟩)
set_option maxHeartbeats 4000000 in
theorem fm_kget (X : fm_kx D cA oc cc nL p s m args meth c A) {fl : Nat → Option (Nat × Nat)} (hfl : fm_flo oc fl) {ix k : Nat} (hf : fl ix = some (oc, k)) {h0 : Nat} {v : Value} {fs : List Value} (hv : fs[k]? = some v) (hd : decode cc pc = .ok (.getfield ix, 3)) (h : fm_kw D A s ((h0, .inr (oc, fs)) :: ws) H locs)
    (kk : W p l e R s m args below meth c H locs cells slots Q (F0 m (pc + 3) ls (v :: rest))) : W p l e R s m args below meth c H locs cells slots Q (F0 m pc ls (.ref h0 :: rest)) := by
  obtain ⟨hx, hb, -, hown, hts, hK, hA, -⟩ := X
  obtain ⟨hP, hD, hS⟩ := h
  obtain ⟨h7, hsl, hlink⟩ := hfl ix _ hf
  obtain ⟨C, T, N, ty0, hc, hgd, hN, hin, hty0, hnm, hC, hfi, t0, t1, t2⟩ := fm_clo oc h7
  subst hN
  rw [hgd] at hlink
  exact va_get (D := D) (cl := fm_cls) (ref := C) (C := C) (T := T) (N := fm_nf oc) (ci := oc) (Ts := fm_TB) hx hb hts hin hown hK hP 0 rfl hc k hsl (hts _ hlink) (fun z hz => by rw [← hC k hsl]; exact hz) hv hd kk
theorem fm_kast (X : fm_kx D cA oc cc nL p s m args meth c A) (t : Nat) (ht : t = 4 ∨ t = 5) {q0 qk ci a v n : Nat} {vs : List Value} {f : Nat → Option Nat} (hci : ci = if t = 4 then 4 else 3) (ha : ws[q0]? = some (a, .inl (cA t, n, .inr (.inr (.inr (.inr f)))))) (hv : ws[qk]? = some (v, .inr (ci, vs))) {i : Int32} (hin : vp_in i n) (hd : decode cc pc = .ok (.aastore, 1)) (h : fm_kw D A s ws H locs)
    (kk : ∀ (H1 : Heap) (locs1 : List Loc), fm_kw D A s (ws.set q0 (a, .inl (cA t, n, .inr (.inr (.inr (.inr (va_up f i.toNatClampNeg (some v)))))))) H1 locs1 → W p l e R s m args below meth c H1 locs1 cells slots Q (F0 m (pc + 1) ls rest)) : W p l e R s m args below meth c H locs cells slots Q (F0 m pc ls (.ref v :: .int i :: .ref a :: rest)) := by
  obtain ⟨hx, hb, -, hown, hts, hK, hA, -⟩ := X
  obtain ⟨hP, hD, hS⟩ := h
  rcases ht with rfl | rfl
  · subst hci
    exact va_astq (r := (fm_sF, fm_T4, 9)) hx hb hK hP hD hS q0 4 qk 4 ha rfl hv rfl hin hd (fun H1 locs1 hP1 hD1 hS1 => kk H1 locs1 ⟨hP1, hD1, hS1⟩)
  · subst hci
    exact va_astq (r := (fm_sR, fm_T3, 7)) hx hb hK hP hD hS q0 5 qk 3 ha rfl hv rfl hin hd (fun H1 locs1 hP1 hD1 hS1 => kk H1 locs1 ⟨hP1, hD1, hS1⟩)
/-- Object's constructor -/
theorem fm_kobj (X : fm_kx D cA oc cc nL p s m args meth c A) {ix h0 : Nat} (hl : Cond.methodLink (fm_cn oc) ix Lib.objectInit ∈ fm_TB) (hz : ls.size = nL) (hd : decode cc pc = .ok (.invokespecial ix, 3)) (hf : 1 ≤ R.frames) (hlo : 41 ≤ R.locals)
    (kk : W p l e R s m args below meth c H locs cells slots Q (F0 m (pc + 3) ls [])) : W p l e R s m args below meth c H locs cells slots Q (F0 m pc ls [.ref h0]) := by
  obtain ⟨hx, hb, hml, hown, hts, -⟩ := X
  have h1 : Cond.instanceMethod Lib.objectInit ∈ fm_TB := fm_tb (List.mem_of_getElem? (i := 23) (by decide +kernel)) rfl
  have h2 : Cond.code Lib.objectInit ⟨#[0xb1]⟩ 1 none ∈ fm_TB := fm_tb (List.mem_of_getElem? (i := 24) rfl) rfl
  exact W.objInit hx hb hown (hts _ hl) (hts _ h1) (hts _ h2) rfl (by rw [hml]; exact hz) rfl hd hf (by show 2 * 0 + 0 + 12 ≤ _; omega) kk
/-- two functions of references that agree where the array is -/
theorem fm_kre {q0 a n : Nat} {cB : ClassId} {f g : Nat → Option Nat} (ha : ws[q0]? = some (a, .inl (cB, n, .inr (.inr (.inr (.inr f)))))) (hg : ∀ j, j < n → f j = g j) (h : fm_kw D A s ws H locs) : fm_kw D A s (ws.set q0 (a, .inl (cB, n, .inr (.inr (.inr (.inr g)))))) H locs := by
  obtain ⟨hP, hD, hS⟩ := h
  refine ⟨hP.set hD ha ?_ (fun _ _ => rfl), hD.set ha, hS⟩
  have h1 : H[a]? = some (vp_cell cB (n, .inr (.inr (.inr (.inr f))))) := hP q0 _ ha
  show H[a]? = some (vp_cell cB (n, .inr (.inr (.inr (.inr g)))))
  rw [h1, vp_cell_q, vp_cell_q]
  unfold arrV
  congr 3
  funext j
  show va_rf (f j.1) = va_rf (g j.1)
  rw [hg j.1 j.2]
end KS
/-! a constructor's contract -/
def fm_kP (D : va_G) (cA : Nat → ClassId) (ci h0 : Nat) (sz : Nat) (U : State) : Prop := U.heap.size = sz ∧ va_P D fm_cls [(h0, .inr (ci, fm_df ci))] U.heap ∧ va_K D fm_cls (fm_tys cA) U ∧ fm_kn U
def fm_kQ {S : Type} (D : va_G) (w : S → va_W) (A : Nat → Prop) : Array Value → State → Outcome → State → Prop := va_Qv (fun _ : S => True) (fun u t => va_P D fm_cls (w u) t.heap ∧ va_D A (w u)) A
def fm_kR (d mc ms : Nat) : Room := { frames := d, cells := mc, slots := ms, locals := 41 * d }
def fm_Kc {S : Type} (l : Launch) (D : va_G) (cA : Nat → ClassId) (y : MethodName) (bytes : ByteArray) (maxL ci : Nat) (w : Nat → S → va_W) (d mc ms : Nat) : Prop :=
  ∀ h0 sz, Met l y (Cond.code y bytes maxL none :: fm_TB) (fm_kR d mc ms) (va_Pc [.ref h0] (fm_kP D cA ci h0 sz)) (fm_kQ D (w h0) (va_A [(h0, .inr (ci, fm_df ci))] sz)) mc ms (va_A [(h0, .inr (ci, fm_df ci))] sz)
theorem fm_one {A : Nat → Prop} {a : Nat} {e : va_E} (h : A a) : va_D A [(a, e)] := ⟨fun i j p q hi hj _ => by
  have h1 := (List.getElem?_eq_some_iff.mp hi).1
  have h2 := (List.getElem?_eq_some_iff.mp hj).1
  simp at h1 h2
  omega, fun k q hk => by
  have h1 := (List.getElem?_eq_some_iff.mp hk).1
  simp at h1
  subst h1
  cases hk
  exact h⟩
set_option maxHeartbeats 4000000 in
theorem fm_kM {S : Type} {l : Launch} {D : va_G} {cA : Nat → ClassId} {y : MethodName} {bytes : ByteArray} {maxL ci : Nat} {w : Nat → S → va_W} {d mc ms : Nat} (hpl : plainName y.cls = true) (hcls : y.cls = fm_cn ci) (hy : y.name = "<init>") (hm : 1 ≤ maxL)
    (body : ∀ (p : Program) (e : Env) (s : State) (m : MethodId) (below : List Frame) (meth : Method) (c : Code) (A : Nat → Prop) (h0 : Nat) (ls : Array Slot), fm_kx D cA ci bytes maxL p s m #[.ref h0] meth c A → meth.name = "<init>" → meth.sig.returnType = none → fm_kw D A s [(h0, .inr (ci, fm_df ci))] s.heap [] → lv_has ls maxL [(0, .ref h0)] →
      W p l e (fm_kR d mc ms) s m #[.ref h0] below meth c s.heap [] 0 0 (MQ below (fm_kQ D (w h0) A) #[.ref h0] s mc ms A) (F0 m 0 ls [])) : fm_Kc l D cA y bytes maxL ci w d mc ms := by
  intro h0 sz
  refine Met.ofW (cc := bytes) (maxL := maxL) (ret := none) hpl rfl ?_
  intro p e s m args below meth c s₁ B hml hv
  obtain ⟨rfl, hsz, hP, hK, hn9⟩ := hv
  subst hsz
  have hts := atoms_spec (ws := Cond.code y bytes maxL none :: fm_TB) B.pre
  have hown : s.vm.findClass y.cls = some m.cls := findClass_of_methodNamed B.named
  rw [hcls] at hown
  have hin : meth.name = "<init>" := by rw [← hy]; exact (name_of_methodNamed B.named B.method).1
  have hle := lv_entry [.ref h0] (n := maxL) hm
  rw [lg_entry_eq]
  exact body p e s m below meth c _ h0 _ ⟨B.exec, B.bytes, hml, hown, fun w hw => hts w (List.mem_cons_of_mem _ hw), hK, fun q h => Or.inr h, hn9, B.notSynchronized⟩ hin B.returns ⟨hP, fm_one (Or.inl ⟨0, _, rfl⟩), va_S.rf⟩ hle
theorem fm_kret {S : Type} {l : Launch} {D : va_G} {cA : Nat → ClassId} {oc : Nat} {cc : ByteArray} {nL : Nat} {p : Program} {e : Env} {R : Room} {s : State} {m : MethodId} {args : Array Value} {below : List Frame} {meth : Method} {c : Code} {A : Nat → Prop} {cells slots mc ms pc : Nat} {ls : Array Slot} {H : Heap} {locs : List Loc} {w : S → va_W} (X : fm_kx D cA oc cc nL p s m args meth c A) (hr : meth.sig.returnType = none) (u : S) (h : fm_kw D A s (w u) H locs) (hc : cells ≤ mc) (hs : slots ≤ ms) (hd : decode cc pc = .ok (.return_, 1)) : W p l e R s m args below meth c H locs cells slots (MQ below (fm_kQ D w A) args s mc ms A) (F0 m pc ls []) := by
  obtain ⟨hx, hb, hml, hown, hts, hK, hA, hn9, hlocks⟩ := X
  obtain ⟨hP, hD, hS⟩ := h
  refine W.widen hc hs ?_
  exact W.vret hx hb hr (fun t ht hW => ⟨⟨u, rfl, trivial, by rw [ht]; exact hP, hD⟩, hS.F ht⟩) hS.2.2 hd
theorem fm_join {A0 : Nat → Prop} {D : va_G} {ws w1 : va_W} {e : Nat × va_E} {H H1 : Heap} (hP : va_P D fm_cls (ws ++ [e]) H) (hD : va_D A0 (ws ++ [e])) (hk : ∀ q : Nat, q < H.size → ¬ va_A [e] H.size q → H1[q]? = H[q]?) (hF : ∀ q, va_A [e] H.size q → A0 q) (hP1 : va_P D fm_cls w1 H1) (hD1 : va_D (va_A [e] H.size) w1) : va_P D fm_cls (ws ++ w1) H1 ∧ va_D A0 (ws ++ w1) := by
  have hlt : ∀ (k : Nat) (q : Nat × va_E), ws[k]? = some q → k < ws.length := fun k q h => (List.getElem?_eq_some_iff.mp h).1
  have hup : ∀ (k : Nat) (q : Nat × va_E), ws[k]? = some q → (ws ++ [e])[k]? = some q := fun k q h => by rw [List.getElem?_append_left (hlt k q h)]; exact h
  have hlast : (ws ++ [e])[ws.length]? = some e := by simp
  have apart : ∀ (k : Nat) (q : Nat × va_E), ws[k]? = some q → q.1 < H.size ∧ ¬ va_A [e] H.size q.1 := by
    intro k q h
    have hl := (hP k q (hup k q h)).lt
    refine ⟨hl, fun z => ?_⟩
    rcases z with ⟨k2, e2, z⟩ | z
    · have h1 := (List.getElem?_eq_some_iff.mp z).1
      simp at h1
      subst h1
      have e3 : e = (q.1, e2) := Option.some.inj z
      have := hD.1 k ws.length q e (hup k q h) hlast (by rw [e3])
      have := hlt k q h
      omega
    · omega
  refine ⟨va_P.app (fun k q hq => ?_) hP1, va_D.app ⟨fun i j x y hi hj hxy => hD.1 i j x y (hup i x hi) (hup j y hj) hxy, fun k q hk => hD.2 k q (hup k q hk)⟩ (hD1.weaken (fun k q _ h => hF q.1 h)) (fun i j x y hx hy hxy => ?_)⟩
  · obtain ⟨g1, g2⟩ := apart k q hq
    exact (hP k q (hup k q hq)).kept (hk q.1 g1 g2)
  · exact (apart i x hx).2 (by rw [hxy]; exact hD1.2 j y hy)
theorem fm_kP_blind {D : va_G} {cA : Nat → ClassId} {ci h0 sz : Nat} : FrameBlind (va_Pc [.ref h0] (fm_kP D cA ci h0 sz)) := by
  intro a U g mk h
  obtain ⟨q0, q1, qP, qK, q2⟩ := h
  exact ⟨q0, q1, qP, va_K.moved (u := U) (U := U.calling g mk a) (Vm.Alike.refl U.vm) qK, q2.same (U := U.calling g mk a) rfl⟩
theorem fm_dfv : ∀ ci, ci < 7 → ∀ j, j < fm_nf ci → fm_ft ci j = 0 ∨ fm_ft ci j = 1 ∨ fm_ft ci j = 2 := by decide +kernel
set_option maxHeartbeats 4000000 in
/-- new C; dup; C's constructor -/
theorem fm_knc {S : Type} {l : Launch} {D : va_G} {cA : Nat → ClassId} {oc : Nat} {cc : ByteArray} {nL : Nat} {p : Program} {e : Env} {R : Room} {s : State} {m : MethodId} {args : Array Value} {below : List Frame} {meth : Method} {c : Code} {A : Nat → Prop} {Q : State → Prop} {cells slots pc : Nat} {ls : Array Slot} {rest : List Value} {ws : va_W} {H : Heap} {locs : List Loc}
    (X : fm_kx D cA oc cc nL p s m args meth c A) {y : MethodName} {bytes : ByteArray} {maxL ci d mc ms ixn ixc : Nat} {w : Nat → S → va_W} (K : fm_Kc l D cA y bytes maxL ci w d mc ms) (h7 : ci < 7) (hyc : y = ⟨fm_cn ci, "<init>", "()V"⟩) (hcode : Cond.code y bytes maxL none ∈ fm_TB) (hcl : Cond.classLink (fm_cn oc) ixn (fm_cn ci) ∈ fm_TB) (hinst : Cond.instantiable (fm_cn ci) (fm_nf ci) ∈ fm_TB) (hini : Cond.initialized (fm_cn ci) ∈ fm_TB) (hlk : Cond.methodLink (fm_cn oc) ixc y ∈ fm_TB ∨ va_Nw (.methodLinkNest (fm_cn oc) ixc y "FlatModule") s) (him : Cond.instanceMethod y ∈ fm_TB) (hmx : maxL ≤ 2)
    (hmh : fm_cn ci ≠ "java/lang/invoke/MethodHandle" ∧ fm_cn ci ≠ "java/lang/invoke/VarHandle")
    (hz : ls.size = nL) (hrest : (rest.map fun v => v.category).sum ≤ 7) (hfr : d + 1 ≤ R.frames) (hlo : 41 * (d + 1) ≤ R.locals) (hc : cells + 1 + mc ≤ R.cells) (hs : slots + fm_nf ci + ms ≤ R.slots)
    (hd0 : decode cc pc = .ok (.new ixn, 3)) (hd1 : decode cc (pc + 3) = .ok (.dup, 1)) (hd2 : decode cc (pc + 3 + 1) = .ok (.invokespecial ixc, 3)) (h : fm_kw D A s ws H locs)
    (kk : ∀ (q : Nat) (u : S) (H1 : Heap) (locs1 : List Loc), fm_kw D A s (ws ++ w q u) H1 locs1 → W p l e R s m args below meth c H1 locs1 (cells + 1 + mc) (slots + fm_nf ci + ms) Q (F0 m (pc + 3 + 1 + 3) ls (.ref q :: rest))) : W p l e R s m args below meth c H locs cells slots Q (F0 m pc ls rest) := by
  have X0 := X
  obtain ⟨hx, hb, hml, hown, hts, hK, hA, hn9, hlocks⟩ := X
  obtain ⟨hP, hD, hS⟩ := h
  obtain ⟨C, T, N, ty0, hcc, hgd, hN, hin, hty0, hnm, hC, hfi, t0, t1, t2⟩ := fm_clo ci h7
  subst hN
  have hcn : C = fm_cn ci := by
    have : ∀ ci, ci < 7 → (fm_cls.getD ci ("", fm_T0, 0)).1 = fm_cn ci := by decide +kernel
    have := this ci h7
    rw [hgd] at this
    exact this
  subst hcn
  refine va_new (ci := ci) (fs := fm_df ci) (C := fm_cn ci) (T := T) (N := fm_nf ci) hx hb hts hin ty0 hty0 hown (hts _ hcl) (hts _ hinst) (hts _ hini) hK hP hD hS hA hcc (fun j hj => ?_) (by omega) (by omega) hd0 (fun q H1 hP1 hD1 hS1 => ?_)
  · have hv : vp_V (fm_df ci) j = cond (Nat.beq (fm_ft ci j) 2) .null (.int 0) := by
      unfold vp_V fm_df
      rw [List.getD_eq_getElem?_getD, List.getElem?_map, List.getElem?_range hj]
      rfl
    rw [hv]
    rcases fm_dfv ci h7 j hj with h | h | h
    · rw [t0 j hj h, h]; rfl
    · rw [t1 j hj h, h]; rfl
    · rw [h]
      have := t2 j hj h
      cases hty : ty0 j <;> rw [hty] at this <;> first | rfl | cases this
  refine lv_dup hx hb hd1 rfl ?_
  have hFc : ∀ x, va_A [(q, .inr (ci, fm_df ci))] H1.size x → A x := by
    intro x hx
    rcases hx with ⟨k, e2, hx⟩ | hx
    · have h1 := (List.getElem?_eq_some_iff.mp hx).1
      simp at h1
      subst h1
      cases hx
      exact hD1.2 ws.length (q, .inr (ci, fm_df ci)) (by simp)
    · exact hA x (Nat.le_trans hS1.1 hx)
  have hG : GoodIn fm_TB (Cond.code y bytes maxL none :: fm_TB) := fm_good (by
    intro w hw
    rcases List.mem_cons.mp hw with rfl | hw
    · exact hcode
    · exact hw)
  have hPc : va_P D fm_cls [(q, .inr (ci, fm_df ci))] H1 := fun k x hk => by
    have h1 := (List.getElem?_eq_some_iff.mp hk).1
    simp at h1
    subst h1
    cases hk
    exact hP1 ws.length (q, .inr (ci, fm_df ci)) (by simp)
  have hd9 : y.cls ≠ "java/lang/invoke/MethodHandle" ∧ y.cls ≠ "java/lang/invoke/VarHandle" ∧ (parseMethodDescriptor y.desc).map (fun d => d.parameters.length) = some 0 := by
    rw [hyc]
    exact ⟨hmh.1, hmh.2, by show (parseMethodDescriptor "()V").map _ = _; decide +kernel⟩
  have hr9 : (fm_kR d mc ms).frames + 1 ≤ R.frames ∧ 8 + (maxL + 11) + (fm_kR d mc ms).locals ≤ R.locals := ⟨hfr, by show 8 + (maxL + 11) + 41 * d ≤ R.locals; omega⟩
  have hi9 : (Cond.initialized y.cls).before args s = true := by rw [hyc]; exact hts _ hini
  have hp9 : PreS s H1 (va_Pc [.ref q] (fm_kP D cA ci q H1.size)) [.ref q] := ⟨fm_kP_blind, fun U hU hW => ⟨rfl, by rw [hU], by rw [hU]; exact hPc, va_K.moved hW.alike hK, hn9.to hW⟩⟩
  have hrun : va_Run p l e R s m args below meth c H1 locs (cells + 1) (slots + fm_nf ci) mc ms (F0 m (pc + 3 + 1) ls (.ref q :: .ref q :: rest)) (.ref q :: rest) (fm_kQ D (w q) (va_A [(q, .inr (ci, fm_df ci))] H1.size) #[.ref q]) (va_A [(q, .inr (ci, fm_df ci))] H1.size) := by
    rcases hlk with hlk | hlk
    · exact va_runI (As := []) (rest := .ref q :: rest) ⟨hx, hb, hml, hown, hts⟩ (K q H1.size) (cwI 0 hts hG rfl rfl rfl hi9 (hts _ hlk) (hts _ him) (by rw [hyc]) hd9 hr9) hp9 rfl rfl hz rfl (lv_room (by rw [List.map_cons, List.sum_cons]; show 1 + _ ≤ 8; omega)) hd2 ⟨hc, hs⟩
    · exact va_runIN (As := []) (rest := .ref q :: rest) ⟨hx, hb, hml, hown, hts⟩ (K q H1.size) ⟨va_cnB 0 hts hG rfl rfl rfl hlk hi9 hd9 hr9, by rw [hyc], hts _ him⟩ hp9 rfl rfl hz rfl (lv_room (by rw [List.map_cons, List.sum_cons]; show 1 + _ ≤ 8; omega)) hd2 ⟨hc, hs⟩
  refine va_callv hrun hS1 (fun x _ h => hFc x h) hFc (fun u t H2 locs2 ht hvm _ hB hz1 hk1 hS2 => ?_)
  obtain ⟨hP2, hD2⟩ := hB
  rw [ht] at hP2
  obtain ⟨hP3, hD3⟩ := fm_join hP1 hD1 hk1 hFc hP2 hD2
  exact kk q u H2 locs2 ⟨hP3, hD3, hS2⟩
