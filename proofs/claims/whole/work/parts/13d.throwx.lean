/-! 'throw new cl()' ends the method -/
theorem fm_isref {C n d : String} {A : Nat → Prop} {U : State} {args : Array Value} (h : va_Zq C n d A U U.heap) : (Cond.isRef (.static C n d)).before args U = true := by
  have key : ∀ v : Value, va_Z C n d v A U U.heap → (Term.static C n d).eval args U none [] U = some v := by
    intro v hz
    obtain ⟨cf, kf, fi, f, a, cell, h1, h2, h3, h4, h5, h6, h7, h8⟩ := hz
    exact Term.static_eval h1 h2 h4 h5 h6 h7
  rcases h with h | ⟨t, h⟩
  · simp [Cond.before, Cond.holds, Cond.value, key _ h]
  · simp [Cond.before, Cond.holds, Cond.value, key _ h]
section ThrowW
set_option maxHeartbeats 4000000 in
/-- new, dup, <init>, athrow, from a state in which nothing has been done yet -/
theorem fm_thW {p : Program} {l : Launch} {e : Env} {R : Room} {s : State} {m : MethodId} {args : Array Value} {below : List Frame} {meth : Method} {c : Code} {cc : ByteArray} {own cl : String} {ik ic pc : Nat} {ls : Array Slot} {st : List Value} (hx : p.tables.exec = Jvm.exec) (hb : c.code = cc) (htr : l.stackTraces = false) (hlocks : meth.locks = false) (hempty : c.exceptionTable.toList = [])
    (hown : s.vm.findClass own = some m.cls) (hcl : (Cond.classLink own ik cl).before args s = true) (hins : (Cond.instantiable cl 6).before args s = true) (hini : (Cond.initialized cl).before args s = true) (hfit : Bundle.fit cl = true) (hall : ∀ a ∈ Bundle.ownAtoms0 own ic cl fm_nms, a.before args s = true)
    (d0 : decode cc pc = .ok (.new ik, 3)) (d1 : decode cc (pc + 3) = .ok (.dup, 1)) (d2 : decode cc (pc + 4) = .ok (.invokespecial ic, 3)) (d3 : decode cc (pc + 7) = .ok (.athrow, 1)) (hsl : ls.size = c.maxLocals)
    (hf : 5 < R.frames) (hlo : (st.map fun v => v.category).sum + 81 ≤ R.locals) (hc1 : 1 ≤ R.cells) (hs6 : 6 ≤ R.slots) :
    W p l e R s m args below meth c s.heap [] 0 0 (fun t => ∃ q ce, t.status = .running ∧ Ended t below (.threw q) ∧ s.WarmedH t.vm ∧ s.sameButNew ({ t with vm := s.vm } : State) [] 1 6 ∧ t.heap[q]? = some ce ∧ ce.vm = .none ∧ s.vm.findClass cl = some ce.cls) (F0 m pc ls st) := by
  refine W.newc (g := F0 m pc ls st) (C := cl) (n := 6) hx hb (own := own) hown hcl hins hini rfl d0 (by rw [Nat.zero_add]; exact hc1) (by rw [Nat.zero_add]; exact hs6) (fun cC kC f1 f2 f3 f4 => ?_)
  refine W.eq (g2 := F0 m (pc + 3) ls (.ref s.heap.size :: st)) rfl ?_
  refine lv_dup hx hb d1 rfl ?_
  intro T2 hT2 X2
  have htr' : e.platform.stackTraces = false := by rw [X2.admits.platform]; exact htr
  have hcell : T2.heap[s.heap.size]? = some (freshCell cC kC) := by
    rw [hT2]
    simp [freshCell]
  obtain ⟨U, s1, s2, s3, s4, s5, ce, s6, s7⟩ := X2.ctorThrow0 hx htr' (own := own) (cls := cl) (names := fm_nms) (ic := ic) hown hfit (by decide +kernel) hall (fun x hx => by cases hx) (a := s.heap.size) f1 f2 hcell (Nat.le_refl _) (g := F0 m (pc + 3 + 1) ls (.ref s.heap.size :: .ref s.heap.size :: st)) rfl hsl rfl rfl (rest := st) rfl (by rw [hb]; exact d2) (by rw [hb]; exact d3) (fun x hx => by rw [hempty] at hx; cases hx)
    (by show 2 + 3 < R.frames; omega) (by
      show 2 * 0 + ((Value.ref s.heap.size :: st).map fun v => v.category).sum + (13 * (2 + 1) + 41) ≤ R.locals
      rw [List.map_cons, List.sum_cons]
      show 2 * 0 + (1 + _) + (13 * (2 + 1) + 41) ≤ R.locals
      omega)
  rw [Nat.zero_add] at s5
  exact ⟨U, s1, _, ce, s2, s3, s4, s5, s6, s7.vm, s7.cls⟩
end ThrowW
section ThrowNew
variable {E : fm_Ev} {d : Nat} {u : fm_Me}
set_option maxHeartbeats 4000000 in
theorem fm_th (O : fm_mo u) (hoc : u.2.2.2.2.1 ≠ 8) {pc ik ic : Nat} {lo : List (Nat × fm_V)} {st : List fm_V} {M : fm_M} {cl : String} (hw : fm_at u.2.2.2.2.1 ik ic cl)
    (i0 : u.2.2.2.2.2.2 pc = some (.new ik)) (i1 : u.2.2.2.2.2.2 (pc + 3) = some .dup) (i2 : u.2.2.2.2.2.2 (pc + 4) = some (.invokespecial ic)) (i3 : u.2.2.2.2.2.2 (pc + 7) = some .athrow) (hst : fm_wd st ≤ 8) : fm_Go E (d + 6) u 1 (pc, lo, st, M) (fm_Zx E cl M) := by
  intro p e R s m args below meth c A cells slots X hr hA h1 h2 h3 h4
  obtain ⟨hx, hb, hml, hown, hts, hK, hD, hAs, hXs, hnw, hlocks, htr0, hh⟩ := X
  have hempty : c.exceptionTable.toList = [] := hh.resolve_left hoc
  obtain ⟨len0, d0, l0⟩ := O.2 _ _ i0
  rw [l0 rfl] at d0
  obtain ⟨len1, d1, l1⟩ := O.2 _ _ i1
  rw [l1 rfl] at d1
  obtain ⟨len2, d2, l2⟩ := O.2 _ _ i2
  rw [l2 rfl] at d2
  obtain ⟨len3, d3, l3⟩ := O.2 _ _ i3
  rw [l3 rfl] at d3
  intro H locs ls hP hS hl hv
  intro T hT XS
  have XR : Stand p E.1 e { frames := R.frames, cells := 1, slots := 6, locals := R.locals } (fm_s' s T) m args below meth c T [] 0 0 := fm_rebase XS (Nat.le_refl _) (Nat.le_refl _) (by show cells + 1 ≤ _; omega) (by show slots + 6 ≤ _; omega)
  have gw : ∀ w, goodWord w = true → w.before args s = true → w.before args (fm_s' s T) = true := by
    intro w hg hb'
    have := word_at (s := s) (U := fm_s' s T) (a' := args) (State.WarmedH.refl s) (good_of_word hg) hb'
    exact this
  have inTB : ∀ w, w ∈ fm_TB → w.before args (fm_s' s T) = true := fun w hw => gw w (List.mem_filter.mp hw).2 (hts w hw)
  have hkeep : ∀ a : Nat, a < s.heap.size → ¬ A a → T.heap[a]? = s.heap[a]? := fun a q1 q2 => by rw [hT]; exact hS.2.1 a q1 q2
  have hnw' : fm_nw A (fm_s' s T) T.heap := hnw.to (U := fm_s' s T) (State.WarmedH.refl s) hkeep (fun q h => h)
  obtain ⟨hg, hbad, hcl, hins, hini, hfit, hfour⟩ := hw
  have hall : ∀ a ∈ Bundle.ownAtoms0 (fm_cn u.2.2.2.2.1) ic cl fm_nms, a.before args (fm_s' s T) = true := by
    intro a ha
    cases hgw : goodWord a with
    | true => exact inTB a (hg a (List.mem_filter.mpr ⟨ha, hgw⟩))
    | false =>
      have hin : a ∈ fm_bad cl := by
        rw [← hbad]
        exact List.mem_filter.mpr ⟨ha, by rw [hgw]; rfl⟩
      obtain ⟨-, c1, c2, c3, c4, k1, k2, z1, z2, e1, e2, e3, -⟩ := hnw'
      simp only [fm_bad, List.mem_cons, List.not_mem_nil, or_false] at hin
      rcases hin with rfl | rfl | rfl | rfl | rfl | rfl | rfl | rfl
      · exact k1.use
      · exact k2.use
      · exact e1.use rfl
      · exact e2.use rfl
      · exact e3.use rfl
      · rcases hfour with rfl | rfl | rfl | rfl
        · exact c1.use rfl
        · exact c2.use rfl
        · exact c3.use rfl
        · exact c4.use rfl
      · exact fm_isref z1
      · exact fm_isref z2
  have hsl : ls.size = c.maxLocals := hl.1.trans hml.symm
  have Hw := fm_thW (R := { frames := R.frames, cells := 1, slots := 6, locals := R.locals }) (s := fm_s' s T) (p := p) (l := E.1) (e := e) (m := m) (args := args) (below := below) (pc := pc) (ls := ls) (st := fm_cs E.2.2.2.1 st) hx hb htr0 hlocks hempty hown (inTB _ hcl) (inTB _ hins) (inTB _ hini) hfit hall d0 d1 d2 d3 hsl (by show 5 < R.frames; omega) (by show _ + 81 ≤ R.locals; rw [fm_wd_cat]; omega) (Nat.le_refl _) (Nat.le_refl _)
  obtain ⟨t, a1, q, ce, b1, b2, b3, b4, b5, b6, b7⟩ := Hw T rfl XR
  have hsame : s.sameButNew ({ t with vm := s.vm } : State) locs (cells + 1) (slots + 6 * 1) := by
    have hmid : s.sameButNew (fm_s' s T) locs cells slots := by
      obtain ⟨y1, y2, y3, y4, y5, y6⟩ := XS.same
      refine ⟨?_, y2, y3, y4, y5, y6⟩
      have hfr : s.setFrames s.frames = s := by
        obtain ⟨t9, ht9, -⟩ := State.frames_cons XS.frames
        exact State.setFrames_self ht9
      show fm_s' s T = { s.setFrames s.frames with heap := T.heap, slotsUsed := T.slotsUsed }
      rw [hfr]
    have := hmid.trans b4
    rw [List.append_nil] at this
    exact this
  have hheap : ∀ z : Nat, z < T.heap.size → t.heap[z]? = T.heap[z]? := by
    intro z hz
    obtain ⟨y1, y2, y3, y4, y5, y6⟩ := b4
    obtain ⟨c', w1, w2, w3, w4⟩ := y6 z T.heap[z] (Array.getElem?_eq_getElem hz)
    have ec : c' = T.heap[z] := by
      rw [w2]
      have : c'.slots = T.heap[z].slots := by
        apply Array.ext_getElem?
        intro i
        exact w4 i (fun h => nomatch h)
      rw [this]
    show t.heap[z]? = _
    rw [Array.getElem?_eq_getElem hz, ← ec]
    exact w1
  have hsz : T.heap.size ≤ t.heap.size := b4.2.1
  refine ⟨t, a1, .threw q, b1, b2, ⟨q, ce, rfl, b5, b6, b7, ?_, ?_, hv.2.2⟩, locs, b3, hsame, hS.2.2⟩
  · refine hP.kept (fun k z hk => ?_)
    have hlt := (hP k z hk).lt
    rw [hheap z.1 (by rw [hT]; exact hlt), hT]
  · refine ⟨Nat.le_trans hS.1 (by rw [← hT]; exact hsz), fun z q1 q2 => ?_⟩
    rw [hheap z (by rw [hT]; exact Nat.lt_of_lt_of_le q1 hS.1), hT]
    exact hS.2.1 z q1 q2
end ThrowNew
