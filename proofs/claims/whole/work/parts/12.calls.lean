/-! CALLS of methods that return -/
theorem fm_good {ws : List Cond} (h : ∀ w ∈ ws, w ∈ fm_TB) : GoodIn fm_TB ws := fun w hw => ⟨h w hw, good_of_word (List.mem_filter.mp (h w hw)).2⟩
/-- the words of a virtual call -/
def fm_lv (oc ix : Nat) (y : MethodName) : Prop := Cond.methodLink (fm_cn oc) ix y ∈ fm_TB ∧ Cond.instanceMethod y ∈ fm_TB ∧ Cond.selects y.cls y y ∈ fm_TB
/-- the words of a static call -/
def fm_lst (oc ix : Nat) (y : MethodName) : Prop := Cond.methodLink (fm_cn oc) ix y ∈ fm_TB ∧ Cond.static y ∈ fm_TB
def fm_np (y : MethodName) (n : Nat) : Prop := (y.cls ≠ "java/lang/invoke/MethodHandle" ∧ y.cls ≠ "java/lang/invoke/VarHandle") ∧ (parseMethodDescriptor y.desc).map (fun d => d.parameters.length) = some n
section Calls
variable {E : fm_Ev} {d n n1 : Nat} {u u' : fm_Me} {Z : (Nat → Prop) → List Frame → Array Value → State → Nat → Nat → State → Prop}
theorem fm_Ctv {E : fm_Ev} {A : Nat → Prop} {v : Option fm_V} {M' : fm_M} {a : Array Value} {st : State} {w : Option Value} {t : State} (h : fm_Q E A v M' a st (.returned w) t) : w = v.map (fm_cv E.2.2.2.1) ∧ (va_P E.2.1 fm_cls (fm_wl E.2.2.1 E.2.2.2.1 M') t.heap ∧ (∀ w ∈ v, fm_ok w) ∧ fm_okM M') ∧ va_F A st t :=
  ⟨Outcome.returned.inj h.1, ⟨h.2.1, h.2.2.2⟩, h.2.2.1⟩
theorem fm_vm {v : Option fm_V} {ad : fm_A} {rest : List fm_V} : (v.map (fm_cv ad)).toList ++ fm_cs ad rest = fm_cs ad (v.toList ++ rest) := by
  cases v <;> rfl
set_option maxHeartbeats 4000000 in
theorem fm_cV (O : fm_mo u) (O' : fm_mok u') {pc ix kd i : Nat} {lo : List (Nat × fm_V)} {as rest : List fm_V} {M M1 : fm_M} {v : Option fm_V} (hi : u.2.2.2.2.2.2 pc = some (.invokevirtual ix)) (hlk : fm_lv u.2.2.2.2.1 ix u'.1) (hkd : fm_is kd u'.2.2.2.2.1 = true) (h7 : u'.2.2.2.2.1 < 7)
    (hn : fm_np u'.1 as.length) (hrest : fm_wd rest ≤ 8) (K : fm_Ct E d u' n1 (.inr (.inr (.inr (.inr (kd, i)))) :: as) M v M1)
    (k : fm_Go E (d + 1) u n (pc + 3, lo, v.toList ++ rest, M1) Z) : fm_Go E (d + 1) u (n1 + n) (pc, lo, as.reverse ++ .inr (.inr (.inr (.inr (kd, i)))) :: rest, M) Z := by
  intro p e R s m args below meth c A cells slots X hr hA h1 h2 h3 h4
  have X0 := X
  obtain ⟨hx, hb, hml, hown, hts, hK, hD, -⟩ := X
  obtain ⟨len, hd, hln⟩ := O.2 pc _ hi
  rw [hln rfl] at hd
  intro H locs ls hP hS hl hv
  have has : ∀ w ∈ (.inr (.inr (.inr (.inr (kd, i)))) :: as : List fm_V), fm_ok w := by
    intro w hw
    rcases List.mem_cons.mp hw with rfl | hw
    · exact hv.2.1 _ (List.mem_append_right _ List.mem_cons_self)
    · exact hv.2.1 _ (List.mem_append_left _ (List.mem_reverse.mpr hw))
  have hpre := fm_preAt X0 hA hP hS hv.2.2 has
  obtain ⟨hkc, hk50⟩ := fm_is_ok hkd
  obtain ⟨j, hj⟩ := fm_ki_at hk50 (show i < fm_cnt kd from has _ List.mem_cons_self)
  obtain ⟨Cn, T, N, ty0, hc, hgd, hN, hin, hty0, hnm, hC, hfi, t0, t1, t2⟩ := fm_clo u'.2.2.2.2.1 h7
  have hCn : Cn = u'.1.cls := by
    rw [O'.2.2.2.1]
    have h9 := hgd
    rcases (show u'.2.2.2.2.1 = 0 ∨ u'.2.2.2.2.1 = 1 ∨ u'.2.2.2.2.1 = 2 ∨ u'.2.2.2.2.1 = 3 ∨ u'.2.2.2.2.1 = 4 ∨ u'.2.2.2.2.1 = 5 ∨ u'.2.2.2.2.1 = 6 by omega) with q | q | q | q | q | q | q <;> (rw [q] at h9 ⊢; cases h9; rfl)
  have he : (fm_wl E.2.2.1 E.2.2.2.1 M)[j]? = some (E.2.2.2.1 kd i, .inr (u'.2.2.2.2.1, (List.range (fm_nf u'.2.2.2.2.1)).map (fm_fv E.2.2.2.1 M u'.2.2.2.2.1 kd i))) := by rw [fm_wl_at hj, fm_ce_o hkc]
  have hG : GoodIn fm_TB (wsV (fm_cn u.2.2.2.2.1) ix u'.1.cls u'.1 (fm_ws u')) := fm_good (by
    intro w hw
    unfold wsV at hw
    rcases List.mem_append.mp hw with hw | hw
    · simp only [List.mem_cons, List.not_mem_nil, or_false] at hw
      rcases hw with rfl | rfl | rfl | rfl
      · exact hlk.1
      · exact hlk.2.1
      · exact hlk.2.2
      · exact O'.2.2.1
    · rcases List.mem_cons.mp hw with rfl | hw
      · exact O'.2.1
      · exact hw)
  have hroom : (fm_rm d n1).frames + 1 ≤ R.frames ∧ 8 + (u'.2.2.1 + 11) + (fm_rm d n1).locals ≤ R.locals := by
    have := O'.2.2.2.2.2
    simp only [fm_rm]
    omega
  have hst : fm_cs E.2.2.2.1 (as.reverse ++ .inr (.inr (.inr (.inr (kd, i)))) :: rest) = (fm_cs E.2.2.2.1 as).reverse ++ .ref (E.2.2.2.1 kd i) :: fm_cs E.2.2.2.1 rest := by
    simp only [fm_cs, List.map_append, List.map_reverse, List.map_cons]
    rfl
  rw [hst]
  refine fm_after (A1 := fm_Aw E.2.2.2.1 H.size) (free := fm_Aw E.2.2.2.1 H.size) (v0 := v.map (fm_cv E.2.2.2.1)) (PH := fun H1 => va_P E.2.1 fm_cls (fm_wl E.2.2.1 E.2.2.2.1 M1) H1 ∧ (∀ w ∈ v, fm_ok w) ∧ fm_okM M1) (va_runV (As := fm_cs E.2.2.2.1 as) (rest := fm_cs E.2.2.2.1 rest) (n := as.length) ⟨hx, hb, hml, hown, hts⟩ (K H.size) (cwV as.length hts hG rfl rfl rfl ⟨rfl, hn.1.1, hn.1.2, hn.2⟩ hroom) ⟨fm_pre_blind, ?_, fun U hU hW => ⟨rfl, hpre U hU hW⟩⟩ rfl (by simp [fm_cs]) hl.1 rfl (lv_room (by rw [fm_wd_cat]; exact hrest)) hd ⟨by omega, by omega⟩) (fun st w t h => fm_Ctv h) hS (fun q _ h => fm_Aw_sub hA hS.1 q h) (fun q h => fm_Aw_sub hA hS.1 q h) ?_
  · have := va_recv hK hP hc he
    rw [hCn] at this
    exact this
  · intro H1 locs1 hPP hS1
    have kk := k p e R s m args below meth c A (cells + n1) (slots + 6 * n1) X0 hr hA h1 h2 (by omega) (by omega) H1 locs1 ls hPP.1 hS1 hl ⟨hv.1, fun w hw => ?_, hPP.2.2⟩
    · rw [show cells + n1 + n = cells + (n1 + n) by omega, show slots + 6 * n1 + 6 * n = slots + 6 * (n1 + n) by omega] at kk
      rw [fm_vm]
      exact kk
    · rcases List.mem_append.mp hw with h | h
      · exact hPP.2.1 w (Option.mem_toList.mp h)
      · exact hv.2.1 w (List.mem_append_right _ (List.mem_cons_of_mem _ h))
set_option maxHeartbeats 4000000 in
theorem fm_cS (O : fm_mo u) (O' : fm_mok u') {pc ix : Nat} {lo : List (Nat × fm_V)} {as rest : List fm_V} {M M1 : fm_M} {v : Option fm_V} (hi : u.2.2.2.2.2.2 pc = some (.invokestatic ix)) (hlk : fm_lst u.2.2.2.2.1 ix u'.1)
    (hn : fm_np u'.1 as.length) (hrest : fm_wd rest ≤ 8) (K : fm_Ct E d u' n1 as M v M1)
    (k : fm_Go E (d + 1) u n (pc + 3, lo, v.toList ++ rest, M1) Z) : fm_Go E (d + 1) u (n1 + n) (pc, lo, as.reverse ++ rest, M) Z := by
  intro p e R s m args below meth c A cells slots X hr hA h1 h2 h3 h4
  have X0 := X
  obtain ⟨hx, hb, hml, hown, hts, hK, hD, -⟩ := X
  obtain ⟨len, hd, hln⟩ := O.2 pc _ hi
  rw [hln rfl] at hd
  intro H locs ls hP hS hl hv
  have has : ∀ w ∈ as, fm_ok w := fun w hw => hv.2.1 _ (List.mem_append_left _ (List.mem_reverse.mpr hw))
  have hpre := fm_preAt X0 hA hP hS hv.2.2 has
  have hG : GoodIn fm_TB (va_wsS (fm_cn u.2.2.2.2.1) ix u'.1 (fm_ws u')) := fm_good (by
    intro w hw
    unfold va_wsS at hw
    rcases List.mem_append.mp hw with hw | hw
    · simp only [List.mem_cons, List.not_mem_nil, or_false] at hw
      rcases hw with rfl | rfl | rfl
      · exact hlk.1
      · exact hlk.2
      · exact O'.2.2.1
    · rcases List.mem_cons.mp hw with rfl | hw
      · exact O'.2.1
      · exact hw)
  have hroom : (fm_rm d n1).frames + 1 ≤ R.frames ∧ 8 + (u'.2.2.1 + 11) + (fm_rm d n1).locals ≤ R.locals := by
    have := O'.2.2.2.2.2
    simp only [fm_rm]
    omega
  have hst : fm_cs E.2.2.2.1 (as.reverse ++ rest) = (fm_cs E.2.2.2.1 as).reverse ++ fm_cs E.2.2.2.1 rest := by
    simp only [fm_cs, List.map_append, List.map_reverse]
  rw [hst]
  refine fm_after (A1 := fm_Aw E.2.2.2.1 H.size) (free := fm_Aw E.2.2.2.1 H.size) (v0 := v.map (fm_cv E.2.2.2.1)) (PH := fun H1 => va_P E.2.1 fm_cls (fm_wl E.2.2.1 E.2.2.2.1 M1) H1 ∧ (∀ w ∈ v, fm_ok w) ∧ fm_okM M1) (va_runS (As := fm_cs E.2.2.2.1 as) (rest := fm_cs E.2.2.2.1 rest) (n := as.length) ⟨hx, hb, hml, hown, hts⟩ (K H.size) (va_cwS as.length hts hG rfl rfl rfl ⟨hn.1.1, hn.1.2, hn.2⟩ hroom) ⟨fm_pre_blind, fun U hU hW => ⟨rfl, hpre U hU hW⟩⟩ rfl (by simp [fm_cs]) hl.1 rfl (lv_room (by rw [fm_wd_cat]; exact hrest)) hd ⟨by omega, by omega⟩) (fun st w t h => fm_Ctv h) hS (fun q _ h => fm_Aw_sub hA hS.1 q h) (fun q h => fm_Aw_sub hA hS.1 q h) ?_
  intro H1 locs1 hPP hS1
  have kk := k p e R s m args below meth c A (cells + n1) (slots + 6 * n1) X0 hr hA h1 h2 (by omega) (by omega) H1 locs1 ls hPP.1 hS1 hl ⟨hv.1, fun w hw => ?_, hPP.2.2⟩
  · rw [show cells + n1 + n = cells + (n1 + n) by omega, show slots + 6 * n1 + 6 * n = slots + 6 * (n1 + n) by omega] at kk
    rw [fm_vm]
    exact kk
  · rcases List.mem_append.mp hw with h | h
    · exact hPP.2.1 w (Option.mem_toList.mp h)
    · exact hv.2.1 w (List.mem_append_right _ h)
set_option maxHeartbeats 4000000 in
/-- Checker's call of FlatModule.isWithin, a nest mate's private method -/
theorem fm_cN (O : fm_mo u) (O' : fm_mok u') {pc : Nat} {lo : List (Nat × fm_V)} {as rest : List fm_V} {M M1 : fm_M} {v : Option fm_V} (hi : u.2.2.2.2.2.2 pc = some (.invokestatic 93)) (hoc : u.2.2.2.2.1 = 1) (hy : u'.1 = ⟨"FlatModule", "isWithin", "(II)Z"⟩) (hsw : Cond.static u'.1 ∈ fm_TB)
    (hn : fm_np u'.1 as.length) (hrest : fm_wd rest ≤ 8) (K : fm_Ct E d u' n1 as M v M1)
    (k : fm_Go E (d + 1) u n (pc + 3, lo, v.toList ++ rest, M1) Z) : fm_Go E (d + 1) u (n1 + n) (pc, lo, as.reverse ++ rest, M) Z := by
  intro p e R s m args below meth c A cells slots X hr hA h1 h2 h3 h4
  have X0 := X
  obtain ⟨hx, hb, hml, hown, hts, hK, hD, -, -, hnw, -, -⟩ := X
  obtain ⟨len, hd, hln⟩ := O.2 pc _ hi
  rw [hln rfl] at hd
  intro H locs ls hP hS hl hv
  have has : ∀ w ∈ as, fm_ok w := fun w hw => hv.2.1 _ (List.mem_append_left _ (List.mem_reverse.mpr hw))
  have hpre := fm_preAt X0 hA hP hS hv.2.2 has
  have hG : GoodIn fm_TB (fm_ws u') := fm_good (by
    intro w hw
    rcases List.mem_cons.mp hw with rfl | hw
    · exact O'.2.1
    · exact hw)
  have hroom : (fm_rm d n1).frames + 1 ≤ R.frames ∧ 8 + (u'.2.2.1 + 11) + (fm_rm d n1).locals ≤ R.locals := by
    have := O'.2.2.2.2.2
    simp only [fm_rm]
    omega
  have hst : fm_cs E.2.2.2.1 (as.reverse ++ rest) = (fm_cs E.2.2.2.1 as).reverse ++ fm_cs E.2.2.2.1 rest := by
    simp only [fm_cs, List.map_append, List.map_reverse]
  rw [hst]
  have hlink : va_Nw (.methodLinkNest (fm_cn u.2.2.2.2.1) 93 u'.1 "FlatModule") s := by
    rw [hoc, hy]
    exact hnw.1
  refine fm_after (A1 := fm_Aw E.2.2.2.1 H.size) (free := fm_Aw E.2.2.2.1 H.size) (v0 := v.map (fm_cv E.2.2.2.1)) (PH := fun H1 => va_P E.2.1 fm_cls (fm_wl E.2.2.1 E.2.2.2.1 M1) H1 ∧ (∀ w ∈ v, fm_ok w) ∧ fm_okM M1) (va_runSN (As := fm_cs E.2.2.2.1 as) (rest := fm_cs E.2.2.2.1 rest) (n := as.length) ⟨hx, hb, hml, hown, hts⟩ (K H.size) ⟨va_cnB as.length hts hG rfl rfl rfl hlink (hts _ O'.2.2.1) ⟨hn.1.1, hn.1.2, hn.2⟩ hroom, hts _ hsw, trivial⟩ ⟨fm_pre_blind, fun U hU hW => ⟨rfl, hpre U hU hW⟩⟩ rfl (by simp [fm_cs]) hl.1 rfl (lv_room (by rw [fm_wd_cat]; exact hrest)) hd ⟨by omega, by omega⟩) (fun st w t h => fm_Ctv h) hS (fun q _ h => fm_Aw_sub hA hS.1 q h) (fun q h => fm_Aw_sub hA hS.1 q h) ?_
  intro H1 locs1 hPP hS1
  have kk := k p e R s m args below meth c A (cells + n1) (slots + 6 * n1) X0 hr hA h1 h2 (by omega) (by omega) H1 locs1 ls hPP.1 hS1 hl ⟨hv.1, fun w hw => ?_, hPP.2.2⟩
  · rw [show cells + n1 + n = cells + (n1 + n) by omega, show slots + 6 * n1 + 6 * n = slots + 6 * (n1 + n) by omega] at kk
    rw [fm_vm]
    exact kk
  · rcases List.mem_append.mp hw with h | h
    · exact hPP.2.1 w (Option.mem_toList.mp h)
    · exact hv.2.1 w (List.mem_append_right _ h)
end Calls
