/-! A NEW EXCEPTION IS THROWN (the words by program: wip/tools/gen_throw.py) -/
def fm_nms : List String := ["java/lang/RuntimeException", "java/lang/Exception"]
def fm_bad (cl : String) : List Cond := [.laysStatic fm_tN "UNASSIGNED_STACK" fm_sD, .laysStatic fm_tN "SUPPRESSED_SENTINEL" fm_lD, .declares ⟨"java/lang/RuntimeException", "<init>", "()V"⟩, .declares ⟨"java/lang/Exception", "<init>", "()V"⟩, .declares ⟨"java/lang/Throwable", "<init>", "()V"⟩, .castable cl cl, .isRef (.static fm_tN "UNASSIGNED_STACK" fm_sD), .isRef (.static fm_tN "SUPPRESSED_SENTINEL" fm_lD)]
/-- the words of 'throw new cl()' at pool entries ik, ic of class oc -/
def fm_at (oc ik ic : Nat) (cl : String) : Prop := (∀ w ∈ (Bundle.ownAtoms0 (fm_cn oc) ic cl fm_nms).filter goodWord, w ∈ fm_TB) ∧ (Bundle.ownAtoms0 (fm_cn oc) ic cl fm_nms).filter (fun w => !goodWord w) = fm_bad cl ∧
  Cond.classLink (fm_cn oc) ik cl ∈ fm_TB ∧ Cond.instantiable cl 6 ∈ fm_TB ∧ Cond.initialized cl ∈ fm_TB ∧ Bundle.fit cl = true ∧ (cl = "java/lang/IllegalArgumentException" ∨ cl = "java/lang/IllegalStateException" ∨ cl = "java/lang/ArithmeticException" ∨ cl = "java/lang/UnsupportedOperationException")

theorem fm_atFI : fm_at 0 34 36 "java/lang/IllegalArgumentException" := ⟨fm_in _ [8, 378, 387, 392, 395, 397, 379, 380, 23, 24, 381, 386, 393, 409, 368, 410, 370, 411, 372, 382, 384, 374, 399, 400, 401, 402, 402, 403, 404, 405, 405, 406, 407, 379, 398, 357, 365, 366, 367, 369, 371, 373, 377, 376, 375] (by decide +kernel) (by decide +kernel), by decide +kernel, fm_tb (List.mem_of_getElem? (i := 356) (by decide +kernel)) rfl, fm_tb (List.mem_of_getElem? (i := 357) (by decide +kernel)) rfl, fm_tb (List.mem_of_getElem? (i := 11) (by decide +kernel)) rfl, by decide +kernel, by decide +kernel⟩
theorem fm_atFS : fm_at 0 53 55 "java/lang/IllegalStateException" := ⟨fm_in _ [8, 378, 387, 392, 395, 397, 379, 380, 23, 24, 381, 386, 393, 409, 368, 410, 370, 411, 372, 382, 384, 374, 446, 447, 448, 402, 402, 403, 404, 405, 405, 406, 407, 379, 445, 437, 439, 390, 440, 441, 442, 443, 377, 376, 444] (by decide +kernel) (by decide +kernel), by decide +kernel, fm_tb (List.mem_of_getElem? (i := 436) (by decide +kernel)) rfl, fm_tb (List.mem_of_getElem? (i := 437) (by decide +kernel)) rfl, fm_tb (List.mem_of_getElem? (i := 12) (by decide +kernel)) rfl, by decide +kernel, by decide +kernel⟩
theorem fm_atAA : fm_at 7 19 21 "java/lang/ArithmeticException" := ⟨fm_in _ [8, 378, 387, 392, 395, 397, 379, 380, 23, 24, 381, 386, 393, 409, 368, 410, 370, 411, 372, 382, 384, 374, 538, 539, 540, 402, 402, 403, 404, 405, 405, 406, 407, 379, 537, 529, 531, 389, 532, 533, 534, 535, 377, 376, 536] (by decide +kernel) (by decide +kernel), by decide +kernel, fm_tb (List.mem_of_getElem? (i := 528) (by decide +kernel)) rfl, fm_tb (List.mem_of_getElem? (i := 529) (by decide +kernel)) rfl, fm_tb (List.mem_of_getElem? (i := 15) (by decide +kernel)) rfl, by decide +kernel, by decide +kernel⟩
theorem fm_atMS : fm_at 5 64 66 "java/lang/IllegalStateException" := ⟨fm_in _ [8, 378, 387, 392, 395, 397, 379, 380, 23, 24, 381, 386, 393, 409, 368, 410, 370, 411, 372, 382, 384, 374, 446, 447, 448, 402, 402, 403, 404, 405, 405, 406, 407, 379, 581, 437, 439, 390, 440, 441, 442, 443, 377, 376, 444] (by decide +kernel) (by decide +kernel), by decide +kernel, fm_tb (List.mem_of_getElem? (i := 580) (by decide +kernel)) rfl, fm_tb (List.mem_of_getElem? (i := 437) (by decide +kernel)) rfl, fm_tb (List.mem_of_getElem? (i := 12) (by decide +kernel)) rfl, by decide +kernel, by decide +kernel⟩
theorem fm_atMU : fm_at 5 157 159 "java/lang/UnsupportedOperationException" := ⟨fm_in _ [8, 378, 387, 392, 395, 397, 379, 380, 23, 24, 381, 386, 393, 409, 368, 410, 370, 411, 372, 382, 384, 374, 592, 593, 594, 402, 402, 403, 404, 405, 405, 406, 407, 379, 591, 583, 585, 391, 586, 587, 588, 589, 377, 376, 590] (by decide +kernel) (by decide +kernel), by decide +kernel, fm_tb (List.mem_of_getElem? (i := 582) (by decide +kernel)) rfl, fm_tb (List.mem_of_getElem? (i := 583) (by decide +kernel)) rfl, fm_tb (List.mem_of_getElem? (i := 16) (by decide +kernel)) rfl, by decide +kernel, by decide +kernel⟩
/-- the state at the method's entry, with the heap as it is now -/
abbrev fm_s' (s T : State) : State := { s with heap := T.heap, slotsUsed := T.slotsUsed }
theorem fm_rebase {l : Launch} {p : Program} {e : Env} {R R' : Room} {s : State} {m : MethodId} {args : Array Value} {below : List Frame} {meth : Method} {c : Code} {T : State} {locs : List Loc} {cells slots : Nat} (X : Stand p l e R s m args below meth c T locs cells slots)
    (hf : R'.frames ≤ R.frames) (hl : R'.locals ≤ R.locals) (hc : cells + R'.cells ≤ R.cells) (hs : slots + R'.slots ≤ R.slots) : Stand p l e R' (fm_s' s T) m args below meth c T [] 0 0 := by
  have hroom := X.room
  have hbook := X.book
  have hh := X.heapSize
  have hu := X.used
  refine ⟨X.admits, X.cas, X.clock, X.frames, ?_, X.hears, X.method, X.code, X.here, X.tail, X.warmed, X.limits, X.bytes, ?_⟩
  · simp only [State.hasRoom, Bool.and_eq_true, decide_eq_true_eq] at hroom ⊢
    obtain ⟨⟨⟨⟨r1, r2, r3, r4, r5, r6⟩, r7⟩, r8⟩, r9⟩ := hroom
    have f1 : (fm_s' s T).localsInUse = s.localsInUse := rfl
    have f2 : (fm_s' s T).frames = s.frames := rfl
    have f3 : (fm_s' s T).me = s.me := rfl
    rw [f1, f2, f3]
    refine ⟨⟨⟨⟨?_, ?_, ?_, ?_, ?_, r6⟩, ?_⟩, ?_⟩, hbook⟩
    · omega
    · omega
    · omega
    · omega
    · omega
    · show T.heap.size + R'.cells ≤ _
      omega
    · show T.slotsUsed + R'.slots ≤ _
      omega
  · refine ⟨?_, Nat.le_refl _, Nat.le_refl _, ?_, ?_, fun a c hc => ⟨c, hc, rfl, rfl, fun _ _ => rfl⟩⟩
    · exact X.same.1
    · show T.slotsUsed = T.slotsUsed + _
      rw [show (T.setVm s.vm).heap.toList.drop (fm_s' s T).heap.size = [] from List.drop_eq_nil_of_le (by show T.heap.toList.length ≤ T.heap.size; simp)]
      rfl
    · rw [show (T.setVm (fm_s' s T).vm).heap.toList.drop (fm_s' s T).heap.size = [] from List.drop_eq_nil_of_le (by show T.heap.toList.length ≤ T.heap.size; simp)]
      exact Nat.le_refl _

