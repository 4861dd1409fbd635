/-! tables that end -/
def fm_cut {α : Type} (N : Nat) (f : Nat → Option α) : Nat → Option α := fun k => cond (Nat.blt k N) (f k) none
theorem fm_cut_lt {α : Type} {N : Nat} {f : Nat → Option α} {k : Nat} {x : α} (h : fm_cut N f k = some x) : k < N ∧ f k = some x := by
  unfold fm_cut at h
  cases hb : Nat.blt k N with
  | false => rw [hb] at h; cases h
  | true => rw [hb] at h; exact ⟨Nat.le_of_ble_eq_true hb, h⟩
def fm_dck (cc : ByteArray) (f : Nat → Option Instr) (pc : Nat) : Bool := match f pc with
  | none => true
  | some i => match decode cc pc with
    | .ok q => decide (q.1 = i) && (fm_isw i || Nat.beq q.2 (fm_ln i))
    | .error _ => false
theorem fm_dc_of {cc : ByteArray} {N : Nat} {f : Nat → Option Instr} (h : (List.range N).all (fm_dck cc f) = true) : fm_dc cc (fm_cut N f) := by
  intro pc i hi
  obtain ⟨hN, hf⟩ := fm_cut_lt hi
  have h1 := List.all_eq_true.mp h pc (List.mem_range.mpr hN)
  unfold fm_dck at h1
  rw [hf] at h1
  simp only at h1
  split at h1
  · next q hq =>
    simp only [Bool.and_eq_true, decide_eq_true_eq, Bool.or_eq_true] at h1
    refine ⟨q.2, by rw [hq, ← h1.1], fun hw => ?_⟩
    rcases h1.2 with z | z
    · rw [hw] at z; cases z
    · exact Nat.eq_of_beq_eq_true z
  · cases h1
theorem fm_flo_of {oc N : Nat} {f : Nat → Option (Nat × Nat)} {L : List (Nat × Nat × Nat)} (h : (List.range N).all (fun ix => match f ix with
    | none => true
    | some q => decide (q.1 < 7) && (decide (q.2 < fm_nf q.1) && decide ((ix, q.1, q.2) ∈ L))) = true)
    (hL : ∀ w ∈ L.map (fun q => Cond.fieldLink (fm_cn oc) q.1 (fm_cls.getD q.2.1 ("", fm_T0, 0)).1 ((fm_cls.getD q.2.1 ("", fm_T0, 0)).2.1 q.2.2).2.1 ((fm_cls.getD q.2.1 ("", fm_T0, 0)).2.1 q.2.2).2.2.1), w ∈ fm_TB) : fm_flo oc (fm_cut N f) := by
  intro ix q hq
  obtain ⟨hN, hf⟩ := fm_cut_lt hq
  have h1 := List.all_eq_true.mp h ix (List.mem_range.mpr hN)
  rw [hf] at h1
  simp only [Bool.and_eq_true, decide_eq_true_eq] at h1
  exact ⟨h1.1, h1.2.1, hL _ (List.mem_map.mpr ⟨(ix, q.1, q.2), h1.2.2, rfl⟩)⟩

def fm_f0 : Nat → Option (Nat × Nat) := fm_cut 300 fm_fl0
theorem fm_f0_o : fm_flo 0 fm_f0 := fm_flo_of (L := fm_fll0) (by decide +kernel) fm_flw0
def fm_f1 : Nat → Option (Nat × Nat) := fm_cut 300 fm_fl1
theorem fm_f1_o : fm_flo 1 fm_f1 := fm_flo_of (L := fm_fll1) (by decide +kernel) fm_flw1
def fm_f2 : Nat → Option (Nat × Nat) := fm_cut 300 fm_fl2
theorem fm_f2_o : fm_flo 2 fm_f2 := fm_flo_of (L := fm_fll2) (by decide +kernel) fm_flw2
def fm_f3 : Nat → Option (Nat × Nat) := fm_cut 300 fm_fl3
theorem fm_f3_o : fm_flo 3 fm_f3 := fm_flo_of (L := fm_fll3) (by decide +kernel) fm_flw3
def fm_f4 : Nat → Option (Nat × Nat) := fm_cut 300 fm_fl4
theorem fm_f4_o : fm_flo 4 fm_f4 := fm_flo_of (L := fm_fll4) (by decide +kernel) fm_flw4
def fm_f5 : Nat → Option (Nat × Nat) := fm_cut 300 fm_fl5
theorem fm_f5_o : fm_flo 5 fm_f5 := fm_flo_of (L := fm_fll5) (by decide +kernel) fm_flw5
def fm_f6 : Nat → Option (Nat × Nat) := fm_cut 300 fm_fl6
theorem fm_f6_o : fm_flo 6 fm_f6 := fm_flo_of (L := fm_fll6) (by decide +kernel) fm_flw6
def fm_f7 : Nat → Option (Nat × Nat) := fm_cut 300 fm_fl7
theorem fm_f7_o : fm_flo 7 fm_f7 := fm_flo_of (L := fm_fll7) (by decide +kernel) (fun w h => by cases h)
def fm_f8 : Nat → Option (Nat × Nat) := fm_cut 300 fm_fl8
theorem fm_f8_o : fm_flo 8 fm_f8 := fm_flo_of (L := fm_fll8) (by decide +kernel) (fun w h => by cases h)
def fm_f9 : Nat → Option (Nat × Nat) := fm_cut 300 fm_fl9
theorem fm_f9_o : fm_flo 9 fm_f9 := fm_flo_of (L := fm_fll9) (by decide +kernel) (fun w h => by cases h)
