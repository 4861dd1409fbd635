/-! PURE VALUES, PURE MEMORY: what the machine does with the fixed graph of cells, said without heap and frames -/
/-- int, long, float, double, a reference (kind, number) -/
abbrev fm_V : Type := Int32 ⊕ Int64 ⊕ UInt32 ⊕ UInt64 ⊕ (Nat × Nat)
abbrev fm_A : Type := Nat → Nat → Nat
/-- ints, longs, doubles, references: by kind, number, slot -/
abbrev fm_M : Type := (Nat → Nat → Nat → Int32) × (Nat → Nat → Nat → Int64) × (Nat → Nat → Nat → UInt64) × (Nat → Nat → Nat → Nat × Nat)
/-- pc, locals, stack, memory -/
abbrev fm_C : Type := Nat × List (Nat × fm_V) × List fm_V × fm_M
def fm_cv (ad : fm_A) : fm_V → Value
  | .inl x => .int x
  | .inr (.inl x) => .long x
  | .inr (.inr (.inl x)) => .float x
  | .inr (.inr (.inr (.inl x))) => .double x
  | .inr (.inr (.inr (.inr q))) => .ref (ad q.1 q.2)
def fm_c2 : fm_V → Bool
  | .inr (.inl _) => true
  | .inr (.inr (.inr (.inl _))) => true
  | _ => false
def fm_u {α : Type} (f : Nat → Nat → Nat → α) (k i s : Nat) (x : α) : Nat → Nat → Nat → α := fun k' i' s' => cond (Nat.beq k' k && (Nat.beq s' s && Nat.beq i' i)) x (f k' i' s')
theorem fm_u_if {α : Type} (f : Nat → Nat → Nat → α) (k i s : Nat) (x : α) (k' i' s' : Nat) : fm_u f k i s x k' i' s' = if k' = k ∧ i' = i ∧ s' = s then x else f k' i' s' := by
  unfold fm_u
  by_cases h1 : k' = k
  · by_cases h2 : i' = i
    · by_cases h3 : s' = s
      · subst h1; subst h2; subst h3
        simp
      · have e : Nat.beq s' s = false := by rw [← Bool.not_eq_true]; exact fun z => h3 (Nat.eq_of_beq_eq_true z)
        simp [e, h3]
    · have e : Nat.beq i' i = false := by rw [← Bool.not_eq_true]; exact fun z => h2 (Nat.eq_of_beq_eq_true z)
      simp [e, h2]
  · have e : Nat.beq k' k = false := by rw [← Bool.not_eq_true]; exact fun z => h1 (Nat.eq_of_beq_eq_true z)
    simp [e, h1]
def fm_lk : List (Nat × fm_V) → Nat → Option fm_V
  | [], _ => none
  | (k, v) :: r, n => cond (Nat.beq k n) (some v) (fm_lk r n)
def fm_set1 (l : List (Nat × fm_V)) (n : Nat) (v : fm_V) : List (Nat × fm_V) := (n, v) :: l.filter (fun q => !(q.1 == n) && !(q.1 + 1 == n && fm_c2 q.2))
def fm_set2 (l : List (Nat × fm_V)) (n : Nat) (v : fm_V) : List (Nat × fm_V) := (n, v) :: l.filter (fun q => !(q.1 == n) && (!(q.1 == n + 1) && !(q.1 + 1 == n && fm_c2 q.2)))
theorem fm_cat (ad : fm_A) (v : fm_V) : ((fm_cv ad v).category == 2) = fm_c2 v := by
  rcases v with x | x | x | x | x <;> rfl
theorem fm_lk_mem {l : List (Nat × fm_V)} {n : Nat} {v : fm_V} (h : fm_lk l n = some v) : (n, v) ∈ l := by
  induction l with
  | nil => simp [fm_lk] at h
  | cons q r ih =>
    obtain ⟨k, w⟩ := q
    unfold fm_lk at h
    cases hb : Nat.beq k n with
    | true =>
      rw [hb] at h
      simp only [cond_true, Option.some.injEq] at h
      rw [Nat.eq_of_beq_eq_true hb, h]
      exact List.mem_cons_self
    | false =>
      rw [hb] at h
      exact List.mem_cons_of_mem _ (ih h)
abbrev fm_cl (ad : fm_A) (l : List (Nat × fm_V)) : List (Nat × Value) := l.map (fun q => (q.1, fm_cv ad q.2))
abbrev fm_cs (ad : fm_A) (st : List fm_V) : List Value := st.map (fm_cv ad)
theorem fm_set1_cl (ad : fm_A) (l : List (Nat × fm_V)) (n : Nat) (v : fm_V) : (n, fm_cv ad v) :: (fm_cl ad l).filter (fun q => !(q.1 == n) && !(q.1 + 1 == n && q.2.category == 2)) = fm_cl ad (fm_set1 l n v) := by
  simp only [fm_set1, fm_cl, List.map_cons, List.filter_map]
  congr 2
  apply List.filter_congr
  intro q _
  simp only [Function.comp, fm_cat]
theorem fm_set2_cl (ad : fm_A) (l : List (Nat × fm_V)) (n : Nat) (v : fm_V) : (n, fm_cv ad v) :: (fm_cl ad l).filter (fun q => !(q.1 == n) && (!(q.1 == n + 1) && !(q.1 + 1 == n && q.2.category == 2))) = fm_cl ad (fm_set2 l n v) := by
  simp only [fm_set2, fm_cl, List.map_cons, List.filter_map]
  congr 2
  apply List.filter_congr
  intro q _
  simp only [Function.comp, fm_cat]
theorem fm_lk_at {ls : Array Slot} {nL : Nat} {ad : fm_A} {l : List (Nat × fm_V)} {n : Nat} {v : fm_V} (h : lv_has ls nL (fm_cl ad l)) (hk : fm_lk l n = some v) : ls[n]? = some (.val (fm_cv ad v)) :=
  h.2.2 (n, fm_cv ad v) (List.mem_map.mpr ⟨(n, v), fm_lk_mem hk, rfl⟩)
/-- how many bytes an instruction has (a switch apart) -/
def fm_ln : Instr → Nat
  | .iload _ | .lload _ | .fload _ | .dload _ | .aload _ | .istore _ | .lstore _ | .fstore _ | .dstore _ | .astore _ | .ldc _ | .bipush _ | .newarray _ => 2
  | .sipush _ | .ldc2_w _ | .goto _ | .ifCond _ _ | .if_icmp _ _ | .iinc _ _ | .getfield _ | .putfield _ | .invokevirtual _ | .invokespecial _ | .invokestatic _ | .new _ | .anewarray _ => 3
  | _ => 1
