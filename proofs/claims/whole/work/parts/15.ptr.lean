/-! the references of the graph: all of them final but Checker.functions (a) and Machine.functions (b) -/
def fm_Pm (s : Nat) : Nat × Nat := ([(25, 0), (26, 0), (27, 0), (28, 0), (29, 0), (30, 0), (31, 0), (32, 0), (33, 0), (34, 0), (35, 0), (36, 0), (37, 0), (38, 0), (39, 0), (0, 0), (0, 0), (0, 0), (0, 0), (0, 0), (40, 0), (41, 0), (42, 0), (43, 0), (44, 0), (45, 0), (46, 0), (47, 0)] : List (Nat × Nat)).getD s (0, 0)
def fm_P (a b : Nat × Nat) : Nat → Nat → Nat → Nat × Nat := fun k i s =>
  cond (Nat.blt k 6) (cond (Nat.beq k 0) (cond (Nat.beq s 0) (1, 0) (cond (Nat.beq s 1) (13, 0) (18, 0))) (cond (Nat.beq k 1) (2, s) (cond (Nat.beq k 2) (cond (Nat.beq s 5) (3, i) (cond (Nat.beq s 6) (4, i) (cond (Nat.beq s 7) (5, i) (6, i)))) (0, 0))))
  (cond (Nat.beq k 6) (cond (Nat.beq s 1) (7, i) (cond (Nat.beq s 2) (8, i) (cond (Nat.beq s 3) (9, i) (cond (Nat.beq s 4) (10, i) (cond (Nat.beq s 5) (11, i) (12, i))))))
  (cond (Nat.beq k 13) (cond (Nat.beq s 0) (cond (Nat.beq i 0) a (0, 0)) (cond (Nat.beq s 3) (15, 0) (16, 0)))
  (cond (Nat.beq k 16) (17, s)
  (cond (Nat.beq k 18) (cond (Nat.beq s 2) (cond (Nat.beq i 0) b (0, 0)) (cond (Nat.beq s 3) (20, 0) (cond (Nat.beq s 4) (21, 0) (cond (Nat.beq s 7) (22, 0) (23, 0)))))
  (cond (Nat.beq k 24) (fm_Pm s) (0, 0))))))
abbrev fm_MI : Type := Nat → Nat → Nat → Int32
abbrev fm_MJ : Type := Nat → Nat → Nat → Int64
abbrev fm_MG : Type := Nat → Nat → Nat → UInt64
theorem fm_gRe {E : fm_Ev} {d : Nat} {u : fm_Me} (O : fm_mo u) {pc : Nat} {lo : List (Nat × fm_V)} {st : List fm_V} {M M0 : fm_M} {P : Prop} {v v0 : Option fm_V} (h : fm_rt? u (pc, lo, st, M) = some (P, v)) (hg : P) (hv : v0 = v) (hM : M0 = M) : fm_Go E d u 0 (pc, lo, st, M) (fm_Zr E v0 M0) := by
  rw [hv, hM]
  exact fm_gR O h hg
def fm_let {α : Type} {β : Sort _} (x : α) (f : α → β) : β := f x
theorem fm_letE {α β : Type} (x : α) (f : α → β) : fm_let x f = f x := rfl
theorem fm_letP {α : Type} {x : α} {f : α → Prop} (h : fm_let x f) : f x := h
