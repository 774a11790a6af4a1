/-! Which attributes may stand where, both sides. -/
set_option maxRecDepth 100000
set_option linter.unusedVariables false
/-- an attribute with the letter l and a value of m letters, c and d the first ones, of an element of the kind k -/
def zmy (k l c d : Int32) (m : Nat) : Bool :=
  if k = 112 ∨ k = 120 then decide (l = 121) && (decide (m = 1) && zcl c)
  else if k = 115 then
    if l = 110 ∨ l = 102 then decide (m = 1) && zcl c
    else if l = 98 then decide (m = 1) && (decide (c = 48) || decide (c = 49))
    else if l = 122 then zdg c && (decide (c ≠ 48) && (decide (m = 1) || (decide (m = 2) && zdg d)))
    else if l = 107 then decide (m = 1) && zdg c
    else false
  else false
theorem zrb_b {b : Bool} {s : zS} : zrb (if b = true then 1 else 0) s = some (if b = true then 1 else 0, s) := by cases b <;> rfl
theorem zb01 {b : Bool} {s : zS} : (if (if b = true then (1 : Int32) else 0) = 0 then zrb 0 s else zrb 1 s) = some (if b = true then 1 else 0, s) := by cases b <;> rfl
theorem zrb0 {s : zS} : zrb 0 s = some (0, s) := rfl
theorem zrb1 {s : zS} : zrb 1 s = some (1, s) := rfl
theorem z56_136 {a m : Nat} {c : Int32} {s : zS} (hm : m < 5000) : zf56_136 a (nI m) c s = some (if (decide (m = 1) && zcl c) = true then 1 else 0, s) := by
  unfold zf56_136
  by_cases g : m = 1
  · rw [if_neg (fun q => q ((zn_eqL (k := 1) (by omega) (by decide)).mpr g)), z49, zbi_e, zb01]
    simp [g]
  · rw [if_pos (fun q => g ((zn_eqL (k := 1) (by omega) (by decide)).mp q)), zrb0]
    simp [g]
theorem z56_51 {a m : Nat} {l c : Int32} {s : zS} (hm : m < 5000) : zf56_51 a l (nI m) c s = some (if (decide (l = 121) && (decide (m = 1) && zcl c)) = true then 1 else 0, s) := by
  unfold zf56_51
  by_cases g0 : l = 121
  · rw [if_neg (fun q => q g0)]
    have := z56_136 (a := a) (m := m) (c := c) (s := s) hm
    unfold zf56_136 at this
    rw [this]
    simp [g0]
  · rw [if_pos g0, zrb0]
    simp [g0]
theorem z56_37 {a r j f m : Nat} {k l c : Int32} {s : zS} {C : List Int32} (hB : zB a r) (hC : zRow r s C) (hj : j < 60) (h6 : s (a + 6) j = nI f) (hf : f < 1000) (hm : m < 5000) (hk : k = 112 ∨ k = 120 ∨ k ≠ 112) : zf56_37 a k (nI j) l (nI m) c s = some (if zmy k l c (C.getD (f + 4) (-1)) m = true then 1 else 0, s) := by
  obtain ⟨b0, b1, b2, b3, b4, b5, b6, b7, b8, b9⟩ := zB_e hB
  obtain ⟨c1, c2, c3, c4, c5, c6, c7, c8, c9, c10⟩ := zB_c hB
  have e57 : zf57 a (nI j) 1 s = some (C.getD (f + 4) (-1), s) := by
    unfold zf57
    rw [b6, zal_n (by omega), h6, zn_lit 3, zn_add, zn_a1, b0, z18 hC (by omega), zbi_e]
  have em : ∀ {R : Type} {A B : R}, (if ¬ nI m = 1 then A else B) = if m = 1 then B else A := by
    intro R A B
    by_cases g : m = 1
    · rw [if_neg (fun q => q ((zn_eqL (k := 1) (by omega) (by decide)).mpr g)), if_pos g]
    · rw [if_pos (fun q => g ((zn_eqL (k := 1) (by omega) (by decide)).mp q)), if_neg g]
  have em1 : ∀ {R : Type} {A B : R}, (if nI m = 1 then A else B) = if m = 1 then A else B := by
    intro R A B
    by_cases g : m = 1
    · rw [if_pos ((zn_eqL (k := 1) (by omega) (by decide)).mpr g), if_pos g]
    · rw [if_neg (fun q => g ((zn_eqL (k := 1) (by omega) (by decide)).mp q)), if_neg g]
  have em2 : ∀ {R : Type} {A B : R}, (if ¬ nI m = 2 then A else B) = if m = 2 then B else A := by
    intro R A B
    by_cases g : m = 2
    · rw [if_neg (fun q => q ((zn_eqL (k := 2) (by omega) (by decide)).mpr g)), if_pos g]
    · rw [if_pos (fun q => g ((zn_eqL (k := 2) (by omega) (by decide)).mp q)), if_neg g]
  unfold zf56_37 zmy
  rw [z56_51 hm, z56_136 hm]
  simp only [z29, zbi_e, e57]
  rw [em, em, em1, em2]
  by_cases g1 : k = 112
  · subst g1
    simp
  by_cases g2 : k = 120
  · subst g2
    simp
  by_cases g3 : k = 115
  rotate_left
  · simp [g1, g2, g3, zrb0]
  subst g3
  by_cases l1 : l = 98
  · subst l1
    by_cases q1 : m = 1
    · by_cases q2 : c = 48
      · simp [q1, q2, zrb1]
      · by_cases q3 : c = 49
        · simp [q1, q3, zrb1]
        · simp [q1, q2, q3, zrb0]
    · simp [q1, zrb0]
  by_cases l2 : l = 102
  · subst l2
    simp
  by_cases l3 : l = 107
  · subst l3
    by_cases q1 : m = 1
    · cases q0 : zdg c <;> simp [q1, q0, zrb0, zrb1]
    · simp [q1, zrb0]
  by_cases l4 : l = 110
  · subst l4
    simp
  by_cases l5 : l = 122
  · subst l5
    by_cases q1 : c = 48
    · cases q0 : zdg c <;> simp [q0, q1, zrb0]
    · by_cases q2 : m = 1
      · cases q0 : zdg c <;> simp [q0, q1, q2, zrb0, zrb1]
      · by_cases q3 : m = 2
        · cases q0 : zdg c <;> cases q4 : zdg (C.getD (f + 4) (-1)) <;> simp [q0, q1, q3, q4, zrb0, zrb1]
        · cases q0 : zdg c <;> simp [q0, q1, q2, q3, zrb0]
  simp [l1, l2, l3, l4, l5, zrb0]
