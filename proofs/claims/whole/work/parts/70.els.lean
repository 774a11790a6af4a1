/-! read, the elements: what they are, of a content C. -/
set_option maxRecDepth 100000
set_option linter.unusedVariables false
/-- kind, where it begins, the one around it (-1: none), its attributes (the letter's place, the value's size) -/
abbrev zE : Type := Int32 × Nat × Int32 × List (Nat × Nat)
def zsm (c : Int32) : Bool := decide (97 ≤ c) && decide (c ≤ 122)
def zcl (c : Int32) : Bool := decide (65 ≤ c) && decide (c ≤ 90)
def zpn (c : Int32) : Bool := zcl c || (zsm c || zdg c)
/-- how many letters of values stand from i on -/
def zrun (C : List Int32) : Nat → Nat → Nat
  | 0, _ => 0
  | m + 1, i => if zpn (C.getD i (-1)) = true then zrun C m (i + 1) + 1 else 0
/-- an attribute from a on, behind others with the letters ls: where it is none, or its value's size -/
def zat1 (C : List Int32) (ls : List Int32) (a : Nat) : Nat ⊕ Nat :=
  if zsm (C.getD (a + 1) (-1)) = true ∧ C.getD (a + 1) (-1) ∉ ls then
    if C.getD (a + 2) (-1) = 61 then
      if C.getD (a + 3) (-1) = 34 then
        if C.getD (a + 4 + zrun C 300 (a + 4)) (-1) = 34 then .inr (zrun C 300 (a + 4)) else .inl (a + 4 + zrun C 300 (a + 4))
      else .inl (a + 3)
    else .inl (a + 2)
  else .inl (a + 1)
def zats (C : List Int32) : Nat → Nat → List (Nat × Nat) → Nat ⊕ (Nat × List (Nat × Nat))
  | 0, a, A => .inr (a, A)
  | n + 1, a, A => if C.getD a (-1) = 32 then
      match zat1 C (A.map fun q => C.getD q.1 (-1)) a with
      | .inl p => .inl p
      | .inr m => zats C n (a + 4 + m + 1) (A ++ [(a + 1, m)])
    else .inr (a, A)
/-- a beginning: where it is none, or whether it is an end too, what comes behind it, its attributes -/
def zbeg (C : List Int32) (cnt dep a : Nat) : Nat ⊕ (Bool × Nat × List (Nat × Nat)) :=
  if cnt = 30 ∨ dep = 8 then .inl a
  else if zsm (C.getD (a + 1) (-1)) = true then
    match zats C 60 (a + 2) [] with
    | .inl p => .inl p
    | .inr (b, A) => if C.getD b (-1) = 47 then (if C.getD (b + 1) (-1) = 62 then .inr (true, b + 2, A) else .inl (b + 1)) else (if C.getD b (-1) = 62 then .inr (false, b + 1, A) else .inl b)
  else .inl (a + 1)
def zkd (E : List zE) (e : Nat) : Int32 := (E.getD e (0, 0, 0, [])).1
/-- the elements from a on: E are there, st are open, O: whose letter stands where -/
def zpar (C : List Int32) : Nat → Nat → List zE → List Nat → List (Nat × Nat) → Nat ⊕ (List zE × List (Nat × Nat))
  | 0, a, _, _, _ => .inl a
  | n + 1, a, E, [], O =>
    if E = [] then
      if C.getD a (-1) = 60 then
        match zbeg C 0 0 a with
        | .inl p => .inl p
        | .inr (cl, b, A) => zpar C n b [(C.getD (a + 1) (-1), a, -1, A)] (if cl = true then [] else [0]) O
      else .inl a
    else if a = C.length then .inr (E, O) else .inl a
  | n + 1, a, E, e :: st, O =>
    if C.getD a (-1) = 60 then
      if C.getD (a + 1) (-1) = 47 then
        if C.getD (a + 2) (-1) = zkd E e then
          if C.getD (a + 3) (-1) = 62 then zpar C n (a + 4) E st O else .inl (a + 3)
        else .inl (a + 2)
      else
        match zbeg C E.length (st.length + 1) a with
        | .inl p => .inl p
        | .inr (cl, b, A) => zpar C n b (E ++ [(C.getD (a + 1) (-1), a, nI e, A)]) (if cl = true then e :: st else E.length :: e :: st) O
    else if C.getD a (-1) = -1 ∨ C.getD a (-1) = 62 ∨ C.getD a (-1) = 38 ∨ C.getD a (-1) = 126 then .inl a
    else zpar C n (a + 1) E (e :: st) (O ++ [(a, e)])
theorem zb_rng {x lo hi : Int32} {s : zS} : (if x < lo then zrb 0 s else if hi < x then zrb 0 s else zrb 1 s) = some (if (decide (lo ≤ x) && decide (x ≤ hi)) = true then 1 else 0, s) := by
  by_cases h1 : x < lo
  · rw [if_pos h1]
    have e : ¬ lo ≤ x := Int32.not_le.mpr h1
    simp [e]
    rfl
  · rw [if_neg h1]
    have e : lo ≤ x := Int32.not_lt.mp h1
    by_cases h2 : hi < x
    · rw [if_pos h2]
      have e2 : ¬ x ≤ hi := Int32.not_le.mpr h2
      simp [e2]
      rfl
    · rw [if_neg h2]
      have e2 : x ≤ hi := Int32.not_lt.mp h2
      simp [e, e2]
      rfl
theorem z43 {x : Int32} {s : zS} : zf43 x s = some (if zsm x = true then 1 else 0, s) := zb_rng
theorem z169 {x : Int32} {s : zS} : zf169 x s = some (if zsm x = true then 1 else 0, s) := zb_rng
theorem z49 {x : Int32} {s : zS} : zf49 x s = some (if zcl x = true then 1 else 0, s) := zb_rng
theorem z172 {x : Int32} {s : zS} : zf172 x s = some (if zcl x = true then 1 else 0, s) := zb_rng
theorem z48 {x : Int32} {s : zS} : zf48 x s = some (if zpn x = true then 1 else 0, s) := by
  unfold zf48 zpn
  rw [z49]
  simp only [zbi]
  rw [zb_if, z43]
  simp only
  rw [zb_if, z29]
  simp only
  rw [zb_if0]
  cases zcl x <;> cases zsm x <;> cases zdg x <;> rfl
theorem z171 {x : Int32} {s : zS} : zf171 x s = some (if zpn x = true then 1 else 0, s) := by
  unfold zf171 zpn
  rw [z156]
  simp only [zbi]
  rw [zb_if, z172]
  simp only
  rw [zb_if, z169]
  simp only
  rw [zb_if0]
  cases zcl x <;> cases zsm x <;> cases zdg x <;> rfl
/-! The class's elements. -/
def zB (a r : Nat) : Prop := (a = 43 ∧ r = 38) ∨ (a = 52 ∧ r = 41)
theorem zB_e {a r : Nat} (h : zB a r) : zrf a 0 = r ∧ zrf a 1 = a + 1 ∧ zrf a 2 = a + 2 ∧ zrf a 3 = a + 3 ∧ zrf a 4 = a + 4 ∧ zrf a 5 = a + 5 ∧ zrf a 7 = a + 6 ∧ zrf a 8 = a + 7 ∧ zrf a 10 = a + 8 ∧ zrf r 0 = r + 1 := by
  rcases h with ⟨rfl, rfl⟩ | ⟨rfl, rfl⟩ <;> decide
theorem zB_c {a r : Nat} (h : zB a r) : zca (a + 1) = 30 ∧ zca (a + 2) = 30 ∧ zca (a + 3) = 30 ∧ zca (a + 4) = 30 ∧ zca (a + 5) = 30 ∧ zca (a + 6) = 60 ∧ zca (a + 7) = 60 ∧ zca (a + 8) = 300 ∧ zca (r + 1) = 300 ∧ r + 1 < a := by
  rcases h with ⟨rfl, rfl⟩ | ⟨rfl, rfl⟩ <;> decide
/-- how many attributes the first e elements have -/
def zfa (E : List zE) (e : Nat) : Nat := ((E.take e).map fun q => q.2.2.2.length).sum
theorem zfa_app {E : List zE} {q : zE} {e : Nat} (h : e ≤ E.length) : zfa (E ++ [q]) e = zfa E e := by
  unfold zfa
  rw [List.take_append_of_le_length h]
theorem zfa_last {E : List zE} {q : zE} : zfa (E ++ [q]) (E.length + 1) = zfa E E.length + q.2.2.2.length := by
  unfold zfa
  rw [List.take_of_length_le (by rw [List.length_append, List.length_singleton]; omega), List.take_of_length_le (Nat.le_refl _), List.map_append, List.sum_append]
  simp
/-- an element, as the class keeps it -/
def zEl1 (a : Nat) (s : zS) (e f : Nat) (q : zE) : Prop := s (a + 1) e = q.1 ∧ s (a + 2) e = nI q.2.1 ∧ s (a + 3) e = q.2.2.1 ∧ s (a + 4) e = nI f ∧ s (a + 5) e = nI (f + q.2.2.2.length) ∧ ∀ k, k < q.2.2.2.length → s (a + 6) (f + k) = nI (q.2.2.2.getD k (0, 0)).1 ∧ s (a + 7) (f + k) = nI (q.2.2.2.getD k (0, 0)).2
def zEl (a : Nat) (s : zS) (E : List zE) : Prop := s a 6 = nI E.length ∧ s a 9 = nI (zfa E E.length) ∧ ∀ e, e < E.length → zEl1 a s e (zfa E e) (E.getD e (0, 0, 0, []))
theorem zs47 {a r p : Nat} {x : Int32} {s : zS} {C : List Int32} (hB : zB a r) (hC : zRow r s C) (hp : s a 11 = nI p) (hp2 : p < 5000) : zf47 a x s = if C.getD p (-1) = x then some (1, zw s a 11 (nI (p + 1))) else some (0, s) := by
  obtain ⟨b0, b1, b2, b3, b4, b5, b6, b7, b8, b9⟩ := zB_e hB
  unfold zf47
  simp only [zgf, hp]
  rw [b0, z18 hC (by omega)]
  simp only [zbi]
  by_cases g : C.getD p (-1) = x
  · rw [if_pos g, if_pos g, hp]
    simp only [zpf]
    rw [zn_a1]
    rfl
  · rw [if_neg g, if_neg g]
    rfl
