/-! read, the contents on the class's side: unpack, follow. -/
set_option maxRecDepth 100000
set_option linter.unusedVariables false
/-- the letters that a reference stands for -/
def zcp (back : Nat) : Nat → List Int32 → List Int32
  | 0, C => C
  | m + 1, C => zcp back m (C ++ [C.getD (C.length - back) (-1)])
/-- a reference at a place: how far back, how many; none where it is none -/
def zrfc (T : List Int32) (e at' n : Nat) : Option (Nat × Nat) :=
  if at' + 3 < e ∧ zdg (T.getD (at' + 1) (-1)) = true ∧ zdg (T.getD (at' + 2) (-1)) = true ∧ zdg (T.getD (at' + 3) (-1)) = true ∧ 10 * zdv (T.getD (at' + 1) (-1)) + zdv (T.getD (at' + 2) (-1)) ≠ 0 ∧ 10 * zdv (T.getD (at' + 1) (-1)) + zdv (T.getD (at' + 2) (-1)) ≤ n then some (10 * zdv (T.getD (at' + 1) (-1)) + zdv (T.getD (at' + 2) (-1)), zdv (T.getD (at' + 3) (-1)) + 5) else none
/-- unpacking from a place on: where the data are none, or the content -/
def zup (T : List Int32) (b : Bool) (e : Nat) : Nat → Nat → List Int32 → Nat ⊕ List Int32
  | 0, _, C => .inr C
  | m + 1, at', C =>
    if e ≤ at' then .inr C
    else if b = true ∧ T.getD at' (-1) = 126 then
      match zrfc T e at' C.length with
      | none => .inl at'
      | some (back, t) => if C.length + t ≤ 300 then zup T b e m (at' + 4) (zcp back t C) else .inl at'
    else if C.length + 1 ≤ 300 then zup T b e m (at' + 1) (C ++ [T.getD at' (-1)]) else .inl at'
theorem zcp_len (back : Nat) : ∀ m C, (zcp back m C).length = C.length + m := by
  intro m
  induction m with
  | zero => intro C; rfl
  | succ m ih =>
    intro C
    rw [zcp, ih, List.length_append, List.length_singleton]
    omega
/-- a part of the reader -/
def zA (a : Nat) : Prop := a = 37 ∨ a = 40
theorem zA_e {a : Nat} (h : zA a) : zrf a 1 = a + 1 ∧ zrf (a + 1) 0 = a + 2 ∧ zca (a + 2) = 300 ∧ a ≠ 1 ∧ a ≠ 2 ∧ a + 1 ≠ 1 ∧ a + 1 ≠ 2 ∧ a + 2 ≠ 1 ∧ a + 2 ≠ 2 ∧ 3 ≤ a := by
  rcases h with rfl | rfl <;> decide
/-- put, where there is no room -/
theorem z13_full {r : Nat} {c : Int32} {s : zS} {T : List Int32} (h : zRow r s T) (hl : T.length = zca (zrf r 0)) : zf13 r c s = some (zw s r 2 1) := by
  have h4 := zca_lt (zrf r 0)
  unfold zf13
  simp only [zgf, h.1]
  rw [if_pos ((zn_le (by omega) (by omega)).mpr (by omega))]
  unfold zpb
  rw [if_pos (Or.inr rfl)]
theorem zRow_w {r k f : Nat} {x : Int32} {s : zS} {T : List Int32} (h : zRow r s T) (h1 : r ≠ k ∨ 1 ≠ f) (h2 : zrf r 0 ≠ k) : zRow r (zw s k f x) T := by
  refine ⟨?_, h.2.1, ?_⟩
  · rw [zw_o h1]
    exact h.1
  · rw [zw_ne h2]
    exact h.2.2
theorem z36_l {a : Nat} (hA : zA a) (back : Nat) : ∀ m i n (s : zS) (C : List Int32), m < n → i + m < 100 → zRow (a + 1) s C → 1 ≤ back → back ≤ C.length → ∃ s' C', zf36_101 a 1 n (nI back) (nI (i + m)) (nI i) s = some (1, s') ∧ zRow (a + 1) s' C' ∧ (C.length + m ≤ 300 → C' = zcp back m C ∧ s' (a + 1) 2 = s (a + 1) 2) ∧ (300 < C.length + m → s' (a + 1) 2 = 1) ∧ (s (a + 1) 2 = 1 → s' (a + 1) 2 = 1) ∧ (∀ q, q ≠ a + 1 → q ≠ a + 2 → s' q = s q) := by
  obtain ⟨w1, w2, w3, w4, w5, w6, w7, w8, w9, w10⟩ := zA_e hA
  intro m
  induction m with
  | zero =>
    intro i n s C hn hi hC h1 h2
    obtain ⟨n, rfl⟩ : ∃ n', n = n' + 1 := ⟨n - 1, by omega⟩
    refine ⟨s, C, ?_, hC, fun _ => ⟨rfl, rfl⟩, fun h => ?_, fun h => h, fun _ _ _ => rfl⟩
    · rw [zf36_101, if_pos (by rw [Nat.add_zero]; exact Int32.le_refl _)]
      rfl
    · have h3 := hC.2.1
      rw [w2, w3] at h3
      omega
  | succ m ih =>
    intro i n s C hn hi hC h1 h2
    obtain ⟨n, rfl⟩ : ∃ n', n = n' + 1 := ⟨n - 1, by omega⟩
    have h3 := hC.2.1
    rw [w2, w3] at h3
    have hl := zRow_lt hC
    have hC1 := hC.1
    rw [zf36_101, if_neg (fun e => by have := (zn_le (by omega) (by omega)).mp e; omega), w1]
    simp only [zgf, hC1]
    rw [zn_sub h2, z18 hC (by omega)]
    simp only [zbi]
    rw [zn_a1, show i + (m + 1) = (i + 1) + m by omega]
    by_cases hf : C.length < 300
    · obtain ⟨p1, p2⟩ := z13 (c := C.getD (C.length - back) (-1)) hC (by rw [w2]; omega) (by rw [w2, w3]; exact hf)
      rw [p1]
      simp only [zbv]
      obtain ⟨s', C', i1, i2, i3, i4, i5, i6⟩ := ih (i + 1) n _ _ (by omega) (by omega) p2 h1 (by rw [List.length_append]; omega)
      have eo : (zw (zw s (zrf (a + 1) 0) C.length (C.getD (C.length - back) (-1))) (a + 1) 1 (nI (C.length + 1))) (a + 1) 2 = s (a + 1) 2 := by
        rw [zw_o (Or.inr (by decide)), zw_ne (by rw [w2]; omega)]
      refine ⟨s', C', i1, i2, fun h => ?_, fun h => ?_, fun h => ?_, fun q q1 q2 => ?_⟩
      · obtain ⟨j1, j2⟩ := i3 (by rw [List.length_append, List.length_singleton]; omega)
        exact ⟨j1, j2.trans eo⟩
      · exact i4 (by rw [List.length_append, List.length_singleton]; omega)
      · exact i5 (eo.trans h)
      · rw [i6 q q1 q2, zw_ne q1, zw_ne (by rw [w2]; exact q2)]
    · have hf2 : C.length = 300 := by omega
      rw [z13_full hC (by rw [w2, w3]; exact hf2)]
      simp only [zbv]
      have hC2 : zRow (a + 1) (zw s (a + 1) 2 1) C := zRow_w hC (Or.inr (by decide)) (by rw [w2]; omega)
      obtain ⟨s', C', i1, i2, i3, i4, i5, i6⟩ := ih (i + 1) n _ _ (by omega) (by omega) hC2 h1 h2
      refine ⟨s', C', i1, i2, fun h => by omega, fun h => ?_, fun h => ?_, fun q q1 q2 => ?_⟩
      · exact i5 zw_s
      · exact i5 zw_s
      · rw [i6 q q1 q2, zw_ne q1]
