/-! Rows as lists, and the calls on the text: length, character, wipe, write. -/
set_option maxRecDepth 100000
set_option linter.unusedVariables false
/-- the row at r holds the letters T -/
def zRow (r : Nat) (s : zS) (T : List Int32) : Prop := s r 1 = nI T.length ∧ T.length ≤ zca (zrf r 0) ∧ ∀ j, j < T.length → s (zrf r 0) j = T.getD j (-1)
/-- the model's text -/
def zMtx (s : zS) (T : List Int32) : Prop := s 179 2 = nI T.length ∧ T.length ≤ 480 ∧ ∀ j, j < T.length → s 180 j = T.getD j (-1)
theorem zRow_lt {r : Nat} {s : zS} {T : List Int32} (h : zRow r s T) : T.length < 5000 := Nat.lt_of_le_of_lt h.2.1 (zca_lt _)
theorem zgetD_out {T : List Int32} {j : Nat} (h : T.length ≤ j) : T.getD j (-1) = -1 := by
  rw [List.getD_eq_getElem?_getD, List.getElem?_eq_none h]
  rfl
theorem zgetD_app {T : List Int32} {c : Int32} {j : Nat} (h : j < T.length) : (T ++ [c]).getD j (-1) = T.getD j (-1) := by
  rw [List.getD_eq_getElem?_getD, List.getD_eq_getElem?_getD, List.getElem?_append_left h]
theorem zgetD_last {T : List Int32} {c : Int32} : (T ++ [c]).getD T.length (-1) = c := by
  rw [List.getD_eq_getElem?_getD, List.getElem?_append_right (Nat.le_refl _), Nat.sub_self]
  rfl
theorem z18 {r j : Nat} {s : zS} {T : List Int32} (h : zRow r s T) (hj : j < 2147483648) : zf18 r (nI j) s = some (T.getD j (-1), s) := by
  have h4 := zRow_lt h
  unfold zf18
  rw [if_neg (zn_nn hj)]
  simp only [zgf, h.1]
  by_cases h5 : T.length ≤ j
  · rw [if_pos ((zn_le (by omega) hj).mpr h5), zgetD_out h5]
  · rw [if_neg (fun e => h5 ((zn_le (by omega) hj).mp e)), zal_n (by have := h.2.1; omega), h.2.2 j (by omega)]
theorem z18_neg {r : Nat} {x : Int32} {s : zS} (hx : x < 0) : zf18 r x s = some (-1, s) := by
  unfold zf18
  rw [if_pos hx]
/-- put, where there is room -/
theorem z13 {r : Nat} {c : Int32} {s : zS} {T : List Int32} (h : zRow r s T) (hr : zrf r 0 ≠ r) (hl : T.length < zca (zrf r 0)) : zf13 r c s = some (zw (zw s (zrf r 0) T.length c) r 1 (nI (T.length + 1))) ∧ zRow r (zw (zw s (zrf r 0) T.length c) r 1 (nI (T.length + 1))) (T ++ [c]) := by
  have h4 := zca_lt (zrf r 0)
  refine ⟨?_, ?_, ?_, ?_⟩
  · unfold zf13
    simp only [zgf, zpf, h.1]
    rw [if_neg (fun e => by have := (zn_le (by omega) (by omega)).mp e; omega), zas_n hl, zw_o (Or.inl (Ne.symm hr)), h.1, zn_lit 1, zn_add]
  · rw [zw_s, List.length_append]
    rfl
  · rw [List.length_append]
    exact hl
  · intro j hj
    rw [List.length_append] at hj
    have hj2 : j < T.length + 1 := hj
    rw [zw_o (Or.inl hr)]
    by_cases e : j = T.length
    · subst e
      rw [zw_s, zgetD_last]
    · rw [zw_o (Or.inr e), h.2.2 j (by omega), zgetD_app (by omega)]
/-- the text on both sides -/
def zTxt (s : zS) (T : List Int32) : Prop := zRow 1 s T ∧ zMtx s T ∧ ∀ c ∈ T, ∃ v, 32 ≤ v ∧ v ≤ 126 ∧ c = nI v
theorem z_length {s : zS} {T : List Int32} (h : zTxt s T) : zA2 (zf16 0 s) (zf150 179) (zT s) :=
  ⟨nI T.length, s, zw s 179 0 0, by rw [← h.1.1]; rfl, by rw [← h.2.1.1]; rfl, _, rfl⟩
theorem z_character {s : zS} {T : List Int32} (h : zTxt s T) (x : Int32) : zA2 (zf17 0 x s) (zf151 179 x) (zT s) := by
  have h4 := zRow_lt h.1
  by_cases hx : x < 0
  · refine ⟨-1, s, zw s 179 0 0, ?_, ?_, _, rfl⟩
    · unfold zf17
      rw [z18_neg hx]
      rfl
    · unfold zf151
      simp only [zpf]
      rw [if_pos hx]
  · obtain ⟨j, rfl, hj⟩ := zn_of hx
    refine ⟨T.getD j (-1), s, zw s 179 0 0, ?_, ?_, _, rfl⟩
    · unfold zf17
      rw [show zrf 0 0 = 1 from rfl, z18 h.1 hj]
      rfl
    · unfold zf151
      simp only [zpf, zgf]
      have e : zw s 179 0 0 179 2 = nI T.length := by rw [zw_o (Or.inr (by decide))]; exact h.2.1.1
      rw [if_neg hx, e]
      by_cases h5 : T.length ≤ j
      · rw [if_pos ((zn_le (by omega) hj).mpr h5), zgetD_out h5]
      · have h6 := h.2.1.2.1
        rw [if_neg (fun e => h5 ((zn_le (by omega) hj).mp e)), zal_n (by show j < 480; omega), ← h.2.1.2.2 j (by omega)]
        rfl
/-- what a call on the text may change -/
def zX (s t : zS) : Prop := (∀ q, q ≠ 1 → q ≠ 2 → q ≠ 179 → q ≠ 180 → t q = s q) ∧ ∀ f, f ≠ 0 → f ≠ 2 → t 179 f = s 179 f
theorem z_wipe {s : zS} {T : List Int32} (h : zTxt s T) : zA2 (zf14 0 s) (zf149 179) (fun t => zX s t ∧ zTxt t []) := by
  refine ⟨nI T.length, zw (zw s 1 1 0) 1 2 0, zw (zw (zw (zw s 1 1 0) 1 2 0) 179 0 0) 179 2 0, ?_, ?_, ⟨?_, ?_⟩, ⟨rfl, Nat.zero_le _, fun j hj => absurd hj (Nat.not_lt_zero _)⟩, ⟨rfl, Nat.zero_le _, fun j hj => absurd hj (Nat.not_lt_zero _)⟩, fun c hc => absurd hc List.not_mem_nil⟩
  · rw [← h.1.1]
    rfl
  · rw [← h.2.1.1]
    rfl
  · intro q h1 h2 h3 h4
    rw [zw_ne h3, zw_ne h3, zw_ne h1, zw_ne h1]
  · intro f h0 h2
    rw [zw_o (Or.inr h2), zw_o (Or.inr h0), zw_o (Or.inl (by decide)), zw_o (Or.inl (by decide))]
