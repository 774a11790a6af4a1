/-! kind, above, letters, letter, look. -/
set_option maxRecDepth 100000
set_option linter.unusedVariables false
theorem z204_no {x y : Int32} {s : zS} (h : x < 0 ∨ ¬ x < 3) : zf204 179 x y s = some (0, zw s 179 0 1) := by
  unfold zf204
  rw [z202_no h]
  rfl
theorem z204_in {i : Nat} {y : Int32} {s : zS} {n : Nat} (hi : i < 3) (hn : s 195 i = nI n) (hn2 : n < 2147483648) : zf204 179 (nI i) y s = if y < 0 ∨ ¬ y < nI n then some (0, zw s 179 0 2) else some (1, zw s 179 0 0) := by
  have e0 : zf202 (nI i) s = some (1, s) := by
    have h4 : i = 0 ∨ i = 1 ∨ i = 2 := by omega
    rcases h4 with rfl | rfl | rfl <;> rfl
  have e2 : ∀ c : Int32 → Option (Int32 × zS), zal s (zrf 179 22) (nI i) c = c (nI n) := by
    intro c
    rw [zal_n (a := zrf 179 22) (by show i < 4; omega)]
    rw [← hn]
    rfl
  unfold zf204
  rw [e0]
  unfold zbi
  simp only [e2]
  rw [if_pos (by decide)]
  by_cases h1 : y < 0
  · rw [if_pos h1, if_pos (Or.inl h1)]
    rfl
  · rw [if_neg h1]
    by_cases h2 : y < nI n
    · rw [if_pos h2, if_neg (fun q => q.elim h1 (fun q => q h2))]
      rfl
    · rw [if_neg h2, if_pos (Or.inr h2)]
      rfl
theorem z85_no {q : Nat} {y : Int32} {s : zS} (h : y < 0 ∨ ¬ y < s q 6) : zf85 q y s = some (.inr (hx_E 1), s, 1) := by
  unfold zf85
  by_cases h1 : y < 0
  · rw [if_pos h1]
  · rw [if_neg h1]
    simp only [zgf]
    rw [if_neg (h.resolve_left h1)]
theorem z85_in {q : Nat} {y : Int32} {s : zS} (h : ¬ (y < 0 ∨ ¬ y < s q 6)) : zf85 q y s = some (.inl (some (.ref q)), s, 0) := by
  unfold zf85
  rw [if_neg (fun e => h (Or.inl e))]
  simp only [zgf]
  rw [if_pos (Classical.byContradiction fun e => h (Or.inr e))]
/-- a node that there is -/
theorem z_node {y : Int32} {n : Nat} (hn : n < 2147483648) (h : ¬ (y < 0 ∨ ¬ y < nI n)) : ∃ j, y = nI j ∧ j < n := by
  obtain ⟨k, rfl, hk⟩ := zn_of (fun e => h (Or.inl e))
  exact ⟨k, rfl, (zn_lt hk hn).mp (Classical.byContradiction fun e => h (Or.inr e))⟩
/-- the papers: place, slot, room for nodes -/
def zQ (q i : Nat) : Prop := (q = 4 ∧ i = 0) ∨ (q = 12 ∧ i = 1) ∨ (q = 20 ∧ i = 2)
theorem zQ_sh {q i : Nat} (h : zQ q i) : zsh q = 2 ∧ i < 3 ∧ zca (q + 1) ≤ 80 ∧ zca (q + 7) ≤ 600 ∧ zca (q + 2) = zca (q + 1) ∧ zca (q + 3) = zca (q + 1) ∧ zca (q + 4) = zca (q + 1) ∧ zca (q + 5) = zca (q + 1) := by
  rcases h with ⟨rfl, rfl⟩ | ⟨rfl, rfl⟩ | ⟨rfl, rfl⟩ <;> decide
theorem zQ_rf {q i : Nat} (h : zQ q i) : zrf q 0 = q + 1 ∧ zrf q 1 = q + 2 ∧ zrf q 2 = q + 3 ∧ zrf q 3 = q + 4 ∧ zrf q 4 = q + 5 ∧ zrf q 5 = q + 6 ∧ zrf (q + 6) 0 = q + 7 := by
  rcases h with ⟨rfl, rfl⟩ | ⟨rfl, rfl⟩ | ⟨rfl, rfl⟩ <;> decide
theorem zQ_83 {q i : Nat} {s : zS} (h : zQ q i) : zf83 0 (nI i) s = some (.inl (some (.ref q)), s, 0) := by
  rcases h with ⟨rfl, rfl⟩ | ⟨rfl, rfl⟩ | ⟨rfl, rfl⟩ <;> rfl
theorem z_slotQ (x : Int32) : (x < 0 ∨ ¬ x < 3) ∨ ∃ q i, zQ q i ∧ x = nI i := by
  rcases z_slot x with h | rfl | rfl | rfl
  · exact Or.inl h
  · exact Or.inr ⟨4, 0, Or.inl ⟨rfl, rfl⟩, rfl⟩
  · exact Or.inr ⟨12, 1, Or.inr (Or.inl ⟨rfl, rfl⟩), rfl⟩
  · exact Or.inr ⟨20, 2, Or.inr (Or.inr ⟨rfl, rfl⟩), rfl⟩
/-- all three documents -/
def zPs (s : zS) : Prop := ∀ q i, zQ q i → ∃ n t, zPap q i s n t
theorem zPap_n {q i n t : Nat} {s : zS} (hQ : zQ q i) (h : zPap q i s n t) : n ≤ 80 ∧ t ≤ 600 := by
  have h1 := zQ_sh hQ
  have h2 := h.2.2.2.2
  exact ⟨Nat.le_trans h2.1 h1.2.2.1, Nat.le_trans h2.2.1 h1.2.2.2.1⟩
theorem zn_100 (i j : Nat) : (100 : Int32) * nI i + nI j = nI (100 * i + j) := by
  rw [zn_lit 100, zn_mul, zn_add]
theorem z_kind {s : zS} (hp : zPs s) (x y : Int32) : zAH (zf84 0 x y s) [0, 1] (zf203 179 x y) (zT s) := by
  rcases z_slotQ x with h | ⟨q, i, hQ, rfl⟩
  · refine Or.inr ⟨0, 0, 0, s, zw s 179 0 1, rfl, ?_, ?_, rfl, _, rfl⟩
    · unfold zf84
      rw [z83_no h]
      rfl
    · unfold zf203
      rw [z204_no h]
      rfl
  · obtain ⟨n, t, hd⟩ := hp q i hQ
    obtain ⟨hn, ht⟩ := zPap_n hQ hd
    obtain ⟨w1, w2, w3, w4, w5, w6, w7, w8⟩ := zQ_sh hQ
    obtain ⟨r1, r2, r3, r4, r5, r6, r7⟩ := zQ_rf hQ
    obtain ⟨d1, d2, d3, d4, d5, d6, d7, d8⟩ := hd
    have e204 := z204_in (y := y) w2 d2 (by omega)
    by_cases hy : y < 0 ∨ ¬ y < nI n
    · rw [if_pos hy] at e204
      refine Or.inr ⟨1, 1, 0, s, zw s 179 0 2, rfl, ?_, ?_, rfl, _, rfl⟩
      · unfold zf84
        rw [zQ_83 hQ]
        unfold zxr
        simp only [w1, if_true]
        rw [z85_no (by rw [d1]; exact hy)]
      · unfold zf203
        rw [e204]
        rfl
    · rw [if_neg hy] at e204
      obtain ⟨j, rfl, hj⟩ := z_node (by omega) hy
      refine Or.inl ⟨s (q + 1) j, s, zw s 179 0 0, ?_, ?_, rfl, _, rfl⟩
      · unfold zf84
        rw [zQ_83 hQ]
        unfold zxr
        simp only [w1, if_true]
        rw [z85_in (by rw [d1]; exact hy)]
        simp only [w1, if_true]
        rw [r1, zal_n (by omega)]
      · unfold zf203
        rw [e204]
        unfold zbi
        simp only
        rw [if_neg (by decide), zn_100, zal_n (by show _ < 400; omega), (d7 j hj).1]
        rfl
theorem z_above {s : zS} (hp : zPs s) (x y : Int32) : zAH (zf87 0 x y s) [0, 1] (zf205 179 x y) (zT s) := by
  rcases z_slotQ x with h | ⟨q, i, hQ, rfl⟩
  · refine Or.inr ⟨0, 0, 0, s, zw s 179 0 1, rfl, ?_, ?_, rfl, _, rfl⟩
    · unfold zf87
      rw [z83_no h]
      rfl
    · unfold zf205
      rw [z204_no h]
      rfl
  · obtain ⟨n, t, hd⟩ := hp q i hQ
    obtain ⟨hn, ht⟩ := zPap_n hQ hd
    obtain ⟨w1, w2, w3, w4, w5, w6, w7, w8⟩ := zQ_sh hQ
    obtain ⟨r1, r2, r3, r4, r5, r6, r7⟩ := zQ_rf hQ
    obtain ⟨d1, d2, d3, d4, d5, d6, d7, d8⟩ := hd
    have e204 := z204_in (y := y) w2 d2 (by omega)
    by_cases hy : y < 0 ∨ ¬ y < nI n
    · rw [if_pos hy] at e204
      refine Or.inr ⟨1, 1, 0, s, zw s 179 0 2, rfl, ?_, ?_, rfl, _, rfl⟩
      · unfold zf87
        rw [zQ_83 hQ]
        unfold zxr
        simp only [w1, if_true]
        rw [z85_no (by rw [d1]; exact hy)]
      · unfold zf205
        rw [e204]
        rfl
    · rw [if_neg hy] at e204
      obtain ⟨j, rfl, hj⟩ := z_node (by omega) hy
      refine Or.inl ⟨s (q + 2) j, s, zw s 179 0 0, ?_, ?_, rfl, _, rfl⟩
      · unfold zf87
        rw [zQ_83 hQ]
        unfold zxr
        simp only [w1, if_true]
        rw [z85_in (by rw [d1]; exact hy)]
        simp only [w1, if_true]
        rw [r2, zal_n (by omega)]
      · unfold zf205
        rw [e204]
        unfold zbi
        simp only
        rw [if_neg (by decide), zn_100, zal_n (by show _ < 400; omega), (d7 j hj).2.1]
        rfl
theorem z_letters {s : zS} (hp : zPs s) (x y : Int32) : zAH (zf89 0 x y s) [0, 1] (zf208 179 x y) (zT s) := by
  rcases z_slotQ x with h | ⟨q, i, hQ, rfl⟩
  · refine Or.inr ⟨0, 0, 0, s, zw s 179 0 1, rfl, ?_, ?_, rfl, _, rfl⟩
    · unfold zf89
      rw [z83_no h]
      rfl
    · unfold zf208
      rw [z204_no h]
      rfl
  · obtain ⟨n, t, hd⟩ := hp q i hQ
    obtain ⟨hn, ht⟩ := zPap_n hQ hd
    obtain ⟨w1, w2, w3, w4, w5, w6, w7, w8⟩ := zQ_sh hQ
    obtain ⟨r1, r2, r3, r4, r5, r6, r7⟩ := zQ_rf hQ
    obtain ⟨d1, d2, d3, d4, d5, d6, d7, d8⟩ := hd
    have e204 := z204_in (y := y) w2 d2 (by omega)
    by_cases hy : y < 0 ∨ ¬ y < nI n
    · rw [if_pos hy] at e204
      refine Or.inr ⟨1, 1, 0, s, zw s 179 0 2, rfl, ?_, ?_, rfl, _, rfl⟩
      · unfold zf89
        rw [zQ_83 hQ]
        unfold zxr
        simp only [w1, if_true]
        rw [z85_no (by rw [d1]; exact hy)]
      · unfold zf208
        rw [e204]
        rfl
    · rw [if_neg hy] at e204
      obtain ⟨j, rfl, hj⟩ := z_node (by omega) hy
      refine Or.inl ⟨s (q + 5) j, s, zw s 179 0 0, ?_, ?_, rfl, _, rfl⟩
      · unfold zf89
        rw [zQ_83 hQ]
        unfold zxr
        simp only [w1, if_true]
        rw [z85_in (by rw [d1]; exact hy)]
        simp only [w1, if_true]
        rw [r5, zal_n (by omega)]
      · unfold zf208
        rw [e204]
        unfold zbi
        simp only
        rw [if_neg (by decide), zn_100, zal_n (by show _ < 400; omega), (d7 j hj).2.2.2.2.1]
        rfl
theorem z18_in {r j sz : Nat} {s : zS} (h1 : s r 1 = nI sz) (h2 : sz ≤ zca (zrf r 0)) (h3 : j < sz) : zf18 r (nI j) s = some (s (zrf r 0) j, s) := by
  have h4 := zca_lt (zrf r 0)
  unfold zf18
  rw [if_neg (zn_nn (by omega))]
  simp only [zgf, h1]
  rw [if_neg (fun e => by have := (zn_le (by omega) (by omega)).mp e; omega), zal_n (by omega)]
theorem z_letter {s : zS} (hp : zPs s) (x y z : Int32) : zAH (zf90 0 x y z s) [0, 1] (zf209 179 x y z) (zT s) := by
  rcases z_slotQ x with h | ⟨q, i, hQ, rfl⟩
  · refine Or.inr ⟨0, 0, 0, s, zw s 179 0 1, rfl, ?_, ?_, rfl, _, rfl⟩
    · unfold zf90
      rw [z83_no h]
      rfl
    · unfold zf209
      rw [z204_no h]
      rfl
  · obtain ⟨n, t, hd⟩ := hp q i hQ
    obtain ⟨hn, ht⟩ := zPap_n hQ hd
    obtain ⟨w1, w2, w3, w4, w5, w6, w7, w8⟩ := zQ_sh hQ
    obtain ⟨r1, r2, r3, r4, r5, r6, r7⟩ := zQ_rf hQ
    obtain ⟨d1, d2, d3, d4, d5, d6, d7, d8⟩ := hd
    have e204 := z204_in (y := y) w2 d2 (by omega)
    by_cases hy : y < 0 ∨ ¬ y < nI n
    · rw [if_pos hy] at e204
      refine Or.inr ⟨1, 1, 0, s, zw s 179 0 2, rfl, ?_, ?_, rfl, _, rfl⟩
      · unfold zf90
        rw [zQ_83 hQ]
        unfold zxr
        simp only [w1, if_true]
        rw [z85_no (by rw [d1]; exact hy)]
      · unfold zf209
        rw [e204]
        rfl
    · rw [if_neg hy] at e204
      obtain ⟨j, rfl, hj⟩ := z_node (by omega) hy
      obtain ⟨k1, k2, k3, k4, k5, a, b, k6, k7, k8⟩ := d7 j hj
      have c90 : ∀ v, zf91 q (nI j) z s = some (v, s) → zf90 0 (nI i) (nI j) z s = some (.inl (some (.int v)), s, 0) := by
        intro v hv
        unfold zf90
        rw [zQ_83 hQ]
        unfold zxr
        simp only [w1, if_true]
        rw [z85_in (by rw [d1]; exact hy)]
        simp only [w1, if_true]
        rw [hv]
        rfl
      by_cases hz : z < 0
      · refine Or.inl ⟨-1, s, zw s 179 0 0, c90 _ ?_, ?_, rfl, _, rfl⟩
        · unfold zf91
          rw [if_pos hz]
        · unfold zf209
          rw [e204]
          simp only [zbi]
          rw [if_pos (by decide), if_pos hz]
      · obtain ⟨l, rfl, hl⟩ := zn_of hz
        have m1 : zw s 179 0 0 (zrf 179 27) (100 * i + j) = nI b := by rw [← k7, k5]; rfl
        have m2 : zw s 179 0 0 (zrf 179 26) (100 * i + j) = nI a := by rw [← k6, k4]; rfl
        by_cases hz2 : nI b ≤ nI l
        · refine Or.inl ⟨-1, s, zw s 179 0 0, c90 _ ?_, ?_, rfl, _, rfl⟩
          · unfold zf91
            rw [if_neg hz, r5, zal_n (by omega), k7, if_pos hz2]
          · unfold zf209
            rw [e204]
            simp only [zbi]
            rw [if_pos (by decide), if_neg hz, zn_100, zal_n (by show _ < 400; omega), m1, if_pos hz2]
        · have hb : l < b := by
            refine Nat.lt_of_not_le (fun e => hz2 ?_)
            rw [zn_le (by omega) (by omega)]
            exact e
          refine Or.inl ⟨s (q + 7) (a + l), s, zw s 179 0 0, c90 _ ?_, ?_, rfl, _, rfl⟩
          · unfold zf91
            rw [if_neg hz, r5, zal_n (by omega), k7, if_neg hz2, r4, zal_n (by omega), k6, zn_add, r6, z18_in d3 (by rw [r7]; exact d6) (by omega), r7]
            rfl
          · unfold zf209
            rw [e204]
            simp only [zbi]
            rw [if_pos (by decide), if_neg hz, zn_100, zal_n (by show _ < 400; omega), m1, if_neg hz2, zal_n (by show _ < 400; omega), m2, zn_lit 700, zn_mul, zn_add, zn_add, zal_n (by show _ < 2800; omega), d8 (a + l) (by omega), Nat.add_assoc]
            rfl
