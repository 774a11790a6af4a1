/-! Documents as lists, on the model's side. -/
set_option maxRecDepth 100000
set_option linter.unusedVariables false
/-- the three numbers of a look -/
def zl3 (o : Option Nat) (w : Nat) : Int32 := match o with
  | none => -1
  | some p => nI (if w = 0 then p / 1000 else if w = 1 then p / 10 % 100 else p % 10)
/-- the model's document i is D -/
def zPm (i : Nat) (s : zS) (D : List zN) : Prop := s 195 i = nI D.length ∧ D.length ≤ 100 ∧ s 201 i = nI (zlt D).length ∧ (zlt D).length ≤ 700 ∧ (∀ k, k < (zlt D).length → s 202 (700 * i + k) = (zlt D).getD k (-1)) ∧ ∀ j, j < D.length → s 196 (100 * i + j) = nI (zno D j).1 ∧ s 197 (100 * i + j) = zoi (zno D j).2.1 ∧ (∀ w, w < 3 → s 198 (3 * (100 * i + j) + w) = zl3 (zno D j).2.2.1 w) ∧ s 199 (100 * i + j) = nI (zof D j) ∧ s 200 (100 * i + j) = nI (zno D j).2.2.2.length
/-- what work on the document i may change -/
def zFm (i : Nat) (s s' : zS) : Prop := (∀ p, p < 195 ∨ 202 < p → s' p = s p) ∧ (∀ j, j ≠ i → s' 195 j = s 195 j ∧ s' 201 j = s 201 j) ∧ (∀ j, j < 100 * i ∨ 100 * i + 100 ≤ j → s' 196 j = s 196 j ∧ s' 197 j = s 197 j ∧ s' 199 j = s 199 j ∧ s' 200 j = s 200 j) ∧ (∀ j, j < 300 * i ∨ 300 * i + 300 ≤ j → s' 198 j = s 198 j) ∧ ∀ j, j < 700 * i ∨ 700 * i + 700 ≤ j → s' 202 j = s 202 j
theorem zFm_r {i : Nat} {s : zS} : zFm i s s := ⟨fun _ _ => rfl, fun _ _ => ⟨rfl, rfl⟩, fun _ _ => ⟨rfl, rfl, rfl, rfl⟩, fun _ _ => rfl, fun _ _ => rfl⟩
theorem zFm_t {i : Nat} {s s1 s2 : zS} (h1 : zFm i s s1) (h2 : zFm i s1 s2) : zFm i s s2 := by
  refine ⟨fun p h => (h2.1 p h).trans (h1.1 p h), fun j h => ⟨((h2.2.1 j h).1).trans (h1.2.1 j h).1, ((h2.2.1 j h).2).trans (h1.2.1 j h).2⟩, fun j h => ?_, fun j h => (h2.2.2.2.1 j h).trans (h1.2.2.2.1 j h), fun j h => (h2.2.2.2.2 j h).trans (h1.2.2.2.2 j h)⟩
  obtain ⟨a1, a2, a3, a4⟩ := h1.2.2.1 j h
  obtain ⟨b1, b2, b3, b4⟩ := h2.2.2.1 j h
  exact ⟨b1.trans a1, b2.trans a2, b3.trans a3, b4.trans a4⟩
theorem zPm_f {i k : Nat} {s s' : zS} {D : List zN} (h : zPm k s D) (hi : k ≠ i) (h1 : zFm i s s') : zPm k s' D := by
  obtain ⟨a1, a2, a3, a4, a5, a6⟩ := h
  obtain ⟨b0, b1, b2, b3, b4⟩ := h1
  refine ⟨by rw [(b1 k hi).1, a1], a2, by rw [(b1 k hi).2, a3], a4, fun j hj => by rw [b4 _ (by omega), a5 j hj], fun j hj => ?_⟩
  obtain ⟨c1, c2, c3, c4, c5⟩ := a6 j hj
  obtain ⟨d1, d2, d3, d4⟩ := b2 (100 * k + j) (by omega)
  exact ⟨by rw [d1, c1], by rw [d2, c2], fun w hw => by rw [b3 _ (by omega), c3 w hw], by rw [d3, c4], by rw [d4, c5]⟩
theorem zPm_e {k : Nat} {s s' : zS} {D : List zN} (h : zPm k s D) (h1 : ∀ p, 195 ≤ p → p ≤ 202 → s' p = s p) : zPm k s' D := by
  unfold zPm
  rw [h1 195 (by decide) (by decide), h1 196 (by decide) (by decide), h1 197 (by decide) (by decide), h1 198 (by decide) (by decide), h1 199 (by decide) (by decide), h1 200 (by decide) (by decide), h1 201 (by decide) (by decide), h1 202 (by decide) (by decide)]
  exact h
/-- a new look of the last node -/
theorem zPm_lk {i : Nat} {s s' : zS} {D : List zN} {d : zN} {l : Option Nat} (h : zPm i s (D ++ [d])) (hs : s' = zw (zw (zw s 198 (3 * (100 * i + D.length)) (zl3 l 0)) 198 (3 * (100 * i + D.length) + 1) (zl3 l 1)) 198 (3 * (100 * i + D.length) + 2) (zl3 l 2)) : zPm i s' (D ++ [(d.1, d.2.1, l, d.2.2.2)]) ∧ zFm i s s' := by
  obtain ⟨a1, a2, a3, a4, a5, a6⟩ := h
  have fr : ∀ p, p ≠ 198 → s' p = s p := fun p hp => by rw [hs, zw_ne hp, zw_ne hp, zw_ne hp]
  have el : zlt (D ++ [(d.1, d.2.1, l, d.2.2.2)]) = zlt (D ++ [d]) := by rw [zlt_app, zlt_app]
  have len : (D ++ [(d.1, d.2.1, l, d.2.2.2)]).length = (D ++ [d]).length := by rw [List.length_append, List.length_append]; rfl
  have hn : D.length < 100 := by rw [List.length_append, List.length_singleton] at a2; omega
  refine ⟨⟨by rw [fr 195 (by decide), len, a1], by rw [len]; exact a2, by rw [fr 201 (by decide), el, a3], by rw [el]; exact a4, by rw [fr 202 (by decide), el]; exact a5, fun j hj => ?_⟩, fun p hp => fr p (by omega), fun j _ => ⟨by rw [fr 195 (by decide)], by rw [fr 201 (by decide)]⟩, fun j _ => ⟨by rw [fr 196 (by decide)], by rw [fr 197 (by decide)], by rw [fr 199 (by decide)], by rw [fr 200 (by decide)]⟩, fun j hj => ?_, fun j _ => by rw [fr 202 (by decide)]⟩
  · rw [len] at hj
    obtain ⟨c1, c2, c3, c4, c5⟩ := a6 j hj
    rw [List.length_append, List.length_singleton] at hj
    rw [zof_l (by omega)] at c4
    rw [zof_l (by omega), fr 196 (by decide), fr 197 (by decide), fr 199 (by decide), fr 200 (by decide)]
    by_cases g : j = D.length
    · rw [g, zno_r] at c1 c2 c5
      rw [g] at c4
      rw [g, zno_r]
      refine ⟨c1, c2, fun w hw => ?_, c4, c5⟩
      have h3 : w = 0 ∨ w = 1 ∨ w = 2 := by omega
      rw [hs]
      rcases h3 with rfl | rfl | rfl
      · rw [zw_o (by omega), zw_o (by omega), Nat.add_zero, zw_s]
      · rw [zw_o (by omega), zw_s]
      · rw [zw_s]
    · rw [zno_l (by omega)] at c1 c2 c3 c5 ⊢
      refine ⟨c1, c2, fun w hw => ?_, c4, c5⟩
      rw [hs, zw_o (by omega), zw_o (by omega), zw_o (by omega), c3 w hw]
  · rw [hs, zw_o (by omega), zw_o (by omega), zw_o (by omega)]
/-- addNode -/
theorem zm190 {i k : Nat} {a : Option Nat} {s : zS} {D : List zN} (hi : i < 4) (h : zPm i s D) (hn : D.length < 100) : ∃ s', zf190 179 (nI i) (nI k) (zoi a) s = some s' ∧ zPm i s' (D ++ [(k, a, none, [])]) ∧ zFm i s s' := by
  obtain ⟨a1, a2, a3, a4, a5, a6⟩ := h
  have n100 : ∀ x, (100 : Int32) * nI i + nI x = nI (100 * i + x) := fun x => by rw [zn_lit 100, zn_mul, zn_add]
  have n3 : ∀ x y, (3 : Int32) * nI x + nI y = nI (3 * x + y) := fun x y => by rw [zn_lit 3, zn_mul, zn_add]
  obtain ⟨N, hN⟩ : ∃ N, N = 100 * i + D.length := ⟨_, rfl⟩
  obtain ⟨s1, hs1⟩ : ∃ s1, s1 = zw (zw (zw (zw s 196 N (nI k)) 197 N (zoi a)) 199 N (nI (zlt D).length)) 200 N 0 := ⟨_, rfl⟩
  obtain ⟨s2, hs2⟩ : ∃ s2, s2 = zw (zw (zw s1 198 (3 * N) (-1)) 198 (3 * N + 1) (-1)) 198 (3 * N + 2) (-1) := ⟨_, rfl⟩
  obtain ⟨M, hz⟩ : ∃ M, zfz = M + 10 := ⟨9990, zfz_e⟩
  have e195 : s2 195 i = nI D.length := by
    rw [hs2, hs1, zw_ne (by decide), zw_ne (by decide), zw_ne (by decide), zw_ne (by decide), zw_ne (by decide), zw_ne (by decide), zw_ne (by decide), a1]
  have el : zlt (D ++ [(k, a, none, [])]) = zlt D := by rw [zlt_app, List.append_nil]
  have len : (D ++ [(k, a, (none : Option Nat), ([] : List Int32))]).length = D.length + 1 := by rw [List.length_append]; rfl
  refine ⟨zw s2 195 i (nI (D.length + 1)), ?_, ⟨?_, by rw [len]; omega, ?_, by rw [el]; exact a4, ?_, fun j hj => ?_⟩, fun p hp => ?_, fun j hj => ⟨?_, ?_⟩, fun j hj => ⟨?_, ?_, ?_, ?_⟩, fun j hj => ?_, fun j hj => ?_⟩
  · unfold zf190
    rw [show zrf 179 22 = 195 from rfl, zal_n (by show i < 4; omega), a1, n100, ← hN, show zrf 179 23 = 196 from rfl, zas_n (by show N < 400; omega), show zrf 179 24 = 197 from rfl, zas_n (by show N < 400; omega), show zrf 179 28 = 201 from rfl, zal_n (by show i < 4; omega), zw_ne (by decide), zw_ne (by decide), a3, show zrf 179 26 = 199 from rfl, zas_n (by show N < 400; omega), show zrf 179 27 = 200 from rfl, zas_n (by show N < 400; omega), ← hs1, hz, zf190_53, if_neg (by decide), show (0 : Int32) = nI 0 from rfl, n3, show zrf 179 25 = 198 from rfl, zas_n (by show 3 * N + 0 < 1200; omega), zf190_53, if_neg (by decide), zn_a1, n3, show zrf 179 25 = 198 from rfl, zas_n (by show 3 * N + (0 + 1) < 1200; omega), zf190_53, if_neg (by decide), zn_a1, n3, show zrf 179 25 = 198 from rfl, zas_n (by show 3 * N + (0 + 1 + 1) < 1200; omega), zf190_53, if_pos (by decide), show zrf 179 22 = 195 from rfl]
    have : zw (zw (zw s1 198 (3 * N + 0) (-1)) 198 (3 * N + (0 + 1)) (-1)) 198 (3 * N + (0 + 1 + 1)) (-1) = s2 := hs2.symm
    rw [this, zal_n (by show i < 4; omega), e195, zas_n (by show i < 4; omega), zn_a1]
  · rw [zw_s, len]
  · rw [el, zw_ne (by decide), hs2, hs1, zw_ne (by decide), zw_ne (by decide), zw_ne (by decide), zw_ne (by decide), zw_ne (by decide), zw_ne (by decide), zw_ne (by decide), a3]
  · rw [el, zw_ne (by decide), hs2, hs1, zw_ne (by decide), zw_ne (by decide), zw_ne (by decide), zw_ne (by decide), zw_ne (by decide), zw_ne (by decide), zw_ne (by decide)]
    exact a5
  · rw [len] at hj
    rw [zof_l (by omega), zw_ne (by decide), zw_ne (by decide), zw_ne (by decide), zw_ne (by decide), zw_ne (by decide), hs2, zw_ne (show 196 ≠ 198 by decide), zw_ne (show 196 ≠ 198 by decide), zw_ne (show 196 ≠ 198 by decide), zw_ne (show 197 ≠ 198 by decide), zw_ne (show 197 ≠ 198 by decide), zw_ne (show 197 ≠ 198 by decide), zw_ne (show 199 ≠ 198 by decide), zw_ne (show 199 ≠ 198 by decide), zw_ne (show 199 ≠ 198 by decide), zw_ne (show 200 ≠ 198 by decide), zw_ne (show 200 ≠ 198 by decide), zw_ne (show 200 ≠ 198 by decide), hs1, hN]
    by_cases g : j = D.length
    · rw [g, zno_r, zof_n]
      refine ⟨?_, ?_, fun w hw => ?_, ?_, ?_⟩
      · rw [zw_ne (by decide), zw_ne (by decide), zw_ne (by decide), zw_s]
      · rw [zw_ne (by decide), zw_ne (by decide), zw_s]
      · have h3 : w = 0 ∨ w = 1 ∨ w = 2 := by omega
        rcases h3 with rfl | rfl | rfl
        · rw [zw_o (by omega), zw_o (by omega), Nat.add_zero, zw_s]
          rfl
        · rw [zw_o (by omega), zw_s]
          rfl
        · rw [zw_s]
          rfl
      · rw [zw_ne (by decide), zw_s]
      · rw [zw_s]
        rfl
    · rw [zno_l (by omega)]
      obtain ⟨c1, c2, c3, c4, c5⟩ := a6 j (by omega)
      refine ⟨?_, ?_, fun w hw => ?_, ?_, ?_⟩
      · rw [zw_ne (by decide), zw_ne (by decide), zw_ne (by decide), zw_o (by omega), c1]
      · rw [zw_ne (by decide), zw_ne (by decide), zw_o (by omega), zw_ne (by decide), c2]
      · rw [zw_o (by omega), zw_o (by omega), zw_o (by omega), zw_ne (by decide), zw_ne (by decide), zw_ne (by decide), zw_ne (by decide), c3 w hw]
      · rw [zw_ne (by decide), zw_o (by omega), zw_ne (by decide), zw_ne (by decide), c4]
      · rw [zw_o (by omega), zw_ne (by decide), zw_ne (by decide), zw_ne (by decide), c5]
  · rw [zw_ne (by omega), hs2, hs1, zw_ne (by omega), zw_ne (by omega), zw_ne (by omega), zw_ne (by omega), zw_ne (by omega), zw_ne (by omega), zw_ne (by omega)]
  · rw [zw_o (by omega), hs2, hs1, zw_ne (by decide), zw_ne (by decide), zw_ne (by decide), zw_ne (by decide), zw_ne (by decide), zw_ne (by decide), zw_ne (by decide)]
  · rw [zw_ne (by decide), hs2, hs1, zw_ne (by decide), zw_ne (by decide), zw_ne (by decide), zw_ne (by decide), zw_ne (by decide), zw_ne (by decide), zw_ne (by decide)]
  · rw [zw_o (by omega), hs2, hs1, zw_o (by omega), zw_o (by omega), zw_o (by omega), zw_o (by omega), zw_o (by omega), zw_o (by omega), zw_o (by omega)]
  · rw [zw_o (by omega), hs2, hs1, zw_o (by omega), zw_o (by omega), zw_o (by omega), zw_o (by omega), zw_o (by omega), zw_o (by omega), zw_o (by omega)]
  · rw [zw_o (by omega), hs2, hs1, zw_o (by omega), zw_o (by omega), zw_o (by omega), zw_o (by omega), zw_o (by omega), zw_o (by omega), zw_o (by omega)]
  · rw [zw_o (by omega), hs2, hs1, zw_o (by omega), zw_o (by omega), zw_o (by omega), zw_o (by omega), zw_o (by omega), zw_o (by omega), zw_o (by omega)]
  · rw [zw_o (by omega), hs2, hs1, zw_o (by omega), zw_o (by omega), zw_o (by omega), zw_o (by omega), zw_o (by omega), zw_o (by omega), zw_o (by omega)]
  · rw [zw_o (by omega), hs2, hs1, zw_o (by omega), zw_o (by omega), zw_o (by omega), zw_o (by omega), zw_o (by omega), zw_o (by omega), zw_o (by omega)]
/-- addLetter -/
theorem zm197 {i : Nat} {c : Int32} {s : zS} {D : List zN} {d : zN} (hi : i < 4) (h : zPm i s (D ++ [d])) (ht : (zlt (D ++ [d])).length < 700) : ∃ s', zf197 179 (nI i) c s = some s' ∧ zPm i s' (D ++ [(d.1, d.2.1, d.2.2.1, d.2.2.2 ++ [c])]) ∧ zFm i s s' := by
  obtain ⟨a1, a2, a3, a4, a5, a6⟩ := h
  have n100 : ∀ x, (100 : Int32) * nI i + nI x = nI (100 * i + x) := fun x => by rw [zn_lit 100, zn_mul, zn_add]
  have n700 : ∀ x, (700 : Int32) * nI i + nI x = nI (700 * i + x) := fun x => by rw [zn_lit 700, zn_mul, zn_add]
  have el : zlt (D ++ [(d.1, d.2.1, d.2.2.1, d.2.2.2 ++ [c])]) = zlt (D ++ [d]) ++ [c] := by
    rw [zlt_app, zlt_app, List.append_assoc]
  have len : (D ++ [(d.1, d.2.1, d.2.2.1, d.2.2.2 ++ [c])]).length = (D ++ [d]).length := by rw [List.length_append, List.length_append]; rfl
  have ld : (D ++ [d]).length = D.length + 1 := by rw [List.length_append]; rfl
  rw [ld] at a1 a2
  obtain ⟨g1, g2, g3, g4, g5⟩ := a6 D.length (by rw [ld]; omega)
  rw [zno_r] at g5
  obtain ⟨T, hT⟩ : ∃ T, T = (zlt (D ++ [d])).length := ⟨_, rfl⟩
  rw [← hT] at a3 a4 a5 ht
  obtain ⟨s', hs⟩ : ∃ s', s' = zw (zw (zw s 202 (700 * i + T) c) 201 i (nI (T + 1))) 200 (100 * i + D.length) (nI (d.2.2.2.length + 1)) := ⟨_, rfl⟩
  have n1 : nI (100 * i + (D.length + 1)) - 1 = nI (100 * i + D.length) := zn_s1 (100 * i + D.length)
  refine ⟨s', ?_, ⟨?_, by rw [len, ld]; exact a2, ?_, ?_, fun k hk => ?_, fun j hj => ?_⟩, fun p hp => ?_, fun j hj => ⟨?_, ?_⟩, fun j hj => ⟨?_, ?_, ?_, ?_⟩, fun j hj => ?_, fun j hj => ?_⟩
  · unfold zf197
    rw [show zrf 179 28 = 201 from rfl, zal_n (by show i < 4; omega), a3, n700, show zrf 179 29 = 202 from rfl, zas_n (by show 700 * i + T < 2800; omega), zal_n (by show i < 4; omega), zw_ne (by decide), a3, zas_n (by show i < 4; omega), zn_a1, show zrf 179 22 = 195 from rfl, zal_n (by show i < 4; omega), zw_ne (by decide), zw_ne (by decide), a1, n100, n1, show zrf 179 27 = 200 from rfl, zal_n (by show 100 * i + D.length < 400; omega), zw_ne (by decide), zw_ne (by decide), g5, zas_n (by show 100 * i + D.length < 400; omega), zn_a1, ← hs]
  · rw [hs, zw_ne (by decide), zw_ne (by decide), zw_ne (by decide), a1, len, ld]
  · rw [hs, zw_ne (by decide), zw_s, el, List.length_append, ← hT]
    rfl
  · rw [el, List.length_append, ← hT]
    show T + 1 ≤ 700
    omega
  · rw [el, List.length_append, ← hT] at hk
    have hk2 : k < T + 1 := hk
    rw [el, hs, zw_ne (by decide), zw_ne (by decide)]
    by_cases g : k = T
    · rw [g, zw_s, hT, List.getD_eq_getElem?_getD, List.getElem?_append_right (Nat.le_refl _), Nat.sub_self]
      rfl
    · rw [zw_o (by omega), a5 k (by omega), List.getD_eq_getElem?_getD, List.getD_eq_getElem?_getD, List.getElem?_append_left (by omega)]
  · rw [len] at hj
    obtain ⟨c1, c2, c3, c4, c5⟩ := a6 j hj
    rw [ld] at hj
    rw [zof_l (by omega)] at c4
    rw [zof_l (by omega), hs, zw_ne (by decide), zw_ne (by decide), zw_ne (by decide), zw_ne (show 197 ≠ 200 by decide), zw_ne (show 197 ≠ 201 by decide), zw_ne (show 197 ≠ 202 by decide), zw_ne (show 198 ≠ 200 by decide), zw_ne (show 198 ≠ 201 by decide), zw_ne (show 198 ≠ 202 by decide), zw_ne (show 199 ≠ 200 by decide), zw_ne (show 199 ≠ 201 by decide), zw_ne (show 199 ≠ 202 by decide)]
    by_cases g : j = D.length
    · rw [g, zno_r] at c1 c2
      rw [g] at c4
      rw [g]
      have c3' : ∀ w, w < 3 → s 198 (3 * (100 * i + D.length) + w) = zl3 d.2.2.1 w := by
        intro w hw
        have := c3 w hw
        rw [g, zno_r] at this
        exact this
      rw [zno_r]
      refine ⟨c1, c2, c3', c4, ?_⟩
      rw [zw_s]
      show _ = nI (d.2.2.2 ++ [c]).length
      rw [List.length_append, List.length_singleton]
    · rw [zno_l (by omega)] at c1 c2 c3 c5 ⊢
      refine ⟨c1, c2, c3, c4, ?_⟩
      rw [zw_o (by omega), zw_ne (by decide), zw_ne (by decide), c5]
  · rw [hs, zw_ne (by omega), zw_ne (by omega), zw_ne (by omega)]
  · rw [hs, zw_o (by omega), zw_o (by omega), zw_o (by omega)]
  · rw [hs, zw_o (by omega), zw_o (by omega), zw_o (by omega)]
  · rw [hs, zw_o (by omega), zw_o (by omega), zw_o (by omega)]
  · rw [hs, zw_o (by omega), zw_o (by omega), zw_o (by omega)]
  · rw [hs, zw_o (by omega), zw_o (by omega), zw_o (by omega)]
  · rw [hs, zw_o (by omega), zw_o (by omega), zw_o (by omega)]
  · rw [hs, zw_o (by omega), zw_o (by omega), zw_o (by omega)]
  · rw [hs, zw_o (by omega), zw_o (by omega), zw_o (by omega)]
/-- copyInside, into the last node -/
theorem zm199 {i f j : Nat} {s : zS} {D F : List zN} {d : zN} (hi : i < 4) (hf : f < 4) (hif : f ≠ i) (h : zPm i s (D ++ [d])) (hd : d.2.2.2 = []) (hF : zPm f s F) (hj : j < F.length) (ht : (zlt D).length + (zno F j).2.2.2.length ≤ 700) : ∃ s', zf199 179 (nI i) (nI D.length) (nI f) (nI j) s = some s' ∧ zPm i s' (D ++ [(d.1, d.2.1, (zno F j).2.2.1, (zno F j).2.2.2)]) ∧ zFm i s s' := by
  have n100 : ∀ x y, (100 : Int32) * nI x + nI y = nI (100 * x + y) := fun x y => by rw [zn_lit 100, zn_mul, zn_add]
  have n700 : ∀ x y, (700 : Int32) * nI x + nI y = nI (700 * x + y) := fun x y => by rw [zn_lit 700, zn_mul, zn_add]
  have n3 : ∀ x y, (3 : Int32) * nI x + nI y = nI (3 * x + y) := fun x y => by rw [zn_lit 3, zn_mul, zn_add]
  obtain ⟨M, hz⟩ : ∃ M, zfz = M + 10 := ⟨9990, zfz_e⟩
  have hD : D.length < 100 := by have := h.2.1; rw [List.length_append, List.length_singleton] at this; omega
  have hF1 := hF.2.1
  have hF2 := hF.2.2.2.1
  have hle := zof_le hj
  obtain ⟨k1, k2, k3, k4, k5⟩ := hF.2.2.2.2.2 j hj
  obtain ⟨s1, hs1⟩ : ∃ s1, s1 = zw (zw (zw s 198 (3 * (100 * i + D.length)) (zl3 (zno F j).2.2.1 0)) 198 (3 * (100 * i + D.length) + 1) (zl3 (zno F j).2.2.1 1)) 198 (3 * (100 * i + D.length) + 2) (zl3 (zno F j).2.2.1 2) := ⟨_, rfl⟩
  obtain ⟨b1, b2⟩ := zPm_lk h hs1
  have q0 := k3 0 (by decide)
  have q1 := k3 1 (by decide)
  have q2 := k3 2 (by decide)
  have e12 : zf199 179 (nI i) (nI D.length) (nI f) (nI j) s = zf199_55 179 zfz (nI i) (nI f) (nI (100 * f + j)) (nI 0) s1 := by
    unfold zf199
    rw [n100, hz, zf199_12, if_neg (by decide), show (0 : Int32) = nI 0 from rfl, n3, n100, n3, show zrf 179 25 = 198 from rfl, zal_n (by show 3 * (100 * f + j) + 0 < 1200; omega), q0, zas_n (by show 3 * (100 * i + D.length) + 0 < 1200; omega)]
    rw [zf199_12, if_neg (by decide), zn_a1, n3, n100, n3, show zrf 179 25 = 198 from rfl, zal_n (by show 3 * (100 * f + j) + (0 + 1) < 1200; omega), zw_o (by omega), show 3 * (100 * f + j) + (0 + 1) = 3 * (100 * f + j) + 1 from rfl, q1, zas_n (by show 3 * (100 * i + D.length) + (0 + 1) < 1200; omega)]
    rw [zf199_12, if_neg (by decide), zn_a1, n3, n100, n3, show zrf 179 25 = 198 from rfl, zal_n (by show 3 * (100 * f + j) + (0 + 1 + 1) < 1200; omega), zw_o (by omega), zw_o (by omega), show 3 * (100 * f + j) + (0 + 1 + 1) = 3 * (100 * f + j) + 2 from rfl, q2, zas_n (by show 3 * (100 * i + D.length) + (0 + 1 + 1) < 1200; omega)]
    rw [zf199_12, if_pos (by decide), hs1, hz]
    rfl
  have l : ∀ m n e (t : zS) (L : List Int32), e + m = (zno F j).2.2.2.length → m < n → L = (zno F j).2.2.2.take e → zPm i t (D ++ [(d.1, d.2.1, (zno F j).2.2.1, L)]) → zFm i s t → ∃ t', zf199_55 179 n (nI i) (nI f) (nI (100 * f + j)) (nI e) t = some t' ∧ zPm i t' (D ++ [(d.1, d.2.1, (zno F j).2.2.1, (zno F j).2.2.2)]) ∧ zFm i s t' := by
    intro m
    induction m with
    | zero =>
      intro n e t L he hn hL hP hfr
      obtain ⟨n, rfl⟩ : ∃ n', n = n' + 1 := ⟨n - 1, by omega⟩
      have hLf : L = (zno F j).2.2.2 := by rw [hL, List.take_of_length_le (by omega)]
      rw [hLf] at hP
      have hFt := zPm_f hF hif hfr
      refine ⟨t, ?_, hP, hfr⟩
      rw [zf199_55, show zrf 179 27 = 200 from rfl, zal_n (by show 100 * f + j < 400; omega), (hFt.2.2.2.2.2 j hj).2.2.2.2, if_pos ((zn_le (by omega) (by omega)).mpr (by omega))]
    | succ m ih =>
      intro n e t L he hn hL hP hfr
      obtain ⟨n, rfl⟩ : ∃ n', n = n' + 1 := ⟨n - 1, by omega⟩
      have hFt := zPm_f hF hif hfr
      have hLl : L.length = e := by rw [hL, List.length_take]; omega
      have tl : (zlt (D ++ [(d.1, d.2.1, (zno F j).2.2.1, L)])).length = (zlt D).length + e := by
        rw [zlt_app, List.length_append]
        show _ + L.length = _
        rw [hLl]
      obtain ⟨t1, c1, c2, c3⟩ := zm197 (c := (zlt F).getD (zof F j + e) (-1)) hi hP (by omega)
      obtain ⟨t', d1, d2, d3⟩ := ih n (e + 1) t1 (L ++ [(zlt F).getD (zof F j + e) (-1)]) (by omega) (by omega) (by
        rw [List.take_succ_eq_append_getElem (show e < (zno F j).2.2.2.length by omega), ← hL, zlt_at F j e hj (by omega), List.getD_eq_getElem?_getD, List.getElem?_eq_getElem (by omega)]
        rfl) c2 (zFm_t hfr c3)
      refine ⟨t', ?_, d2, d3⟩
      rw [zf199_55, show zrf 179 27 = 200 from rfl, zal_n (by show 100 * f + j < 400; omega), (hFt.2.2.2.2.2 j hj).2.2.2.2, if_neg (fun q => by have := (zn_le (by omega) (by omega)).mp q; omega), show zrf 179 26 = 199 from rfl, zal_n (by show 100 * f + j < 400; omega), (hFt.2.2.2.2.2 j hj).2.2.2.1, n700, zn_add, show zrf 179 29 = 202 from rfl, zal_n (by show 700 * f + zof F j + e < 2800; omega), show 700 * f + zof F j + e = 700 * f + (zof F j + e) by omega, hFt.2.2.2.2.1 _ (by omega), c1, zbv_e, zn_a1, d1]
  rw [e12]
  rw [hd] at b1
  exact l (zno F j).2.2.2.length zfz 0 s1 [] (Nat.zero_add _) (by rw [zfz_e]; omega) rfl b1 b2
/-- copyNode -/
theorem zm198 {i f j : Nat} {a : Option Nat} {s : zS} {D F : List zN} (hi : i < 4) (hf : f < 4) (hif : f ≠ i) (h : zPm i s D) (hn : D.length < 100) (hF : zPm f s F) (hj : j < F.length) (ht : (zlt D).length + (zno F j).2.2.2.length ≤ 700) : ∃ s', zf198 179 (nI i) (nI f) (nI j) (zoi a) s = some s' ∧ zPm i s' (D ++ [((zno F j).1, a, (zno F j).2.2.1, (zno F j).2.2.2)]) ∧ zFm i s s' := by
  have n100 : ∀ x y, (100 : Int32) * nI x + nI y = nI (100 * x + y) := fun x y => by rw [zn_lit 100, zn_mul, zn_add]
  have hF1 := hF.2.1
  obtain ⟨s1, a1, a2, a3⟩ := zm190 (k := (zno F j).1) (a := a) hi h hn
  obtain ⟨s2, b1, b2, b3⟩ := zm199 hi hf hif a2 rfl (zPm_f hF hif a3) hj ht
  refine ⟨s2, ?_, b2, zFm_t a3 b3⟩
  have e1 := a2.1
  rw [List.length_append, List.length_singleton] at e1
  unfold zf198
  rw [n100, show zrf 179 23 = 196 from rfl, zal_n (by show 100 * f + j < 400; omega), (hF.2.2.2.2.2 j hj).1, a1, zbv_e, show zrf 179 22 = 195 from rfl, zal_n (by show i < 4; omega), e1, zn_s1, b1, zbv_e]
