/-! Documents as lists, on the class's side. -/
set_option maxRecDepth 100000
set_option linter.unusedVariables false
/-- a node: kind, above, look, letters -/
abbrev zN : Type := Nat × Option Nat × Option Nat × List Int32
def zno (D : List zN) (j : Nat) : zN := D.getD j (0, none, none, [])
/-- all letters -/
def zlt (D : List zN) : List Int32 := (D.map (fun d => d.2.2.2)).flatten
/-- where the letters of a node begin -/
def zof (D : List zN) (j : Nat) : Nat := (zlt (D.take j)).length
theorem zlt_app {D : List zN} {d : zN} : zlt (D ++ [d]) = zlt D ++ d.2.2.2 := by
  unfold zlt
  rw [List.map_append, List.flatten_append]
  simp
theorem zof_l {D : List zN} {d : zN} {j : Nat} (h : j ≤ D.length) : zof (D ++ [d]) j = zof D j := by
  unfold zof
  rw [List.take_append_of_le_length h]
theorem zof_n {D : List zN} : zof D D.length = (zlt D).length := by
  unfold zof
  rw [List.take_length]
theorem zno_l {D : List zN} {d : zN} {j : Nat} (h : j < D.length) : zno (D ++ [d]) j = zno D j := by
  unfold zno
  rw [List.getD_eq_getElem?_getD, List.getD_eq_getElem?_getD, List.getElem?_append_left h]
theorem zno_r {D : List zN} {d : zN} : zno (D ++ [d]) D.length = d := by
  unfold zno
  rw [List.getD_eq_getElem?_getD, List.getElem?_append_right (Nat.le_refl _), Nat.sub_self]
  rfl
theorem zno_e {D : List zN} {j : Nat} (h : j < D.length) : zno D j = D[j] := by
  unfold zno
  rw [List.getD_eq_getElem?_getD, List.getElem?_eq_getElem h]
  rfl
theorem zof_s {D : List zN} {j : Nat} (h : j < D.length) : zof D (j + 1) = zof D j + (zno D j).2.2.2.length := by
  unfold zof
  rw [List.take_succ_eq_append_getElem h, zlt_app, List.length_append, zno_e h]
theorem zof_m {D : List zN} {i j : Nat} (h : i ≤ j) (hj : j ≤ D.length) : zof D i ≤ zof D j := by
  induction j with
  | zero => rw [Nat.le_zero.mp h]; exact Nat.le_refl _
  | succ j ih =>
    by_cases g : i = j + 1
    · rw [g]; exact Nat.le_refl _
    · have := ih (by omega) (by omega)
      rw [zof_s (by omega)]
      omega
theorem zof_le {D : List zN} {j : Nat} (h : j < D.length) : zof D j + (zno D j).2.2.2.length ≤ (zlt D).length := by
  rw [← zof_s h, ← zof_n]
  exact zof_m (by omega) (Nat.le_refl _)
/-- the letters of a node stand among all -/
theorem zlt_at : ∀ (D : List zN) (j k : Nat), j < D.length → k < (zno D j).2.2.2.length → (zlt D).getD (zof D j + k) (-1) = (zno D j).2.2.2.getD k (-1) := by
  intro D
  induction D with
  | nil => intro j k h; exact absurd h (Nat.not_lt_zero _)
  | cons d D ih =>
    intro j k h hk
    have e : zlt (d :: D) = d.2.2.2 ++ zlt D := rfl
    cases j with
    | zero =>
      have z0 : zof (d :: D) 0 = 0 := rfl
      have hk2 : k < d.2.2.2.length := hk
      rw [e, z0, Nat.zero_add, List.getD_eq_getElem?_getD, List.getElem?_append_left hk2, ← List.getD_eq_getElem?_getD]
      rfl
    | succ j =>
      have z1 : zof (d :: D) (j + 1) = d.2.2.2.length + zof D j := by
        unfold zof
        rw [List.take_succ_cons]
        show (d.2.2.2 ++ zlt (D.take j)).length = _
        rw [List.length_append]
      rw [List.length_cons] at h
      have := ih j k (by omega) hk
      rw [e, z1, List.getD_eq_getElem?_getD, List.getElem?_append_right (by omega), show d.2.2.2.length + zof D j + k - d.2.2.2.length = zof D j + k by omega, ← List.getD_eq_getElem?_getD, this]
      rfl
/-- the papers -/
def zQq (q : Nat) : Prop := q = 4 ∨ q = 12 ∨ q = 20 ∨ q = 29
theorem zQq_e {q : Nat} (h : zQq q) : zrf q 0 = q + 1 ∧ zrf q 1 = q + 2 ∧ zrf q 2 = q + 3 ∧ zrf q 3 = q + 4 ∧ zrf q 4 = q + 5 ∧ zrf q 5 = q + 6 ∧ zrf (q + 6) 0 = q + 7 ∧ zca (q + 2) = zca (q + 1) ∧ zca (q + 3) = zca (q + 1) ∧ zca (q + 4) = zca (q + 1) ∧ zca (q + 5) = zca (q + 1) ∧ zca (q + 1) ≤ 80 ∧ zca (q + 7) ≤ 600 := by
  rcases h with rfl | rfl | rfl | rfl <;> decide
/-- the paper at q is the document D -/
def zPc (q : Nat) (s : zS) (D : List zN) : Prop := s q 6 = nI D.length ∧ D.length ≤ zca (q + 1) ∧ zRow (q + 6) s (zlt D) ∧ ∀ j, j < D.length → s (q + 1) j = nI (zno D j).1 ∧ s (q + 2) j = zoi (zno D j).2.1 ∧ s (q + 3) j = zoi (zno D j).2.2.1 ∧ s (q + 4) j = nI (zof D j) ∧ s (q + 5) j = nI (zno D j).2.2.2.length
def zFp (q : Nat) (s s' : zS) : Prop := ∀ p, p < q ∨ q + 7 < p → s' p = s p
theorem zFp_t {q : Nat} {s s1 s2 : zS} (h1 : zFp q s s1) (h2 : zFp q s1 s2) : zFp q s s2 := fun p h => (h2 p h).trans (h1 p h)
theorem zPc_f {q : Nat} {s s' : zS} {D : List zN} (hQ : zQq q) (h : zPc q s D) (h1 : ∀ p, q ≤ p → p ≤ q + 7 → s' p = s p) : zPc q s' D := by
  obtain ⟨r0, r1, r2, r3, r4, r5, r6, _⟩ := zQq_e hQ
  unfold zPc zRow
  rw [r6, h1 q (Nat.le_refl _) (by omega), h1 (q + 1) (by omega) (by omega), h1 (q + 2) (by omega) (by omega), h1 (q + 3) (by omega) (by omega), h1 (q + 4) (by omega) (by omega), h1 (q + 5) (by omega) (by omega), h1 (q + 6) (by omega) (by omega), h1 (q + 7) (by omega) (by omega)]
  have := h
  unfold zPc zRow at this
  rw [r6] at this
  exact this
/-- clear -/
theorem z71 {q : Nat} {s : zS} (hQ : zQq q) : ∃ s', zf71 q s = some s' ∧ zPc q s' [] ∧ zFp q s s' := by
  obtain ⟨r0, r1, r2, r3, r4, r5, r6, _⟩ := zQq_e hQ
  refine ⟨zw (zw (zw s q 6 0) (q + 6) 1 0) (q + 6) 2 0, ?_, ⟨?_, Nat.zero_le _, ⟨?_, Nat.zero_le _, fun j hj => absurd hj (Nat.not_lt_zero _)⟩, fun j hj => absurd hj (Nat.not_lt_zero _)⟩, fun p hp => ?_⟩
  · unfold zf71
    rw [r5]
    rfl
  · rw [zw_ne (by omega), zw_ne (by omega), zw_s]
    rfl
  · rw [zw_o (Or.inr (by decide)), zw_s]
    rfl
  · rw [zw_ne (by omega), zw_ne (by omega), zw_ne (by omega)]
/-- add -/
theorem z75 {q k : Nat} {a l : Option Nat} {s : zS} {D : List zN} (hQ : zQq q) (h : zPc q s D) (hn : D.length < zca (q + 1)) : ∃ s', zf75 q (nI k) (zoi a) (zoi l) s = some (1, s') ∧ zPc q s' (D ++ [(k, a, l, [])]) ∧ zFp q s s' := by
  obtain ⟨r0, r1, r2, r3, r4, r5, r6, c2, c3, c4, c5, c1, c7⟩ := zQq_e hQ
  obtain ⟨h1, h2, h3, h4⟩ := h
  have e6 : s (q + 6) 1 = nI (zlt D).length := h3.1
  obtain ⟨s', hs⟩ : ∃ s', s' = zw (zw (zw (zw (zw (zw s (q + 1) D.length (nI k)) (q + 2) D.length (zoi a)) (q + 3) D.length (zoi l)) (q + 4) D.length (nI (zlt D).length)) (q + 5) D.length 0) q 6 (nI (D.length + 1)) := ⟨_, rfl⟩
  refine ⟨s', ?_, ⟨?_, by rw [List.length_append, List.length_singleton]; omega, ?_, ?_⟩, fun p hp => ?_⟩
  · unfold zf75
    rw [r0, r1, r2, r3, r4, r5]
    simp only [zgf_e, zpf_e]
    rw [h1, if_pos ((zn_lt (by omega) (by omega)).mpr hn), zas_n hn]
    rw [zw_ne (show q ≠ q + 1 by omega), h1, zas_n (by omega)]
    rw [zw_ne (show q ≠ q + 2 by omega), zw_ne (show q ≠ q + 1 by omega), h1, zas_n (by omega)]
    rw [zw_ne (show q ≠ q + 3 by omega), zw_ne (show q ≠ q + 2 by omega), zw_ne (show q ≠ q + 1 by omega), h1]
    rw [zw_ne (show q + 6 ≠ q + 3 by omega), zw_ne (show q + 6 ≠ q + 2 by omega), zw_ne (show q + 6 ≠ q + 1 by omega), e6, zas_n (by omega)]
    rw [zw_ne (show q ≠ q + 4 by omega), zw_ne (show q ≠ q + 3 by omega), zw_ne (show q ≠ q + 2 by omega), zw_ne (show q ≠ q + 1 by omega), h1, zas_n (by omega)]
    rw [zw_ne (show q ≠ q + 5 by omega), zw_ne (show q ≠ q + 4 by omega), zw_ne (show q ≠ q + 3 by omega), zw_ne (show q ≠ q + 2 by omega), zw_ne (show q ≠ q + 1 by omega), h1, zn_a1, ← hs]
    rfl
  · rw [hs, zw_s, List.length_append, List.length_singleton]
  · have : zlt (D ++ [(k, a, l, [])]) = zlt D := by rw [zlt_app, List.append_nil]
    rw [this]
    refine zRow_f h3 ?_ ?_
    · rw [hs, zw_ne (by omega), zw_ne (by omega), zw_ne (by omega), zw_ne (by omega), zw_ne (by omega), zw_ne (by omega)]
    · rw [r6, hs, zw_ne (by omega), zw_ne (by omega), zw_ne (by omega), zw_ne (by omega), zw_ne (by omega), zw_ne (by omega)]
  · intro j hj
    rw [List.length_append, List.length_singleton] at hj
    by_cases g : j = D.length
    · rw [g, zno_r, zof_l (Nat.le_refl _), zof_n, hs]
      refine ⟨?_, ?_, ?_, ?_, ?_⟩
      · rw [zw_ne (by omega), zw_ne (by omega), zw_ne (by omega), zw_ne (by omega), zw_ne (by omega), zw_s]
      · rw [zw_ne (by omega), zw_ne (by omega), zw_ne (by omega), zw_ne (by omega), zw_s]
      · rw [zw_ne (by omega), zw_ne (by omega), zw_ne (by omega), zw_s]
      · rw [zw_ne (by omega), zw_ne (by omega), zw_s]
      · rw [zw_ne (by omega), zw_s]
        rfl
    · rw [zno_l (by omega), zof_l (by omega), hs]
      obtain ⟨g1, g2, g3, g4, g5⟩ := h4 j (by omega)
      refine ⟨?_, ?_, ?_, ?_, ?_⟩
      · rw [zw_ne (by omega), zw_ne (by omega), zw_ne (by omega), zw_ne (by omega), zw_ne (by omega), zw_o (Or.inr g), g1]
      · rw [zw_ne (by omega), zw_ne (by omega), zw_ne (by omega), zw_ne (by omega), zw_o (Or.inr g), zw_ne (by omega), g2]
      · rw [zw_ne (by omega), zw_ne (by omega), zw_ne (by omega), zw_o (Or.inr g), zw_ne (by omega), zw_ne (by omega), g3]
      · rw [zw_ne (by omega), zw_ne (by omega), zw_o (Or.inr g), zw_ne (by omega), zw_ne (by omega), zw_ne (by omega), g4]
      · rw [zw_ne (by omega), zw_o (Or.inr g), zw_ne (by omega), zw_ne (by omega), zw_ne (by omega), zw_ne (by omega), g5]
  · rw [hs, zw_ne (by omega), zw_ne (by omega), zw_ne (by omega), zw_ne (by omega), zw_ne (by omega), zw_ne (by omega)]
theorem z75_full {q : Nat} {k a l : Int32} {s : zS} {D : List zN} (hQ : zQq q) (h : zPc q s D) (hn : D.length = zca (q + 1)) : zf75 q k a l s = some (0, s) := by
  obtain ⟨r0, r1, r2, r3, r4, r5, r6, c2, c3, c4, c5, c1, c7⟩ := zQq_e hQ
  unfold zf75
  rw [r0, zgf_e, h.1, if_neg (fun e => by have := (zn_lt (by omega) (by omega)).mp e; omega)]
  rfl
/-- the letter c at the end of the row, and the size of the last node as it then is -/
theorem zPc_put {q : Nat} {s s1 s2 : zS} {c : Int32} {D : List zN} {d : zN} (hQ : zQq q) (h : zPc q s (D ++ [d])) (ht : (zlt (D ++ [d])).length < zca (q + 7)) (e1 : s1 = zw (zw s (q + 7) (zlt (D ++ [d])).length c) (q + 6) 1 (nI ((zlt (D ++ [d])).length + 1))) (e2 : s2 = zw s1 (q + 5) D.length (nI (d.2.2.2.length + 1))) : zPc q s2 (D ++ [(d.1, d.2.1, d.2.2.1, d.2.2.2 ++ [c])]) ∧ zFp q s s2 := by
  obtain ⟨r0, r1, r2, r3, r4, r5, r6, c2, c3, c4, c5, c1, c7⟩ := zQq_e hQ
  obtain ⟨h1, h2, h3, h4⟩ := h
  have hz := z13 (c := c) h3 (by omega) (by rw [r6]; exact ht)
  rw [r6, ← e1] at hz
  have el : zlt (D ++ [(d.1, d.2.1, d.2.2.1, d.2.2.2 ++ [c])]) = zlt (D ++ [d]) ++ [c] := by
    rw [zlt_app, zlt_app, List.append_assoc]
  have e5 : ∀ p, p ≠ q + 5 → s2 p = s1 p := fun p hp => by rw [e2, zw_ne hp]
  have e6 : ∀ p, p ≠ q + 6 → p ≠ q + 7 → s1 p = s p := fun p hp hp' => by rw [e1, zw_ne hp, zw_ne hp']
  have len : (D ++ [(d.1, d.2.1, d.2.2.1, d.2.2.2 ++ [c])]).length = (D ++ [d]).length := by rw [List.length_append, List.length_append]; rfl
  refine ⟨⟨?_, by rw [len]; exact h2, ?_, ?_⟩, fun p hp => by rw [e5 p (by omega), e6 p (by omega) (by omega)]⟩
  · rw [e5 q (by omega), e6 q (by omega) (by omega), len, h1]
  · rw [el]
    exact zRow_f hz.2 (e5 _ (by omega)) (by rw [r6]; exact e5 _ (by omega))
  · intro j hj
    rw [len] at hj
    obtain ⟨g1, g2, g3, g4, g5⟩ := h4 j hj
    rw [List.length_append, List.length_singleton] at hj
    rw [e5 (q + 1) (by omega), e6 (q + 1) (by omega) (by omega), e5 (q + 2) (by omega), e6 (q + 2) (by omega) (by omega), e5 (q + 3) (by omega), e6 (q + 3) (by omega) (by omega), e5 (q + 4) (by omega), e6 (q + 4) (by omega) (by omega), zof_l (by omega)]
    rw [zof_l (by omega)] at g4
    by_cases g : j = D.length
    · rw [g, zno_r] at g1 g2 g3
      rw [g] at g4
      rw [g, zno_r]
      refine ⟨g1, g2, g3, g4, ?_⟩
      rw [e2, zw_s]
      show _ = nI (d.2.2.2 ++ [c]).length
      rw [List.length_append, List.length_singleton]
    · rw [zno_l (by omega)] at g1 g2 g3 g5 ⊢
      refine ⟨g1, g2, g3, g4, ?_⟩
      rw [e2, zw_o (Or.inr g), e6 _ (by omega) (by omega)]
      exact g5
/-- addSign -/
theorem z78 {q : Nat} {s : zS} {c : Int32} {D : List zN} {d : zN} (hQ : zQq q) (h : zPc q s (D ++ [d])) (ht : (zlt (D ++ [d])).length < zca (q + 7)) : ∃ s', zf78 q c s = some s' ∧ zPc q s' (D ++ [(d.1, d.2.1, d.2.2.1, d.2.2.2 ++ [c])]) ∧ zFp q s s' := by
  obtain ⟨r0, r1, r2, r3, r4, r5, r6, c2, c3, c4, c5, c1, c7⟩ := zQq_e hQ
  have h' := h
  obtain ⟨h1, h2, h3, h4⟩ := h
  rw [List.length_append, List.length_singleton] at h1 h2
  obtain ⟨s1, e1⟩ : ∃ s1, s1 = zw (zw s (q + 7) (zlt (D ++ [d])).length c) (q + 6) 1 (nI ((zlt (D ++ [d])).length + 1)) := ⟨_, rfl⟩
  have hz := (z13 (c := c) h3 (by omega) (by rw [r6]; exact ht)).1
  rw [r6, ← e1] at hz
  obtain ⟨g1, g2, g3, g4, g5⟩ := h4 D.length (by rw [List.length_append, List.length_singleton]; omega)
  rw [zof_l (Nat.le_refl _), zof_n] at g4
  obtain ⟨k1, k2⟩ := zPc_put hQ h' ht e1 rfl
  refine ⟨_, ?_, k1, k2⟩
  unfold zf78
  have f6 : s1 q 6 = nI (D.length + 1) := by rw [e1, zw_ne (by omega), zw_ne (by omega), h1]
  have f7 : s1 (q + 6) 1 = nI ((zlt (D ++ [d])).length + 1) := by rw [e1, zw_s]
  have f4 : s1 (q + 4) D.length = nI (zlt D).length := by rw [e1, zw_ne (by omega), zw_ne (by omega), g4]
  rw [r3, r4, r5, zgf_e, h1, if_neg (fun e => by have := (zn_leL (k := 0) (by omega) (by decide)).mp e; omega), hz, zbv_e, zgf_e, zgf_e, zgf_e, f6, f7, zn_s1, zal_n (by omega), f4, zn_sub (by rw [zlt_app, List.length_append]; omega), zas_n (by omega)]
  congr 3
  rw [zlt_app, List.length_append]
  omega
/-- endsInRun -/
theorem z77 {q l : Nat} {s : zS} {D : List zN} {d : zN} (hQ : zQq q) (h : zPc q s (D ++ [d])) (hk : d.1 < 100) (hl : l < 2000000) (hd : ∀ x, d.2.2.1 = some x → x < 2000000) : zf77 q (nI l) s = some (if d.1 = 2 ∧ d.2.2.1 = some l then 1 else 0, s) := by
  obtain ⟨r0, r1, r2, r3, r4, r5, r6, c2, c3, c4, c5, c1, c7⟩ := zQq_e hQ
  obtain ⟨h1, h2, h3, h4⟩ := h
  rw [List.length_append, List.length_singleton] at h1 h2
  obtain ⟨g1, g2, g3, g4, g5⟩ := h4 D.length (by rw [List.length_append, List.length_singleton]; omega)
  rw [zno_r] at g1 g3
  unfold zf77
  rw [r0, r2, zgf_e, zgf_e, zgf_e, h1, if_neg (fun e => by have := (zn_leL (k := 0) (by omega) (by decide)).mp e; omega), zn_s1, zal_n (by omega), zal_n (by omega), g1, g3]
  by_cases e1 : d.1 = 2
  · rw [if_neg (show ¬ ¬ nI d.1 = 2 from fun e => e ((zn_eqL (k := 2) (by omega) (by decide)).mpr e1))]
    by_cases e2 : d.2.2.1 = some l
    · rw [e2, if_neg (show ¬ ¬ zoi (some l) = nI l from fun e => e rfl), if_pos ⟨e1, rfl⟩]
      rfl
    · rw [if_pos (show ¬ zoi d.2.2.1 = nI l from fun e => by
        cases hc : d.2.2.1 with
        | none => rw [hc] at e; exact zn_nm (by omega) e.symm
        | some x =>
          rw [hc] at e
          have := hd x hc
          have := (zn_eq (by omega) (by omega)).mp (show nI x = nI l from e)
          rw [hc, this] at e2
          exact e2 rfl), if_neg (fun e => e2 e.2)]
      rfl
  · rw [if_pos (show ¬ nI d.1 = 2 from fun e => e1 ((zn_eqL (k := 2) (by omega) (by decide)).mp e)), if_neg (fun e => e1 e.1)]
    rfl
theorem z77_nil {q : Nat} {l : Int32} {s : zS} (h : s q 6 = nI 0) : zf77 q l s = some (0, s) := by
  unfold zf77
  rw [zgf_e, h]
  exact if_pos (by decide)
/-- addCopy -/
theorem z80 {q r j : Nat} {a : Option Nat} {s : zS} {D F : List zN} (hQ : zQq q) (hR : zQq r) (hqr : q ≠ r) (h : zPc q s D) (hF : zPc r s F) (hj : j < F.length) (hn : D.length < zca (q + 1)) (ht : (zlt D).length + (zno F j).2.2.2.length ≤ zca (q + 7)) : ∃ s', zf80 q r (nI j) (zoi a) s = some s' ∧ zPc q s' (D ++ [((zno F j).1, a, (zno F j).2.2.1, (zno F j).2.2.2)]) ∧ zFp q s s' := by
  obtain ⟨r0, r1, r2, r3, r4, r5, r6, c2, c3, c4, c5, c1, c7⟩ := zQq_e hQ
  obtain ⟨p0, p1, p2, p3, p4, p5, p6, b2, b3, b4, b5, b1, b7⟩ := zQq_e hR
  have hdis : r + 7 < q ∨ q + 7 < r := by
    rcases hQ with rfl | rfl | rfl | rfl <;> rcases hR with rfl | rfl | rfl | rfl <;> first | exact absurd rfl hqr | omega
  obtain ⟨k1, k2, k3, k4, k5⟩ := hF.2.2.2 j hj
  have hle := zof_le hj
  have hF2 := hF.2.1
  have hF3 := hF.2.2.1.2.1
  rw [p6] at hF3
  obtain ⟨s1, a1, a2, a3⟩ := z75 (k := (zno F j).1) (a := a) (l := (zno F j).2.2.1) hQ h hn
  have l : ∀ m n i (t : zS) (L : List Int32), i + m = (zno F j).2.2.2.length → m < n → L = (zno F j).2.2.2.take i → (∀ p, q + 5 = p ∨ zPc q t (D ++ [((zno F j).1, a, (zno F j).2.2.1, L)]) → True) → (∃ t0, zPc q t0 (D ++ [((zno F j).1, a, (zno F j).2.2.1, L)]) ∧ t0 = zw t (q + 5) D.length (nI i)) → zFp q s t → ∃ t', zf80_23 q r n (nI j) (nI i) t = some t' ∧ zPc q t' (D ++ [((zno F j).1, a, (zno F j).2.2.1, (zno F j).2.2.2)]) ∧ zFp q s t' := by
    intro m
    induction m with
    | zero =>
      intro n i t L hi hn' hL _ hP hf
      obtain ⟨n, rfl⟩ : ∃ n', n = n' + 1 := ⟨n - 1, by omega⟩
      obtain ⟨t0, hP, ht0⟩ := hP
      have e5 : t (r + 5) j = nI (zno F j).2.2.2.length := by rw [hf (r + 5) (by omega), k5]
      have hLf : L = (zno F j).2.2.2 := by rw [hL, List.take_of_length_le (by omega)]
      rw [hLf] at hP
      have hP' := hP
      obtain ⟨h1, h2, h3, h4⟩ := hP
      rw [List.length_append, List.length_singleton] at h1 h2
      obtain ⟨g1, g2, g3, g4, g5⟩ := h4 D.length (by rw [List.length_append, List.length_singleton]; omega)
      rw [zof_l (Nat.le_refl _), zof_n] at g4
      have f6 : t q 6 = nI (D.length + 1) := by rw [← h1, ht0, zw_ne (by omega)]
      have f7 : t (q + 6) 1 = nI ((zlt D).length + (zno F j).2.2.2.length) := by
        have : t0 (q + 6) 1 = t (q + 6) 1 := by rw [ht0, zw_ne (by omega)]
        rw [← this, h3.1, zlt_app, List.length_append]
      have f4 : t (q + 4) D.length = nI (zlt D).length := by rw [← g4, ht0, zw_ne (by omega)]
      refine ⟨t0, ?_, hP', fun p hp => by rw [ht0, zw_ne (by omega), hf p hp]⟩
      rw [zf80_23, p4, zal_n (by omega), e5, if_pos ((zn_le (by omega) (by omega)).mpr (by omega)), r3, r4, r5, zgf_e, zgf_e, zgf_e, f6, f7, zn_s1, zal_n (by omega), f4, zn_sub (by omega), zas_n (by omega), ht0]
      congr 3
      omega
    | succ m ih =>
      intro n i t L hi hn' hL _ hP hf
      obtain ⟨n, rfl⟩ : ∃ n', n = n' + 1 := ⟨n - 1, by omega⟩
      obtain ⟨t0, hP, ht0⟩ := hP
      have e5 : t (r + 5) j = nI (zno F j).2.2.2.length := by rw [hf (r + 5) (by omega), k5]
      have e4 : t (r + 4) j = nI (zof F j) := by rw [hf (r + 4) (by omega), k4]
      have hFt : zRow (r + 6) t (zlt F) := zRow_f hF.2.2.1 (hf _ (by omega)) (by rw [p6]; exact hf _ (by omega))
      have hLl : L.length = i := by rw [hL, List.length_take]; omega
      have row0 : zRow (q + 6) t (zlt (D ++ [((zno F j).1, a, (zno F j).2.2.1, L)])) := by
        refine zRow_f hP.2.2.1 ?_ ?_
        · rw [ht0, zw_ne (by omega)]
        · rw [r6, ht0, zw_ne (by omega)]
      have tl : (zlt (D ++ [((zno F j).1, a, (zno F j).2.2.1, L)])).length = (zlt D).length + i := by
        rw [zlt_app, List.length_append]
        show _ + L.length = _
        rw [hLl]
      have hz := (z13 (c := (zlt F).getD (zof F j + i) (-1)) row0 (by omega) (by rw [r6]; omega)).1
      rw [r6] at hz
      obtain ⟨k1', k2'⟩ := zPc_put (c := (zlt F).getD (zof F j + i) (-1)) hQ hP (by omega) rfl rfl
      rw [zf80_23, p4, zal_n (by omega), e5, if_neg (fun e => by have := (zn_le (by omega) (by omega)).mp e; omega), p3, p5, r5, zal_n (by omega), e4, zn_add, z18 hFt (by omega), zbi_e, hz, zbv_e, zn_a1]
      refine ih n (i + 1) _ (L ++ [(zlt F).getD (zof F j + i) (-1)]) (by omega) (by omega) ?_ (fun _ _ => trivial) ⟨_, k1', ?_⟩ ?_
      · rw [List.take_succ_eq_append_getElem (by omega), ← hL, zlt_at F j i hj (by omega), List.getD_eq_getElem?_getD, List.getElem?_eq_getElem (by omega)]
        rfl
      · rw [ht0]
        show zw (zw (zw (zw t (q + 5) D.length (nI i)) (q + 7) _ _) (q + 6) 1 _) (q + 5) D.length (nI (L.length + 1)) = _
        rw [hLl]
        funext p f
        by_cases g1 : p = q + 5
        · by_cases g2 : f = D.length
          · rw [g1, g2, zw_s, zw_s]
          · rw [zw_o (Or.inr g2), zw_o (Or.inl (by omega)), zw_o (Or.inl (by omega)), zw_o (Or.inr g2), zw_o (Or.inr g2), zw_o (Or.inl (by omega)), zw_o (Or.inl (by omega))]
        · rw [zw_o (Or.inl g1), zw_o (Or.inl g1)]
          by_cases g3 : p = q + 6
          · by_cases g4 : f = 1
            · rw [g3, g4, zw_s, zw_s]
            · rw [zw_o (Or.inr g4), zw_o (Or.inr g4), zw_o (Or.inl (by omega)), zw_o (Or.inl (by omega)), zw_o (Or.inl (by omega))]
          · rw [zw_o (Or.inl g3), zw_o (Or.inl g3)]
            by_cases g5 : p = q + 7
            · by_cases g6 : f = (zlt (D ++ [((zno F j).1, a, (zno F j).2.2.1, L)])).length
              · rw [g5, g6, zw_s, zw_s]
              · rw [zw_o (Or.inr g6), zw_o (Or.inr g6), zw_o (Or.inl (by omega))]
            · rw [zw_o (Or.inl g5), zw_o (Or.inl g5), zw_o (Or.inl g1)]
      · intro p hp
        rw [zw_ne (by omega), zw_ne (by omega), hf p hp]
  unfold zf80
  rw [p0, p2, zal_n (by omega), k1, zal_n (by omega), k3, a1, zbi_e, if_neg (by decide)]
  refine l (zno F j).2.2.2.length zfz 0 s1 [] (Nat.zero_add _) (by rw [zfz_e]; omega) rfl (fun _ _ => trivial) ⟨s1, a2, ?_⟩ a3
  funext p f
  by_cases g1 : p = q + 5 ∧ f = D.length
  · have g5 := (a2.2.2.2 D.length (by rw [List.length_append, List.length_singleton]; omega)).2.2.2.2
    rw [zno_r] at g5
    rw [g1.1, g1.2, zw_s]
    exact g5
  · rw [zw_o (by omega)]
/-- copyFrom -/
theorem z79 {q r : Nat} {s : zS} {F : List zN} (hQ : zQq q) (hR : zQq r) (hqr : q ≠ r) (hF : zPc r s F) (hn : F.length ≤ zca (q + 1)) (ht : (zlt F).length ≤ zca (q + 7)) : ∃ s', zf79 q r s = some s' ∧ zPc q s' F ∧ zFp q s s' := by
  obtain ⟨p0, p1, p2, p3, p4, p5, p6, b2, b3, b4, b5, b1, b7⟩ := zQq_e hR
  have hdis : r + 7 < q ∨ q + 7 < r := by
    rcases hQ with rfl | rfl | rfl | rfl <;> rcases hR with rfl | rfl | rfl | rfl <;> first | exact absurd rfl hqr | omega
  have hF2 := hF.2.1
  obtain ⟨s1, a1, a2, a3⟩ := z71 (s := s) hQ
  have l : ∀ m n i (t : zS), i + m = F.length → m < n → zPc q t (F.take i) → zFp q s t → ∃ t', zf79_6 q r n (nI i) t = some t' ∧ zPc q t' F ∧ zFp q s t' := by
    intro m
    induction m with
    | zero =>
      intro n i t hi hn' hP hf
      obtain ⟨n, rfl⟩ : ∃ n', n = n' + 1 := ⟨n - 1, by omega⟩
      rw [List.take_of_length_le (by omega)] at hP
      refine ⟨t, ?_, hP, hf⟩
      rw [zf79_6, zgf_e, hf r (by omega), hF.1, if_pos ((zn_le (a := F.length) (b := i) (by omega) (by omega)).mpr (by omega))]
    | succ m ih =>
      intro n i t hi hn' hP hf
      obtain ⟨n, rfl⟩ : ∃ n', n = n' + 1 := ⟨n - 1, by omega⟩
      have hFt : zPc r t F := zPc_f hR hF (fun p a b => hf p (by omega))
      have hof : (zlt (F.take i)).length = zof F i := rfl
      have hle := zof_le (D := F) (j := i) (by omega)
      obtain ⟨t1, c1, c2, c3⟩ := z80 (j := i) (a := (zno F i).2.1) hQ hR hqr hP hFt (by omega) (by rw [List.length_take]; omega) (by rw [hof]; omega)
      obtain ⟨t', d1, d2, d3⟩ := ih n (i + 1) t1 (by omega) (by omega) (by
        rw [List.take_succ_eq_append_getElem (show i < F.length by omega), ← zno_e (show i < F.length by omega)]
        exact c2) (zFp_t hf c3)
      refine ⟨t', ?_, d2, d3⟩
      rw [zf79_6, zgf_e, hFt.1, if_neg (fun e => by have := (zn_le (a := F.length) (b := i) (by omega) (by omega)).mp e; omega), p1, zal_n (show i < zca (r + 2) by omega), (hFt.2.2.2 i (by omega)).2.1, c1, zbv_e, zn_a1, d1]
  obtain ⟨t', d1, d2, d3⟩ := l F.length zfz 0 s1 (Nat.zero_add _) (by rw [zfz_e]; omega) a2 a3
  refine ⟨t', ?_, d2, d3⟩
  unfold zf79
  rw [a1]
  exact d1
