/-! read, the elements on the class's side: an attribute is taken. -/
set_option maxRecDepth 100000
set_option linter.unusedVariables false
theorem zEl_fr {a : Nat} {s s' : zS} {E : List zE} (h6 : s' a 6 = s a 6) (h9 : s' a 9 = s a 9) (hq : ∀ q, a + 1 ≤ q → q ≤ a + 7 → s' q = s q) (h : zEl a s E) : zEl a s' E := by
  obtain ⟨h1, h2, h3⟩ := h
  refine ⟨h6.trans h1, h9.trans h2, fun e he => ?_⟩
  unfold zEl1
  rw [hq (a + 1) (by omega) (by omega), hq (a + 2) (by omega) (by omega), hq (a + 3) (by omega) (by omega), hq (a + 4) (by omega) (by omega), hq (a + 5) (by omega) (by omega), hq (a + 6) (by omega) (by omega), hq (a + 7) (by omega) (by omega)]
  exact h3 e he
theorem zgetE_l {E : List zE} {q : zE} {e : Nat} (h : e < E.length) : (E ++ [q]).getD e (0, 0, 0, []) = E.getD e (0, 0, 0, []) := by
  rw [List.getD_eq_getElem?_getD, List.getD_eq_getElem?_getD, List.getElem?_append_left h]
theorem zgetE_r {E : List zE} {q : zE} : (E ++ [q]).getD E.length (0, 0, 0, []) = q := by
  rw [List.getD_eq_getElem?_getD, List.getElem?_append_right (Nat.le_refl _), Nat.sub_self]
  rfl
theorem zgetA_l {A : List (Nat × Nat)} {q : Nat × Nat} {e : Nat} (h : e < A.length) : (A ++ [q]).getD e (0, 0) = A.getD e (0, 0) := by
  rw [List.getD_eq_getElem?_getD, List.getD_eq_getElem?_getD, List.getElem?_append_left h]
theorem zgetA_r {A : List (Nat × Nat)} {q : Nat × Nat} : (A ++ [q]).getD A.length (0, 0) = q := by
  rw [List.getD_eq_getElem?_getD, List.getElem?_append_right (Nat.le_refl _), Nat.sub_self]
  rfl
/-- an attribute more for the last element -/
theorem zEl_add {a n p m : Nat} {s s' : zS} {E : List zE} {k pa : Int32} {b : Nat} {A : List (Nat × Nat)} (h : zEl a s (E ++ [(k, b, pa, A)])) (hn : n = zfa E E.length + A.length) (h6 : s' a 6 = s a 6) (h9 : s' a 9 = nI (n + 1)) (hq : ∀ q, a + 1 ≤ q → q ≤ a + 4 → s' q = s q)
    (h5 : s' (a + 5) E.length = nI (n + 1) ∧ ∀ j, j ≠ E.length → s' (a + 5) j = s (a + 5) j) (h7 : s' (a + 6) n = nI p ∧ ∀ j, j ≠ n → s' (a + 6) j = s (a + 6) j) (h8 : s' (a + 7) n = nI m ∧ ∀ j, j ≠ n → s' (a + 7) j = s (a + 7) j) : zEl a s' (E ++ [(k, b, pa, A ++ [(p, m)])]) := by
  obtain ⟨g1, g2, g3⟩ := h
  refine ⟨?_, ?_, fun e he => ?_⟩
  · rw [h6, g1, List.length_append, List.length_append]
    rfl
  · rw [h9, List.length_append, List.length_singleton, zfa_last, List.length_append, List.length_singleton, hn]
    rfl
  · rw [List.length_append, List.length_singleton] at he
    by_cases e0 : e = E.length
    · subst e0
      have g4 := g3 E.length (by rw [List.length_append, List.length_singleton]; omega)
      rw [zgetE_r, zfa_app (Nat.le_refl _)] at g4 ⊢
      obtain ⟨k1, k2, k3, k4, k5, k6⟩ := g4
      refine ⟨?_, ?_, ?_, ?_, ?_, fun i hi => ?_⟩
      · rw [hq (a + 1) (by omega) (by omega)]; exact k1
      · rw [hq (a + 2) (by omega) (by omega)]; exact k2
      · rw [hq (a + 3) (by omega) (by omega)]; exact k3
      · rw [hq (a + 4) (by omega) (by omega)]; exact k4
      · rw [h5.1, List.length_append, List.length_singleton, hn]
        rfl
      · rw [List.length_append, List.length_singleton] at hi
        by_cases e1 : i = A.length
        · subst e1
          rw [zgetA_r, ← hn]
          exact ⟨h7.1, h8.1⟩
        · have hi2 : i < A.length := by omega
          rw [zgetA_l hi2, h7.2 _ (by omega), h8.2 _ (by omega)]
          exact k6 i hi2
    · have e1 : e < E.length := by omega
      have g4 := g3 e (by rw [List.length_append, List.length_singleton]; omega)
      have hle := zfa_le e1
      rw [zgetE_l e1, zfa_app (by omega)] at g4 ⊢
      obtain ⟨k1, k2, k3, k4, k5, k6⟩ := g4
      refine ⟨?_, ?_, ?_, ?_, ?_, fun i hi => ?_⟩
      · rw [hq (a + 1) (by omega) (by omega)]; exact k1
      · rw [hq (a + 2) (by omega) (by omega)]; exact k2
      · rw [hq (a + 3) (by omega) (by omega)]; exact k3
      · rw [hq (a + 4) (by omega) (by omega)]; exact k4
      · rw [h5.2 e e0]; exact k5
      · rw [h7.2 _ (by omega), h8.2 _ (by omega)]
        exact k6 i hi
theorem zs45 {a r p : Nat} {s : zS} {C : List Int32} {E : List zE} {k pa : Int32} {b : Nat} {A : List (Nat × Nat)} (hB : zB a r) (hC : zRow r s C) (hE : zEl a s (E ++ [(k, b, pa, A)])) (hb : zEb (E ++ [(k, b, pa, A)])) (hp : s a 11 = nI p) (h5 : 5 * (zfa E E.length + A.length) ≤ p) (hpl : p < 300) :
    (∀ f, zat1 C (A.map fun q => C.getD q.1 (-1)) p = .inl f → ∃ s', zf45 a (nI E.length) s = some (0, s') ∧ s' a 11 = nI f) ∧
    (∀ m, zat1 C (A.map fun q => C.getD q.1 (-1)) p = .inr m → ∃ s', zf45 a (nI E.length) s = some (1, s') ∧ zEl a s' (E ++ [(k, b, pa, A ++ [(p + 1, m)])]) ∧ s' a 11 = nI (p + 4 + m + 1) ∧ s' a 12 = s a 12 ∧ s' a 13 = s a 13 ∧ (∀ q, q ≠ a → q ≠ a + 5 → q ≠ a + 6 → q ≠ a + 7 → s' q = s q)) := by
  obtain ⟨b0, b1, b2, b3, b4, b5, b6, b7, b8, b9⟩ := zB_e hB
  obtain ⟨c1, c2, c3, c4, c5, c6, c7, c8, c9, c10⟩ := zB_c hB
  have hc3 := hC.2.1
  rw [b9, c9] at hc3
  have hlen : (E ++ [(k, b, pa, A)]).length = E.length + 1 := by rw [List.length_append, List.length_singleton]
  have hfa : zfa (E ++ [(k, b, pa, A)]) (E.length + 1) = zfa E E.length + A.length := zfa_last
  have h9 : s a 9 = nI (zfa E E.length + A.length) := by rw [hE.2.1, hlen, hfa]
  have h30 := hb.1
  rw [hlen] at h30
  obtain ⟨n, hn⟩ : ∃ n, n = zfa E E.length + A.length := ⟨_, rfl⟩
  rw [← hn] at h9 h5
  obtain ⟨s1, hs1⟩ : ∃ s1, s1 = zw s a 11 (nI (p + 1)) := ⟨_, rfl⟩
  have f1 : ∀ q, q ≠ a → s1 q = s q := fun q hq => by rw [hs1, zw_ne hq]
  have g1 : ∀ f, f ≠ 11 → s1 a f = s a f := fun f hf => by rw [hs1, zw_o (Or.inr hf)]
  have hC1 : zRow r s1 C := zRow_fr (f1 r (by omega)) (f1 _ (by rw [b9]; omega)) hC
  have hE1 : zEl a s1 (E ++ [(k, b, pa, A)]) := zEl_fr (g1 6 (by decide)) (g1 9 (by decide)) (fun q q1 q2 => f1 q (by omega)) hE
  have hp1 : s1 a 11 = nI (p + 1) := by rw [hs1, zw_s]
  obtain ⟨s20, hs20⟩ : ∃ s20, s20 = zw (zw (zw (zw (zw s1 (a + 6) n (nI (p + 1))) (a + 7) n 0) a 9 (nI (n + 1))) (a + 5) E.length (nI (n + 1))) a 11 (nI (p + 2)) := ⟨_, rfl⟩
  have fndl : ∀ m i j, i + m ≤ A.length → zfnd C A (C.getD (p + 1) (-1)) m i = some j → j < A.length := by
    intro m
    induction m with
    | zero => intro i j _ h; cases h
    | succ m ih =>
      intro i j hi h
      rw [zfnd] at h
      split at h
      · cases h
        omega
      · exact ih (i + 1) j (by omega) h
  have h60 := hb.2.1
  rw [hlen, hfa, ← hn] at h60
  have e0 : zf45 a (nI E.length) s = if zsm (C.getD (p + 1) (-1)) = true ∧ C.getD (p + 1) (-1) ∉ A.map (fun q => C.getD q.1 (-1)) then
      (zbi (zf47 a 61 s20) fun v21 s22 => if v21 = 0 then zrb 0 s22 else zbi (zf47 a 34 s22) fun v23 s24 => if ¬ v23 = 0 then zf45_125 a zfz (nI n) 0 s24 else zrb 0 s24) else some (0, s1) := by
    unfold zf45
    simp only [zgf, zpf, hp]
    rw [zn_a1, ← hs1, hp1, b0, z18 hC1 (by omega)]
    simp only [zbi]
    rw [z43]
    simp only
    rw [zb_if0]
    by_cases q1 : zsm (C.getD (p + 1) (-1)) = true
    · rw [if_pos q1, zs46 hB hC1 hE1 hb (by rw [hlen]; omega)]
      simp only
      rw [zgetE_r]
      simp only
      have fm := zfnd_m (C := C) (A := A) (x := C.getD (p + 1) (-1))
      have hpin : p + 1 < C.length := Nat.lt_of_not_le (fun q => by rw [zgetD_out q] at q1; exact absurd q1 (by decide))
      cases hf : zfnd C A (C.getD (p + 1) (-1)) A.length 0 with
      | none =>
        have hv9 : s1 a 9 = nI n := by rw [g1 9 (by decide), h9]
        simp only
        rw [if_neg (show ¬ ¬ True from fun q => q trivial), if_pos (show zsm (C.getD (p + 1) (-1)) = true ∧ C.getD (p + 1) (-1) ∉ A.map (fun q => C.getD q.1 (-1)) from ⟨q1, fm.mp hf⟩), hv9, hp1]
        rw [if_pos (show ¬ nI n = 60 from fun q => by have := (zn_eqL (k := 60) (by omega) (by decide)).mp q; omega), b5, b6, b7, zas_n (by omega), zas_n (by omega)]
        have v9 : zw (zw s1 (a + 6) n (nI (p + 1))) (a + 7) n 0 a 9 = nI n := by rw [zw_ne (by omega), zw_ne (by omega), hv9]
        rw [v9, zn_a1, zw_s, zas_n (by omega)]
        have v11 : zw (zw (zw (zw s1 (a + 6) n (nI (p + 1))) (a + 7) n 0) a 9 (nI (n + 1))) (a + 5) E.length (nI (n + 1)) a 11 = nI (p + 1) := by rw [zw_ne (by omega), zw_o (Or.inr (by decide)), zw_ne (by omega), zw_ne (by omega), hp1]
        rw [v11, zn_a1, ← hs20]
      | some j =>
        have hj : ¬ (C.getD (p + 1) (-1) ∉ A.map fun q => C.getD q.1 (-1)) := fun q => by rw [fm.mpr q] at hf; cases hf
        have hjl := fndl A.length 0 j (by omega) hf
        simp only
        have hap := zfa_app (E := E) (q := (k, b, pa, A)) (Nat.le_refl E.length)
        rw [if_pos (show ¬ nI (zfa (E ++ [(k, b, pa, A)]) E.length + j) = -1 from zn_nm (by omega)), if_neg (fun q => hj q.2)]
        rfl
    · rw [if_neg q1, if_neg (fun q => q1 q.1)]
      rfl
  rw [e0]
  unfold zat1
  by_cases q0 : zsm (C.getD (p + 1) (-1)) = true ∧ C.getD (p + 1) (-1) ∉ A.map (fun q => C.getD q.1 (-1))
  rotate_left
  · rw [if_neg q0, if_neg q0]
    refine ⟨fun f hf => ?_, fun m hm => (by cases hm)⟩
    cases hf
    exact ⟨s1, rfl, hp1⟩
  rw [if_pos q0, if_pos q0]
  have hpin : p + 1 < C.length := Nat.lt_of_not_le (fun q => by have q1 := q0.1; rw [zgetD_out q] at q1; exact absurd q1 (by decide))
  have f20 : ∀ q, q ≠ a → q ≠ a + 5 → q ≠ a + 6 → q ≠ a + 7 → s20 q = s q := by
    intro q h1 h2 h3 h4
    rw [hs20, zw_ne h1, zw_ne h2, zw_ne h1, zw_ne h4, zw_ne h3, f1 q h1]
  have hC20 : zRow r s20 C := zRow_fr (f20 r (by omega) (by omega) (by omega) (by omega)) (f20 _ (by rw [b9]; omega) (by rw [b9]; omega) (by rw [b9]; omega) (by rw [b9]; omega)) hC
  have p20 : s20 a 11 = nI (p + 2) := by rw [hs20, zw_s]
  have g20 : ∀ f, f ≠ 11 → f ≠ 9 → s20 a f = s a f := by
    intro f h1 h2
    rw [hs20, zw_o (Or.inr h1), zw_ne (by omega), zw_o (Or.inr h2), zw_ne (by omega), zw_ne (by omega), g1 f h1]
  have n20 : s20 a 9 = nI (n + 1) := by rw [hs20, zw_o (Or.inr (by decide)), zw_ne (by omega), zw_s]
  have a5 : s20 (a + 5) E.length = nI (n + 1) ∧ ∀ j, j ≠ E.length → s20 (a + 5) j = s (a + 5) j := by
    refine ⟨by rw [hs20, zw_ne (by omega), zw_s], fun j hj => ?_⟩
    rw [hs20, zw_ne (by omega), zw_o (Or.inr hj), zw_ne (by omega), zw_ne (by omega), zw_ne (by omega), f1 _ (by omega)]
  have a6 : s20 (a + 6) n = nI (p + 1) ∧ ∀ j, j ≠ n → s20 (a + 6) j = s (a + 6) j := by
    refine ⟨by rw [hs20, zw_ne (by omega), zw_ne (by omega), zw_ne (by omega), zw_ne (by omega), zw_s], fun j hj => ?_⟩
    rw [hs20, zw_ne (by omega), zw_ne (by omega), zw_ne (by omega), zw_ne (by omega), zw_o (Or.inr hj), f1 _ (by omega)]
  have a7 : s20 (a + 7) n = nI 0 ∧ ∀ j, j ≠ n → s20 (a + 7) j = s (a + 7) j := by
    refine ⟨by rw [hs20, zw_ne (by omega), zw_ne (by omega), zw_ne (by omega), zw_s]; rfl, fun j hj => ?_⟩
    rw [hs20, zw_ne (by omega), zw_ne (by omega), zw_ne (by omega), zw_o (Or.inr hj), zw_ne (by omega), f1 _ (by omega)]
  rw [zs47 hB hC20 p20 (by omega)]
  by_cases q2 : C.getD (p + 2) (-1) = 61
  rotate_left
  · rw [if_neg q2, if_neg q2]
    refine ⟨fun f hf => ?_, fun m hm => (by cases hm)⟩
    cases hf
    exact ⟨s20, rfl, p20⟩
  rw [if_pos q2, if_pos q2]
  simp only [zbi]
  rw [if_neg (show ¬ (1 : Int32) = 0 by decide)]
  obtain ⟨s22, hs22⟩ : ∃ s22, s22 = zw s20 a 11 (nI (p + 2 + 1)) := ⟨_, rfl⟩
  rw [← hs22]
  have f22 : ∀ q, q ≠ a → s22 q = s20 q := fun q hq => by rw [hs22, zw_ne hq]
  have p22 : s22 a 11 = nI (p + 3) := by rw [hs22, zw_s]
  have hC22 : zRow r s22 C := zRow_fr (f22 r (by omega)) (f22 _ (by rw [b9]; omega)) hC20
  rw [zs47 hB hC22 p22 (by omega)]
  by_cases q3 : C.getD (p + 3) (-1) = 34
  rotate_left
  · rw [if_neg q3, if_neg q3]
    refine ⟨fun f hf => ?_, fun m hm => (by cases hm)⟩
    cases hf
    exact ⟨s22, rfl, p22⟩
  rw [if_pos q3, if_pos q3]
  simp only
  rw [if_pos (show ¬ (1 : Int32) = 0 by decide)]
  obtain ⟨s24, hs24⟩ : ∃ s24, s24 = zw s22 a 11 (nI (p + 3 + 1)) := ⟨_, rfl⟩
  rw [← hs24]
  have f24 : ∀ q, q ≠ a → s24 q = s20 q := fun q hq => by rw [hs24, zw_ne hq, f22 q hq]
  have p24 : s24 a 11 = nI (p + 4) := by rw [hs24, zw_s]
  have hC24 : zRow r s24 C := zRow_fr (f24 r (by omega)) (f24 _ (by rw [b9]; omega)) hC20
  have hv := zs45_v (C := C) (j := n) hB (by omega) 300 zfz 0 (p + 4) 0 s24 (by rw [zfz_e]; decide) rfl (by omega) (by omega) hC24 p24 (by rw [f24 _ (by omega)]; exact a7.1)
  have hv2 : zf45_125 a zfz (nI n) 0 s24 = zf45_125 a zfz (nI n) (nI 0) s24 := congrArg (fun z => zf45_125 a zfz (nI n) z s24) z0e
  rw [hv2, hv, Nat.zero_add]
  have hrun := zrun_le C 300 (p + 4)
  generalize zrun C 300 (p + 4) = m at *
  obtain ⟨s26, hs26⟩ : ∃ s26, s26 = zw (zw s24 (a + 7) n (nI m)) a 11 (nI (p + 4 + m)) := ⟨_, rfl⟩
  rw [← hs26]
  have f26 : ∀ q, q ≠ a → q ≠ a + 7 → s26 q = s20 q := fun q h1 h2 => by rw [hs26, zw_ne h1, zw_ne h2, f24 q h1]
  have p26 : s26 a 11 = nI (p + 4 + m) := by rw [hs26, zw_s]
  have hC26 : zRow r s26 C := zRow_fr (f26 r (by omega) (by omega)) (f26 _ (by rw [b9]; omega) (by rw [b9]; omega)) hC20
  unfold zf45_176
  rw [zs47 hB hC26 p26 (by omega)]
  by_cases q4 : C.getD (p + 4 + m) (-1) = 34
  rotate_left
  · rw [if_neg q4, if_neg q4]
    refine ⟨fun f hf => ?_, fun m hm => (by cases hm)⟩
    cases hf
    exact ⟨s26, rfl, p26⟩
  rw [if_pos q4, if_pos q4]
  refine ⟨fun f hf => (by cases hf), fun m' hm => ?_⟩
  cases hm
  have ff : ∀ f, f ≠ 11 → (zw s26 a 11 (nI (p + 4 + m + 1))) a f = s20 a f := by
    intro f hf
    rw [zw_o (Or.inr hf), hs26, zw_o (Or.inr hf), zw_ne (by omega), hs24, zw_o (Or.inr hf), hs22, zw_o (Or.inr hf)]
  refine ⟨zw s26 a 11 (nI (p + 4 + m + 1)), rfl, ?_, zw_s, ?_, ?_, ?_⟩
  · refine zEl_add hE hn ?_ ?_ ?_ ?_ ?_ ?_
    · rw [ff 6 (by decide), g20 6 (by decide) (by decide)]
    · rw [ff 9 (by decide), n20]
    · intro q h1 h2
      rw [zw_ne (by omega), f26 q (by omega) (by omega), f20 q (by omega) (by omega) (by omega) (by omega)]
    · rw [zw_ne (by omega), f26 _ (by omega) (by omega)]
      exact a5
    · rw [zw_ne (by omega), f26 _ (by omega) (by omega)]
      exact a6
    · rw [zw_ne (by omega), hs26, zw_ne (by omega)]
      refine ⟨zw_s, fun j hj => ?_⟩
      rw [zw_o (Or.inr hj), f24 _ (by omega)]
      exact a7.2 j hj
  · rw [ff 12 (by decide), g20 12 (by decide) (by decide)]
  · rw [ff 13 (by decide), g20 13 (by decide) (by decide)]
  · intro q h1 h2 h3 h4
    rw [zw_ne h1, f26 q h1 h4, f20 q h1 h2 h3 h4]
