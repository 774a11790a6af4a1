/-! read, the elements on the class's side: beginnings, ends, letters, all. -/
set_option maxRecDepth 100000
set_option linter.unusedVariables false
theorem zEb_new {E : List zE} {k pa : Int32} {b : Nat} (h : zEb E) (h1 : E.length < 30) : zEb (E ++ [(k, b, pa, [])]) := by
  obtain ⟨g1, g2, g3⟩ := h
  refine ⟨by rw [List.length_append, List.length_singleton]; omega, ?_, fun e he i hi => ?_⟩
  · rw [List.length_append, List.length_singleton, zfa_last]
    exact g2
  · rw [List.length_append, List.length_singleton] at he
    by_cases e1 : e = E.length
    · subst e1
      rw [zgetE_r] at hi
      exact absurd hi (Nat.not_lt_zero _)
    · have e2 : e < E.length := by omega
      rw [zgetE_l e2] at hi ⊢
      exact g3 e e2 i hi
theorem zs42 {a r p d : Nat} {s : zS} {C : List Int32} {E : List zE} (hB : zB a r) (hC : zRow r s C) (hE : zEl a s E) (hb : zEb E) (hp : s a 11 = nI p) (hd : s a 13 = nI d) (hd2 : d ≤ 30) (h5 : 5 * zfa E E.length ≤ p) (hpl : p < C.length) :
    (∀ f, zbeg C E.length d p = .inl f → ∃ s', zf42 a s = some (0, s') ∧ s' a 11 = nI f) ∧
    (∀ cl b' A, zbeg C E.length d p = .inr (cl, b', A) → ∃ s', zf42 a s = some (1, s') ∧ zEl a s' (E ++ [(C.getD (p + 1) (-1), p, s a 12, A)]) ∧ zEb (E ++ [(C.getD (p + 1) (-1), p, s a 12, A)]) ∧ s' a 11 = nI b' ∧ s' a 12 = (if cl = true then s a 12 else nI E.length) ∧ s' a 13 = (if cl = true then nI d else nI (d + 1)) ∧ zFb a s s' ∧ 5 * zfa (E ++ [(C.getD (p + 1) (-1), p, s a 12, A)]) (E.length + 1) ≤ b' ∧ b' ≤ C.length ∧ p < b') := by
  obtain ⟨b0, b1, b2, b3, b4, b5, b6, b7, b8, b9⟩ := zB_e hB
  obtain ⟨c1, c2, c3, c4, c5, c6, c7, c8, c9, c10⟩ := zB_c hB
  have hc3 := hC.2.1
  rw [b9, c9] at hc3
  have h30 := hb.1
  unfold zbeg
  by_cases g0 : E.length = 30 ∨ d = 8
  · rw [if_pos g0]
    have e0 : zf42 a s = some (0, s) := by
      unfold zf42
      simp only [zgf, hE.1, hd]
      rcases g0 with g | g
      · rw [if_pos ((zn_eqL (k := 30) (by omega) (by decide)).mpr g)]
        rfl
      · by_cases g2 : E.length = 30
        · rw [if_pos ((zn_eqL (k := 30) (by omega) (by decide)).mpr g2)]
          rfl
        · rw [if_neg (fun q => g2 ((zn_eqL (k := 30) (by omega) (by decide)).mp q)), if_neg (fun q => q ((zn_eqL (k := 8) (by omega) (by decide)).mpr g))]
          rfl
    rw [e0]
    refine ⟨fun f hf => ?_, fun _ _ _ h => (by cases h)⟩
    cases hf
    exact ⟨s, rfl, hp⟩
  rw [if_neg g0]
  have g1 : E.length ≠ 30 := fun q => g0 (Or.inl q)
  have g2 : d ≠ 8 := fun q => g0 (Or.inr q)
  obtain ⟨s1, hs1⟩ : ∃ s1, s1 = zw s a 11 (nI (p + 1)) := ⟨_, rfl⟩
  have f1 : ∀ q, q ≠ a → s1 q = s q := fun q hq => by rw [hs1, zw_ne hq]
  have k1 : ∀ f, f ≠ 11 → s1 a f = s a f := fun f hf => by rw [hs1, zw_o (Or.inr hf)]
  have hC1 : zRow r s1 C := zRow_fr (f1 r (by omega)) (f1 _ (by rw [b9]; omega)) hC
  have hE1 : zEl a s1 E := zEl_fr (k1 6 (by decide)) (k1 9 (by decide)) (fun q q1 q2 => f1 q (by omega)) hE
  have hp1 : s1 a 11 = nI (p + 1) := by rw [hs1, zw_s]
  obtain ⟨s2, u1, u2, u3, u4⟩ := zs44 (p := p) hB hC1 hE1 hb (by omega) (by omega)
  rw [k1 12 (by decide)] at u2
  have e0 : zf42 a s = if zsm (C.getD (p + 1) (-1)) = true then zf42_72 a zfz (nI E.length) (nI 0) (zw s2 a 11 (nI (p + 2))) else some (0, s1) := by
    unfold zf42
    simp only [zgf, zpf, hE.1, hd, hp]
    rw [if_neg (fun q => g1 ((zn_eqL (k := 30) (by omega) (by decide)).mp q)), if_pos (fun q => g2 ((zn_eqL (k := 8) (by omega) (by decide)).mp q)), zn_a1, ← hs1, hp1, b0, z18 hC1 (by omega)]
    simp only [zbi]
    rw [z43]
    simp only
    rw [zb_if]
    by_cases q1 : zsm (C.getD (p + 1) (-1)) = true
    · rw [if_pos q1, if_pos q1, u1]
      simp only
      rw [u3 11 (by decide), hp1, zn_a1]
      exact congrArg (fun z => zf42_72 a zfz (nI E.length) z (zw s2 a 11 (nI (p + 1 + 1)))) z0e
    · rw [if_neg q1, if_neg q1]
      rfl
  rw [e0]
  by_cases q1 : zsm (C.getD (p + 1) (-1)) = true
  rotate_left
  · rw [if_neg q1, if_neg q1]
    refine ⟨fun f hf => ?_, fun _ _ _ h => (by cases h)⟩
    cases hf
    exact ⟨s1, rfl, hp1⟩
  rw [if_pos q1, if_pos q1]
  obtain ⟨s3, hs3⟩ : ∃ s3, s3 = zw s2 a 11 (nI (p + 2)) := ⟨_, rfl⟩
  rw [← hs3]
  have f3 : ∀ q, q ≠ a → (q < a + 1 ∨ a + 7 < q) → s3 q = s q := fun q h1 h2 => by rw [hs3, zw_ne h1, u4 q h1 h2, f1 q h1]
  have hC3 : zRow r s3 C := zRow_fr (f3 r (by omega) (by omega)) (f3 _ (by rw [b9]; omega) (by rw [b9]; omega)) hC
  have hE3 : zEl a s3 (E ++ [(C.getD (p + 1) (-1), p, s a 12, [])]) := zEl_fr (by rw [hs3, zw_o (Or.inr (by decide))]) (by rw [hs3, zw_o (Or.inr (by decide))]) (fun q h1 h2 => by rw [hs3, zw_ne (by omega)]) u2
  have k3 : ∀ f, f ≠ 6 → f ≠ 11 → s3 a f = s a f := fun f h1 h2 => by rw [hs3, zw_o (Or.inr h2), u3 f h1, k1 f h2]
  have hb3 := zEb_new (k := C.getD (p + 1) (-1)) (pa := s a 12) (b := p) hb (by omega)
  obtain ⟨v1, v2⟩ := zs42_l (C := C) hB 60 zfz 0 (p + 2) s3 [] (by rw [zfz_e]; decide) rfl hC3 hE3 hb3 (by rw [hs3, zw_s]) (by rw [List.length_nil]; omega) (by omega)
  cases hz : zats C 60 (p + 2) [] with
  | inl f' =>
    obtain ⟨s', w1, w2⟩ := v1 f' hz
    refine ⟨fun f hf => ?_, fun _ _ _ h => (by cases h)⟩
    cases hf
    exact ⟨s', w1, w2⟩
  | inr bA =>
    obtain ⟨b', A⟩ := bA
    obtain ⟨s', w1, w2, w3, w4, w5, w6, w7, w8, w9⟩ := v2 b' A hz
    have hb'2 : p + 2 ≤ b' := by
      have mono : ∀ m p0 A0 b1 A1, zats C m p0 A0 = .inr (b1, A1) → p0 ≤ b1 := by
        intro m
        induction m with
        | zero => intro p0 A0 b1 A1 h; cases h; exact Nat.le_refl _
        | succ m ih =>
          intro p0 A0 b1 A1 h
          rw [zats] at h
          split at h
          · split at h
            · cases h
            · have := ih _ _ _ _ h
              omega
          · cases h
            exact Nat.le_refl _
      exact mono _ _ _ _ _ hz
    rw [w1]
    have hC' : zRow r s' C := zRow_fr (w7 r (by omega) (by omega)) (w7 _ (by rw [b9]; omega) (by rw [b9]; omega)) hC3
    have fr' : zFb a s s' := fun q h1 h2 => (w7 q h1 h2).trans (f3 q h1 h2)
    have d' : s' a 13 = nI d := by rw [w6, k3 13 (by decide) (by decide), hd]
    have o' : s' a 12 = s a 12 := by rw [w5, k3 12 (by decide) (by decide)]
    have fE : ∀ t : zS, (∀ f, f ≠ 11 → f ≠ 12 → f ≠ 13 → t a f = s' a f) → (∀ q, q ≠ a → t q = s' q) → zEl a t (E ++ [(C.getD (p + 1) (-1), p, s a 12, A)]) := fun t h1 h2 => zEl_fr (h1 6 (by decide) (by decide) (by decide)) (h1 9 (by decide) (by decide) (by decide)) (fun q q1 q2 => h2 q (by omega)) w2
    simp only
    unfold zf42_110
    simp only [zgf, w4]
    rw [b0, z18 hC' (by omega)]
    simp only [zbi]
    by_cases q2 : C.getD b' (-1) = 47
    · rw [if_neg (show ¬ ¬ C.getD b' (-1) = 47 from fun q => q q2), if_pos q2]
      simp only [zpf]
      rw [w4, zn_a1]
      have hC4 : zRow r (zw s' a 11 (nI (b' + 1))) C := zRow_w hC' (Or.inl (by omega)) (by rw [b9]; omega)
      rw [zs47 hB hC4 zw_s (by omega)]
      by_cases q3 : C.getD (b' + 1) (-1) = 62
      · rw [if_pos q3, if_pos q3]
        refine ⟨fun f hf => (by cases hf), fun cl b2 A2 h => ?_⟩
        cases h
        have hin : b' + 1 < C.length := Nat.lt_of_not_le (fun q => by rw [zgetD_out q] at q3; exact absurd q3 (by decide))
        refine ⟨_, rfl, fE _ ?_ ?_, w3, zw_s, ?_, ?_, ?_, ?_, by omega, by omega⟩
        · intro f h1 h2 h3
          rw [zw_o (Or.inr h1), zw_o (Or.inr h1)]
        · intro q hq
          rw [zw_ne hq, zw_ne hq]
        · rw [zw_o (Or.inr (by decide)), zw_o (Or.inr (by decide)), o']
          rfl
        · rw [zw_o (Or.inr (by decide)), zw_o (Or.inr (by decide)), d']
          rfl
        · intro q h1 h2
          rw [zw_ne h1, zw_ne h1]
          exact fr' q h1 h2
        · rw [zfa_last]
          show 5 * (zfa E E.length + A.length) ≤ _
          omega
      · rw [if_neg q3, if_neg q3]
        refine ⟨fun f hf => ?_, fun _ _ _ h => (by cases h)⟩
        cases hf
        exact ⟨_, rfl, zw_s⟩
    · rw [if_pos (show ¬ C.getD b' (-1) = 47 from q2), if_neg q2]
      simp only [zpf]
      rw [zw_o (Or.inr (by decide)), d', zn_a1]
      have hC4 : zRow r (zw (zw s' a 12 (nI E.length)) a 13 (nI (d + 1))) C := zRow_w (zRow_w hC' (Or.inl (by omega)) (by rw [b9]; omega)) (Or.inl (by omega)) (by rw [b9]; omega)
      rw [zs47 hB hC4 (by rw [zw_o (Or.inr (by decide)), zw_o (Or.inr (by decide))]; exact w4) (by omega)]
      by_cases q3 : C.getD b' (-1) = 62
      · rw [if_pos q3, if_pos q3]
        refine ⟨fun f hf => (by cases hf), fun cl b2 A2 h => ?_⟩
        cases h
        have hin : b' < C.length := Nat.lt_of_not_le (fun q => by rw [zgetD_out q] at q3; exact absurd q3 (by decide))
        refine ⟨_, rfl, fE _ ?_ ?_, w3, zw_s, ?_, ?_, ?_, ?_, by omega, by omega⟩
        · intro f h1 h2 h3
          rw [zw_o (Or.inr h1), zw_o (Or.inr h3), zw_o (Or.inr h2)]
        · intro q hq
          rw [zw_ne hq, zw_ne hq, zw_ne hq]
        · rw [zw_o (Or.inr (by decide)), zw_o (Or.inr (by decide)), zw_s]
          rfl
        · rw [zw_o (Or.inr (by decide)), zw_s]
          rfl
        · intro q h1 h2
          rw [zw_ne h1, zw_ne h1, zw_ne h1]
          exact fr' q h1 h2
        · rw [zfa_last]
          show 5 * (zfa E E.length + A.length) ≤ _
          omega
      · rw [if_neg q3, if_neg q3]
        refine ⟨fun f hf => ?_, fun _ _ _ h => (by cases h)⟩
        cases hf
        refine ⟨_, rfl, ?_⟩
        rw [zw_o (Or.inr (by decide)), zw_o (Or.inr (by decide))]
        exact w4
