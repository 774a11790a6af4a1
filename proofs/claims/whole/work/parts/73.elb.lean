/-! read, the elements on the class's side: a beginning is taken. -/
set_option maxRecDepth 100000
set_option linter.unusedVariables false
/-- what a beginning may change -/
def zFb (a : Nat) (s s' : zS) : Prop := ∀ q, q ≠ a → (q < a + 1 ∨ a + 7 < q) → s' q = s q
theorem zs44 {a r p : Nat} {s : zS} {C : List Int32} {E : List zE} (hB : zB a r) (hC : zRow r s C) (hE : zEl a s E) (hb : zEb E) (h30 : E.length < 30) (hp : p < 300) :
    ∃ s', zf44 a (nI p) s = some (nI E.length, s') ∧ zEl a s' (E ++ [(C.getD (p + 1) (-1), p, s a 12, [])]) ∧ (∀ f, f ≠ 6 → s' a f = s a f) ∧ zFb a s s' := by
  obtain ⟨b0, b1, b2, b3, b4, b5, b6, b7, b8, b9⟩ := zB_e hB
  obtain ⟨c1, c2, c3, c4, c5, c6, c7, c8, c9, c10⟩ := zB_c hB
  obtain ⟨h1, h2, h3⟩ := hE
  have h60 := hb.2.1
  obtain ⟨t, ht⟩ : ∃ t, t = zw (zw (zw (zw (zw (zw s (a + 1) E.length (C.getD (p + 1) (-1))) (a + 2) E.length (nI p)) (a + 3) E.length (s a 12)) (a + 4) E.length (nI (zfa E E.length))) (a + 5) E.length (nI (zfa E E.length))) a 6 (nI (E.length + 1)) := ⟨_, rfl⟩
  have e0 : zf44 a (nI p) s = some (nI E.length, t) := by
    unfold zf44
    simp only [zgf, zpf]
    rw [b0, b1, b2, b3, b4, b5, zn_a1, z18 hC (by omega)]
    simp only [zbi]
    rw [h1, zas_n (by omega), zw_ne (by omega), h1, zas_n (by omega), zw_ne (by omega), zw_ne (by omega), h1, zas_n (by omega), zw_ne (by omega), zw_ne (by omega), zw_ne (by omega), h1, h2, zas_n (by omega)]
    rw [zw_ne (by omega), zw_ne (by omega), zw_ne (by omega), zw_ne (by omega), h1, h2, zas_n (by omega)]
    rw [zw_s, zw_ne (by omega), zw_ne (by omega), zw_ne (by omega), zw_ne (by omega), zw_ne (by omega), h1, zn_a1, ← ht, zn_lit 1, zn_sub (by omega), Nat.add_sub_cancel]
  refine ⟨t, e0, ⟨?_, ?_, fun e he => ?_⟩, fun f hf => ?_, fun q h4 h5 => ?_⟩
  · rw [ht, zw_s, List.length_append]
    rfl
  · rw [ht, zw_o (Or.inr (by decide)), zw_ne (by omega), zw_ne (by omega), zw_ne (by omega), zw_ne (by omega), zw_ne (by omega), h2, List.length_append, List.length_singleton, zfa_last]
    rfl
  · rw [List.length_append, List.length_singleton] at he
    have r1 : t (a + 1) e = if e = E.length then C.getD (p + 1) (-1) else s (a + 1) e := by
      rw [ht, zw_ne (by omega), zw_ne (by omega), zw_ne (by omega), zw_ne (by omega), zw_ne (by omega)]
      by_cases e1 : e = E.length
      · rw [if_pos e1, e1, zw_s]
      · rw [if_neg e1, zw_o (Or.inr e1)]
    have r2 : t (a + 2) e = if e = E.length then nI p else s (a + 2) e := by
      rw [ht, zw_ne (by omega), zw_ne (by omega), zw_ne (by omega), zw_ne (by omega)]
      by_cases e1 : e = E.length
      · rw [if_pos e1, e1, zw_s]
      · rw [if_neg e1, zw_o (Or.inr e1), zw_ne (by omega)]
    have r3 : t (a + 3) e = if e = E.length then s a 12 else s (a + 3) e := by
      rw [ht, zw_ne (by omega), zw_ne (by omega), zw_ne (by omega)]
      by_cases e1 : e = E.length
      · rw [if_pos e1, e1, zw_s]
      · rw [if_neg e1, zw_o (Or.inr e1), zw_ne (by omega), zw_ne (by omega)]
    have r4 : t (a + 4) e = if e = E.length then nI (zfa E E.length) else s (a + 4) e := by
      rw [ht, zw_ne (by omega), zw_ne (by omega)]
      by_cases e1 : e = E.length
      · rw [if_pos e1, e1, zw_s]
      · rw [if_neg e1, zw_o (Or.inr e1), zw_ne (by omega), zw_ne (by omega), zw_ne (by omega)]
    have r5 : t (a + 5) e = if e = E.length then nI (zfa E E.length) else s (a + 5) e := by
      rw [ht, zw_ne (by omega)]
      by_cases e1 : e = E.length
      · rw [if_pos e1, e1, zw_s]
      · rw [if_neg e1, zw_o (Or.inr e1), zw_ne (by omega), zw_ne (by omega), zw_ne (by omega), zw_ne (by omega)]
    have r6 : t (a + 6) = s (a + 6) := by
      rw [ht, zw_ne (by omega), zw_ne (by omega), zw_ne (by omega), zw_ne (by omega), zw_ne (by omega), zw_ne (by omega)]
    have r7 : t (a + 7) = s (a + 7) := by
      rw [ht, zw_ne (by omega), zw_ne (by omega), zw_ne (by omega), zw_ne (by omega), zw_ne (by omega), zw_ne (by omega)]
    unfold zEl1
    rw [r1, r2, r3, r4, r5, r6, r7]
    by_cases e1 : e = E.length
    · subst e1
      rw [zgetE_r, zfa_app (Nat.le_refl _)]
      simp only [if_true]
      exact ⟨trivial, trivial, trivial, trivial, rfl, fun k hk => absurd hk (Nat.not_lt_zero _)⟩
    · have e2 : e < E.length := by omega
      simp only [e1, if_false]
      rw [zgetE_l e2, zfa_app (by omega)]
      exact h3 e e2
  · rw [ht, zw_o (Or.inr hf), zw_ne (by omega), zw_ne (by omega), zw_ne (by omega), zw_ne (by omega), zw_ne (by omega)]
  · rw [ht, zw_ne h4, zw_ne (by omega), zw_ne (by omega), zw_ne (by omega), zw_ne (by omega), zw_ne (by omega)]
theorem zEb_add {E : List zE} {k pa : Int32} {b p m : Nat} {A : List (Nat × Nat)} (h : zEb (E ++ [(k, b, pa, A)])) (h1 : zfa E E.length + A.length + 1 ≤ 60) (h2 : p < 300) : zEb (E ++ [(k, b, pa, A ++ [(p, m)])]) := by
  obtain ⟨g1, g2, g3⟩ := h
  refine ⟨by rw [List.length_append] at g1 ⊢; exact g1, ?_, fun e he i hi => ?_⟩
  · rw [List.length_append, List.length_singleton, zfa_last, List.length_append, List.length_singleton]
    exact h1
  · rw [List.length_append, List.length_singleton] at he
    by_cases e1 : e = E.length
    · subst e1
      rw [zgetE_r] at hi ⊢
      have g4 := g3 E.length (by rw [List.length_append, List.length_singleton]; omega)
      rw [zgetE_r] at g4
      rw [List.length_append, List.length_singleton] at hi
      by_cases e2 : i = A.length
      · subst e2
        rw [zgetA_r]
        exact h2
      · have hi2 : i < A.length := by omega
        rw [zgetA_l hi2]
        exact g4 i hi2
    · have e2 : e < E.length := by omega
      rw [zgetE_l e2] at hi ⊢
      have g4 := g3 e (by rw [List.length_append, List.length_singleton]; omega)
      rw [zgetE_l e2] at g4
      exact g4 i hi
theorem zs42_l {a r : Nat} {C : List Int32} {E : List zE} {k pa : Int32} {b : Nat} (hB : zB a r) : ∀ m n t p (s : zS) (A : List (Nat × Nat)), m < n → t + m = 60 → zRow r s C → zEl a s (E ++ [(k, b, pa, A)]) → zEb (E ++ [(k, b, pa, A)]) → s a 11 = nI p → 5 * (zfa E E.length + A.length) + 2 ≤ p → p ≤ 302 →
    (∀ f, zats C m p A = .inl f → ∃ s', zf42_72 a n (nI E.length) (nI t) s = some (0, s') ∧ s' a 11 = nI f) ∧
    (∀ b' A', zats C m p A = .inr (b', A') → ∃ s', zf42_72 a n (nI E.length) (nI t) s = zf42_110 a (nI E.length) s' ∧ zEl a s' (E ++ [(k, b, pa, A')]) ∧ zEb (E ++ [(k, b, pa, A')]) ∧ s' a 11 = nI b' ∧ s' a 12 = s a 12 ∧ s' a 13 = s a 13 ∧ zFb a s s' ∧ 5 * (zfa E E.length + A'.length) + 2 ≤ b' ∧ b' ≤ 302) := by
  obtain ⟨b0, b1, b2, b3, b4, b5, b6, b7, b8, b9⟩ := zB_e hB
  obtain ⟨c1, c2, c3, c4, c5, c6, c7, c8, c9, c10⟩ := zB_c hB
  intro m
  induction m with
  | zero =>
    intro n t p s A hn ht hC hE hb hp h5 hp2
    obtain ⟨n, rfl⟩ : ∃ n', n = n' + 1 := ⟨n - 1, by omega⟩
    rw [zf42_72, if_pos ((zn_geL (k := 60) (by omega) (by decide)).mpr (by omega))]
    refine ⟨fun f hf => (by cases hf), fun b' A' hA' => ?_⟩
    cases hA'
    exact ⟨s, rfl, hE, hb, hp, rfl, rfl, fun _ _ _ => rfl, h5, hp2⟩
  | succ m ih =>
    intro n t p s A hn ht hC hE hb hp h5 hp2
    obtain ⟨n, rfl⟩ : ∃ n', n = n' + 1 := ⟨n - 1, by omega⟩
    have hc3 := hC.2.1
    rw [b9, c9] at hc3
    rw [zf42_72, if_neg (fun q => by have := (zn_geL (k := 60) (by omega) (by decide)).mp q; omega)]
    simp only [zgf, hp]
    rw [b0, z18 hC (by omega)]
    simp only [zbi]
    rw [zats]
    by_cases g : C.getD p (-1) = 32
    rotate_left
    · rw [if_neg g, if_pos (show ¬ C.getD p (-1) = 32 from g)]
      refine ⟨fun f hf => (by cases hf), fun b' A' hA' => ?_⟩
      cases hA'
      exact ⟨s, rfl, hE, hb, hp, rfl, rfl, fun _ _ _ => rfl, h5, hp2⟩
    rw [if_pos g, if_neg (show ¬ ¬ C.getD p (-1) = 32 from fun q => q g)]
    have hin : p < C.length := Nat.lt_of_not_le (fun q => by rw [zgetD_out q] at g; exact absurd g (by decide))
    obtain ⟨u1, u2⟩ := zs45 hB hC hE hb hp (by omega) (by omega)
    cases hz : zat1 C (A.map fun q => C.getD q.1 (-1)) p with
    | inl f' =>
      obtain ⟨s', v1, v2⟩ := u1 f' hz
      rw [v1]
      simp only
      rw [if_neg (show ¬ ¬ True from fun q => q trivial)]
      refine ⟨fun f hf => ?_, fun b' A' hA' => (by cases hA')⟩
      cases hf
      exact ⟨s', rfl, v2⟩
    | inr m' =>
      obtain ⟨s', v1, v2, v3, v4, v5, v6⟩ := u2 m' hz
      rw [v1]
      simp only
      rw [if_pos (show ¬ (1 : Int32) = 0 by decide), zn_a1]
      have hq : p + 4 + m' < C.length := by
        unfold zat1 at hz
        split at hz
        · split at hz
          · split at hz
            · split at hz
              · next q4 =>
                cases hz
                exact Nat.lt_of_not_le (fun q => by rw [zgetD_out q] at q4; exact absurd q4 (by decide))
              · cases hz
            · cases hz
          · cases hz
        · cases hz
      have hC' : zRow r s' C := zRow_fr (v6 r (by omega) (by omega) (by omega) (by omega)) (v6 _ (by rw [b9]; omega) (by rw [b9]; omega) (by rw [b9]; omega) (by rw [b9]; omega)) hC
      have hb' : zEb (E ++ [(k, b, pa, A ++ [(p + 1, m')])]) := zEb_add hb (by omega) (by omega)
      obtain ⟨i1, i2⟩ := ih n (t + 1) (p + 4 + m' + 1) s' (A ++ [(p + 1, m')]) (by omega) (by omega) hC' v2 hb' v3 (by rw [List.length_append, List.length_singleton]; omega) (by omega)
      refine ⟨i1, fun b' A' hA' => ?_⟩
      obtain ⟨s2, w1, w2, w3, w4, w5, w6, w7, w8, w9⟩ := i2 b' A' hA'
      exact ⟨s2, w1, w2, w3, w4, w5.trans v4, w6.trans v5, fun q h1 h2 => (w7 q h1 h2).trans (v6 q h1 (by omega) (by omega) (by omega)), w8, w9⟩
