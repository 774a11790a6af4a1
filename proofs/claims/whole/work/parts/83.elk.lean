/-! What the elements of a content keep to. -/
set_option maxRecDepth 100000
set_option linter.unusedVariables false
/-- the attributes A stand from a to b -/
def zch (C : List Int32) : Nat → List (Nat × Nat) → Nat → Prop
  | a, [], b => a = b ∧ C.getD a (-1) ≠ 32
  | a, q :: A, b => C.getD a (-1) = 32 ∧ q.1 = a + 1 ∧ zsm (C.getD (a + 1) (-1)) = true ∧ C.getD (a + 2) (-1) = 61 ∧ C.getD (a + 3) (-1) = 34 ∧ (∀ k, k < q.2 → zpn (C.getD (a + 4 + k) (-1)) = true) ∧ C.getD (a + 4 + q.2) (-1) = 34 ∧ zch C (a + 4 + q.2 + 1) A b
theorem zrun_p {C : List Int32} : ∀ m i k, k < zrun C m i → zpn (C.getD (i + k) (-1)) = true := by
  intro m
  induction m with
  | zero => intro i k h; exact absurd h (Nat.not_lt_zero _)
  | succ m ih =>
    intro i k h
    rw [zrun] at h
    split at h
    · next g =>
      cases k with
      | zero => exact g
      | succ k =>
        have := ih (i + 1) k (by omega)
        rw [show i + (k + 1) = i + 1 + k by omega]
        exact this
    · exact absurd h (Nat.not_lt_zero _)
theorem zat1_i {C ls : List Int32} {a m : Nat} (h : zat1 C ls a = .inr m) : zsm (C.getD (a + 1) (-1)) = true ∧ C.getD (a + 1) (-1) ∉ ls ∧ C.getD (a + 2) (-1) = 61 ∧ C.getD (a + 3) (-1) = 34 ∧ (∀ k, k < m → zpn (C.getD (a + 4 + k) (-1)) = true) ∧ C.getD (a + 4 + m) (-1) = 34 := by
  unfold zat1 at h
  split at h
  · next g1 =>
    split at h
    · next g2 =>
      split at h
      · next g3 =>
        split at h
        · next g4 =>
          cases h
          exact ⟨g1.1, g1.2, g2, g3, fun k hk => zrun_p 300 _ k hk, g4⟩
        · cases h
      · cases h
    · cases h
  · cases h
theorem zats_ch {C : List Int32} (hl : C.length ≤ 300) : ∀ n a A b A', A.length + n = 60 → 5 * A.length + 2 ≤ a → (A.map fun q => C.getD q.1 (-1)).Nodup → zats C n a A = .inr (b, A') → ∃ A2, A' = A ++ A2 ∧ zch C a A2 b ∧ (A'.map fun q => C.getD q.1 (-1)).Nodup := by
  intro n
  induction n with
  | zero =>
    intro a A b A' h1 h2 h3 h
    cases h
    exact ⟨[], by rw [List.append_nil], ⟨rfl, by rw [zgetD_out (by omega)]; decide⟩, h3⟩
  | succ n ih =>
    intro a A b A' h1 h2 h3 h
    rw [zats] at h
    split at h
    · next g =>
      split at h
      · cases h
      · next m hz =>
        obtain ⟨k1, k2, k3, k4, k5, k6⟩ := zat1_i hz
        obtain ⟨A2, e1, e2, e3⟩ := ih (a + 4 + m + 1) (A ++ [(a + 1, m)]) b A' (by rw [List.length_append, List.length_singleton]; omega) (by rw [List.length_append, List.length_singleton]; omega) (by
          rw [List.map_append, List.nodup_append]
          refine ⟨h3, List.nodup_cons.mpr ⟨List.not_mem_nil, List.nodup_nil⟩, fun x hx y hy => ?_⟩
          have hy2 : y = C.getD (a + 1) (-1) := List.mem_singleton.mp hy
          intro e
          rw [e, hy2] at hx
          exact k2 hx) h
        exact ⟨(a + 1, m) :: A2, by rw [e1, List.append_assoc]; rfl, ⟨g, rfl, k1, k3, k4, k5, k6, e2⟩, e3⟩
    · next g =>
      cases h
      exact ⟨[], by rw [List.append_nil], ⟨rfl, g⟩, h3⟩
theorem zch_le {C : List Int32} : ∀ A a b, zch C a A b → a ≤ b := by
  intro A
  induction A with
  | nil => intro a b h; exact Nat.le_of_eq h.1
  | cons q A ih =>
    intro a b h
    have := ih _ _ h.2.2.2.2.2.2.2
    omega
/-- one element, of the content C -/
def zok1 (C : List Int32) (q : zE) : Prop := q.1 = C.getD (q.2.1 + 1) (-1) ∧ zsm q.1 = true ∧ C.getD q.2.1 (-1) = 60 ∧ (q.2.2.2.map fun x => C.getD x.1 (-1)).Nodup ∧ ∃ b, zch C (q.2.1 + 2) q.2.2.2 b ∧ b < C.length ∧ (C.getD b (-1) = 47 ∨ C.getD b (-1) = 62)
/-- all of them: each in an earlier one, the first in none -/
def zok (C : List Int32) (E : List zE) : Prop := ∀ e, e < E.length → zok1 C (E.getD e (0, 0, 0, [])) ∧ ((e = 0 ∧ (E.getD e (0, 0, 0, [])).2.2.1 = -1) ∨ ∃ k, k < e ∧ (E.getD e (0, 0, 0, [])).2.2.1 = nI k)
theorem zbeg_ok {C : List Int32} {c d a b : Nat} {cl : Bool} {A : List (Nat × Nat)} {pa : Int32} (hl : C.length ≤ 300) (ha : C.getD a (-1) = 60) (h : zbeg C c d a = .inr (cl, b, A)) : zok1 C (C.getD (a + 1) (-1), a, pa, A) ∧ a < b ∧ b ≤ C.length := by
  unfold zbeg at h
  split at h
  · cases h
  · split at h
    · next g1 =>
      split at h
      · cases h
      · next b1 A1 hz =>
        obtain ⟨A2, e1, e2, e3⟩ := zats_ch hl 60 (a + 2) [] b1 A1 rfl (by rw [List.length_nil]; omega) List.nodup_nil hz
        rw [List.nil_append] at e1
        subst e1
        have hle := zch_le _ _ _ e2
        split at h
        · next g2 =>
          split at h
          · next g3 =>
            cases h
            have := zin g3 (by decide)
            exact ⟨⟨rfl, g1, ha, e3, b1, e2, by omega, Or.inl g2⟩, by omega, by omega⟩
          · cases h
        · split at h
          · next g3 =>
            cases h
            have := zin g3 (by decide)
            exact ⟨⟨rfl, g1, ha, e3, b1, e2, this, Or.inr g3⟩, by omega, by omega⟩
          · cases h
    · cases h
theorem zok_app {C : List Int32} {E : List zE} {q : zE} (h : zok C E) (h1 : zok1 C q) (h2 : (E.length = 0 ∧ q.2.2.1 = -1) ∨ ∃ k, k < E.length ∧ q.2.2.1 = nI k) : zok C (E ++ [q]) := by
  intro e he
  rw [List.length_append, List.length_singleton] at he
  by_cases e1 : e = E.length
  · subst e1
    rw [zgetE_r]
    exact ⟨h1, h2⟩
  · rw [zgetE_l (by omega)]
    exact h e (by omega)
/-- the letters: each behind the beginning of its element, which there is -/
def zoo (C : List Int32) (E : List zE) (O : List (Nat × Nat)) : Prop := ∀ q ∈ O, q.1 < C.length ∧ q.2 < E.length ∧ (E.getD q.2 (0, 0, 0, [])).2.1 < q.1
/-- the elements begin one behind the other -/
def zinc (E : List zE) : Prop := ∀ e e', e < e' → e' < E.length → (E.getD e (0, 0, 0, [])).2.1 < (E.getD e' (0, 0, 0, [])).2.1
theorem zinc_app {E : List zE} {q : zE} (h : zinc E) (h1 : ∀ e, e < E.length → (E.getD e (0, 0, 0, [])).2.1 < q.2.1) : zinc (E ++ [q]) := by
  intro e e' h2 h3
  rw [List.length_append, List.length_singleton] at h3
  by_cases g : e' = E.length
  · subst g
    rw [zgetE_r, zgetE_l h2]
    exact h1 e h2
  · rw [zgetE_l (by omega), zgetE_l (by omega)]
    exact h e e' h2 (by omega)
theorem zpar_ok {C : List Int32} (hl : C.length ≤ 300) : ∀ n a E st O E' O', zok C E → (∀ e ∈ st, e < E.length) → (E = [] → st = []) → zoo C E O → zinc E → (∀ e, e < E.length → (E.getD e (0, 0, 0, [])).2.1 < a) → zpar C n a E st O = .inr (E', O') → zok C E' ∧ zoo C E' O' ∧ zinc E' ∧ E' ≠ [] := by
  intro n
  induction n with
  | zero => intro a E st O E' O' _ _ _ _ _ _ h; cases h
  | succ n ih =>
    intro a E st O E' O' h1 h2 h3 h4 h5 h6 h
    have app : ∀ (q : zE) (b : Nat), q.2.1 = a → a < b → (∀ e, e < (E ++ [q]).length → ((E ++ [q]).getD e (0, 0, 0, [])).2.1 < b) := by
      intro q b e1 e2 e he
      rw [List.length_append, List.length_singleton] at he
      by_cases g : e = E.length
      · subst g
        rw [zgetE_r, e1]
        exact e2
      · rw [zgetE_l (by omega)]
        have := h6 e (by omega)
        omega
    cases st with
    | nil =>
      rw [zpar] at h
      split at h
      · next gE =>
        split at h
        · next ga =>
          split at h
          · cases h
          · next cl b A hz =>
            obtain ⟨k1, k2, k3⟩ := zbeg_ok (pa := -1) hl ga hz
            have hE1 : E ++ [(C.getD (a + 1) (-1), a, -1, A)] = [(C.getD (a + 1) (-1), a, -1, A)] := by rw [gE, List.nil_append]
            refine ih _ _ _ _ _ _ ?_ ?_ (fun q => by cases q) ?_ ?_ ?_ h
            · have := zok_app (q := (C.getD (a + 1) (-1), a, -1, A)) h1 k1 (Or.inl ⟨by rw [gE]; rfl, rfl⟩)
              rw [hE1] at this
              exact this
            · intro e he
              cases cl
              · rw [List.mem_singleton.mp he]
                exact Nat.zero_lt_one
              · exact absurd he List.not_mem_nil
            · intro q hq
              have := h4 q hq
              rw [gE] at this
              exact absurd this.2.1 (Nat.not_lt_zero _)
            · have := zinc_app (q := (C.getD (a + 1) (-1), a, -1, A)) h5 h6
              rw [hE1] at this
              exact this
            · have := app (C.getD (a + 1) (-1), a, -1, A) b rfl k2
              rw [hE1] at this
              exact this
        · cases h
      · next gE =>
        split at h
        · cases h
          exact ⟨h1, h4, h5, gE⟩
        · cases h
    | cons e st =>
      have he := h2 e List.mem_cons_self
      have hEe : E ≠ [] := fun q => by rw [q] at he; exact absurd he (Nat.not_lt_zero _)
      rw [zpar] at h
      split at h
      · next ga =>
        split at h
        · split at h
          · split at h
            · exact ih _ _ _ _ _ _ h1 (fun x hx => h2 x (List.mem_cons_of_mem _ hx)) (fun q => absurd q hEe) h4 h5 (fun x hx => by have := h6 x hx; omega) h
            · cases h
          · cases h
        · split at h
          · cases h
          · next cl b A hz =>
            obtain ⟨k1, k2, k3⟩ := zbeg_ok (pa := nI e) hl ga hz
            refine ih _ _ _ _ _ _ (zok_app h1 k1 (Or.inr ⟨e, he, rfl⟩)) ?_ (fun q => by simp at q) (fun q hq => ?_) (zinc_app h5 h6) (app _ b rfl k2) h
            · intro x hx
              rw [List.length_append, List.length_singleton]
              cases cl
              · rcases List.mem_cons.mp hx with hx | hx
                · omega
                · have := h2 x hx
                  omega
              · have := h2 x hx
                omega
            · have := h4 q hq
              rw [List.length_append, zgetE_l this.2.1]
              exact ⟨this.1, by omega, this.2.2⟩
      · split at h
        · cases h
        · next q =>
          have : a < C.length := Nat.lt_of_not_le (fun z => q (Or.inl (zgetD_out z)))
          refine ih _ _ _ _ _ _ h1 h2 (fun q => absurd q hEe) (fun q hq => ?_) h5 (fun x hx => by have := h6 x hx; omega) h
          rcases List.mem_append.mp hq with hq | hq
          · exact h4 q hq
          · rw [List.mem_singleton.mp hq]
            exact ⟨this, he, h6 e he⟩
