/-! Which attributes may stand where: the class's and the model's tests; the model's ways through the attributes. -/
set_option maxRecDepth 100000
set_option linter.unusedVariables false
theorem zmy_0 {k l c d : Int32} : zmy k l c d 0 = false := by
  unfold zmy
  by_cases g1 : k = 112 ∨ k = 120
  · simp [g1]
  · rw [if_neg g1]
    by_cases g2 : k = 115
    · rw [if_pos g2]
      by_cases l1 : l = 110 ∨ l = 102
      · simp [l1]
      · rw [if_neg l1]
        by_cases l2 : l = 98
        · simp [l2]
        · by_cases l3 : l = 122
          · simp [l2, l3]
          · by_cases l4 : l = 107 <;> simp [l2, l3, l4]
    · rw [if_neg g2]
theorem z56 {a r j f m : Nat} {k : Int32} {s : zS} {C : List Int32} (hB : zB a r) (hC : zRow r s C) (hj : j < 60) (h6 : s (a + 6) j = nI f) (h7 : s (a + 7) j = nI m) (hf : f < 1000) (hm : m < 5000) : zf56 a k (nI j) s = some (if zmy k (C.getD f (-1)) (C.getD (f + 3) (-1)) (C.getD (f + 4) (-1)) m = true then 1 else 0, s) := by
  obtain ⟨b0, b1, b2, b3, b4, b5, b6, b7, b8, b9⟩ := zB_e hB
  obtain ⟨c1, c2, c3, c4, c5, c6, c7, c8, c9, c10⟩ := zB_c hB
  have e57 : zf57 a (nI j) 0 s = some (C.getD (f + 3) (-1), s) := by
    unfold zf57
    rw [b6, zal_n (by omega), h6, zn_lit 3, zn_add, zn_a0, b0, z18 hC (by omega), zbi_e]
  have hk : k = 112 ∨ k = 120 ∨ k ≠ 112 := by
    by_cases g : k = 112
    · exact Or.inl g
    · exact Or.inr (Or.inr g)
  unfold zf56
  rw [b6, zal_n (by omega), h6, b0, z18 hC (by omega), zbi_e, b7, zal_n (by omega), h7, e57, zbi_e, z56_37 hB hC hj h6 hf hm hk, z56_37 hB hC hj h6 hf hm hk]
  by_cases g : m = 0
  · rw [if_neg (show ¬ ¬ nI m = 0 from fun q => q (by rw [g]; rfl)), g, zmy_0, zmy_0]
  · rw [if_pos (show ¬ nI m = 0 from fun q => g ((zn_eqL (k := 0) (by omega) (by decide)).mp q))]
theorem z180 {p e x m : Nat} {k l : Int32} {s : zS} {C : List Int32} (hp : p < 2) (h : zMs p s C) (he : e < 30) (h7 : s 187 (30 * p + e) = k) (hx : x < 1000) (hm : m < 5000) (hk : (p = 1 → k ≠ 115) ∧ (p = 0 → k ≠ 112 ∧ k ≠ 120)) :
    zf180 179 (nI p) (nI e) l (nI x) (nI (x + m)) s = some (if zmy k l (C.getD x (-1)) (C.getD (x + 1) (-1)) m = true then 1 else 0, s) := by
  have n30 : (30 : Int32) * nI p + nI e = nI (30 * p + e) := by rw [zn_lit 30, zn_mul, zn_add]
  have e5 : nI (x + m) - nI x = nI m := by rw [zn_sub (by omega), Nat.add_sub_cancel_left]
  have e165 := z165 (i := x + 1) hp h (by omega)
  have em : ∀ {R : Type} {A B : R}, (if ¬ nI m = 1 then A else B) = if m = 1 then B else A := by
    intro R A B
    by_cases g : m = 1
    · rw [if_neg (fun q => q ((zn_eqL (k := 1) (by omega) (by decide)).mpr g)), if_pos g]
    · rw [if_pos (fun q => g ((zn_eqL (k := 1) (by omega) (by decide)).mp q)), if_neg g]
  have em2 : ∀ {R : Type} {A B : R}, (if ¬ nI m = 2 then A else B) = if m = 2 then B else A := by
    intro R A B
    by_cases g : m = 2
    · rw [if_neg (fun q => q ((zn_eqL (k := 2) (by omega) (by decide)).mpr g)), if_pos g]
    · rw [if_pos (fun q => g ((zn_eqL (k := 2) (by omega) (by decide)).mp q)), if_neg g]
  unfold zf180
  rw [show zrf 179 10 = 187 from rfl, n30, zal_n (by show _ < 60; omega), h7, z165 hp h (by omega), zbi_e, e5, em]
  generalize C.getD x (-1) = c
  generalize C.getD (x + 1) (-1) = d at *
  have key : ∀ t : Int32, (m = 1 → t = 1) → (m ≠ 1 → t = 0) → zf180_36 179 (nI p) l (nI x) (nI (x + m)) k c t s = some (if zmy k l c d m = true then 1 else 0, s) := by
    intro t ht1 ht0
    unfold zf180_36 zf180_103 zf180_57 zmy
    rw [e5, zn_a1]
    simp only [z156, z172, zbi_e, e165]
    rw [em2]
    by_cases gp : p = 1
    · subst gp
      have hk1 := hk.1 rfl
      rw [if_neg (show ¬ ¬ nI 1 = 1 from fun q => q rfl)]
      by_cases m1 : m = 1
      · have := ht1 m1
        subst this
        by_cases g1 : k = 112
        · by_cases l0 : l = 121
          · cases q0 : zcl c <;> simp [g1, l0, m1, zrb0, zrb1]
          · simp [g1, l0, zrb0]
        · by_cases g2 : k = 120
          · by_cases l0 : l = 121
            · cases q0 : zcl c <;> simp [g2, l0, m1, zrb0, zrb1]
            · simp [g2, l0, zrb0]
          · simp [g1, g2, hk1, zrb0]
      · have := ht0 m1
        subst this
        by_cases g1 : k = 112
        · simp [g1, m1, zrb0]
        · by_cases g2 : k = 120
          · simp [g2, m1, zrb0]
          · simp [g1, g2, hk1, zrb0]
    · have gp0 : p = 0 := by omega
      subst gp0
      obtain ⟨hk1, hk2⟩ := hk.2 rfl
      rw [if_pos (show ¬ nI 0 = 1 by decide)]
      by_cases g3 : k = 115
      rotate_left
      · simp [g3, hk1, hk2, zrb0]
      subst g3
      by_cases m1 : m = 1
      · have := ht1 m1
        subst this
        by_cases l4 : l = 110
        · subst l4
          cases q0 : zcl c <;> simp [m1, zrb0, zrb1]
        by_cases l2 : l = 102
        · subst l2
          cases q0 : zcl c <;> simp [m1, zrb0, zrb1]
        by_cases l1 : l = 98
        · subst l1
          by_cases q2 : c = 48
          · simp [m1, q2, zrb1]
          · by_cases q3 : c = 49
            · simp [m1, q3, zrb1]
            · simp [m1, q2, q3, zrb0]
        by_cases l5 : l = 122
        · subst l5
          by_cases q1 : c = 48
          · cases q0 : zdg c <;> simp [q0, q1, zrb0]
          · cases q0 : zdg c <;> simp [q0, q1, m1, zrb0, zrb1]
        by_cases l3 : l = 107
        · subst l3
          cases q0 : zdg c <;> simp [m1, zrb0, zrb1]
        simp [l1, l2, l3, l4, l5, zrb0]
      · have := ht0 m1
        subst this
        by_cases l4 : l = 110
        · subst l4
          simp [m1, zrb0]
        by_cases l2 : l = 102
        · subst l2
          simp [m1, zrb0]
        by_cases l1 : l = 98
        · subst l1
          simp [m1, zrb0]
        by_cases l5 : l = 122
        · subst l5
          by_cases q1 : c = 48
          · cases q0 : zdg c <;> simp [q0, q1, zrb0]
          · by_cases q3 : m = 2
            · cases q0 : zdg c <;> cases q4 : zdg d <;> simp [q0, q1, q3, q4, zrb0, zrb1]
            · cases q0 : zdg c <;> simp [q0, q1, m1, q3, zrb0]
        by_cases l3 : l = 107
        · subst l3
          simp [m1, zrb0]
        simp [l1, l2, l3, l4, l5, zrb0]
  by_cases m1 : m = 1
  · rw [if_pos m1]
    exact key 1 (fun _ => rfl) (fun q => absurd m1 q)
  · rw [if_neg m1]
    exact key 0 (fun q => absurd q m1) (fun _ => rfl)
theorem z179 {p : Nat} {s : zS} {C : List Int32} (hp : p < 2) (h : zMs p s C) {i m : Nat} (h1 : ∀ k, k < m → zpn (C.getD (i + k) (-1)) = true) (h2 : C.getD (i + m) (-1) = 34) (him : i + m < 5000) : zf179 179 (nI p) (nI i) s = some (nI (i + m), s) := by
  have l : ∀ d n j, j + d = m → d < n → zf179_2 179 n (nI p) (nI (i + j)) s = some (nI (i + m), s) := by
    intro d
    induction d with
    | zero =>
      intro n j hj hn
      obtain ⟨n, rfl⟩ : ∃ n', n = n' + 1 := ⟨n - 1, by omega⟩
      have : j = m := by omega
      subst this
      rw [zf179_2, z165 hp h (by omega), zbi_e, if_pos h2]
    | succ d ih =>
      intro n j hj hn
      obtain ⟨n, rfl⟩ : ∃ n', n = n' + 1 := ⟨n - 1, by omega⟩
      have hne : ¬ C.getD (i + j) (-1) = 34 := by
        intro e
        have := h1 j (by omega)
        rw [e] at this
        exact absurd this (by decide)
      rw [zf179_2, z165 hp h (by omega), zbi_e, if_neg hne, zn_a1]
      exact ih n (j + 1) (by omega) (by omega)
  exact l m zfz 0 (Nat.zero_add _) (by rw [zfz_e]; omega)
/-- the first attribute that may not stand there -/
def zbd (C : List Int32) (k : Int32) : List (Nat × Nat) → Option Nat
  | [] => none
  | q :: A => if zmy k (C.getD q.1 (-1)) (C.getD (q.1 + 3) (-1)) (C.getD (q.1 + 4) (-1)) q.2 = true then zbd C k A else some q.1
theorem zm178_l {p e b : Nat} {k : Int32} {s : zS} {C : List Int32} (hb : b < 5000) (hp : p < 2) (h : zMs p s C) (he : e < 30) (h7 : s 187 (30 * p + e) = k) (hk : (p = 1 → k ≠ 115) ∧ (p = 0 → k ≠ 112 ∧ k ≠ 120)) : ∀ A n a, A.length < n → zch C a A b → zf178_14 179 n (nI p) (nI e) (nI a) s = some ((match zbd C k A with | none => -1 | some f => nI f), s) := by
  have hl := h.1.1
  intro A
  induction A with
  | nil =>
    intro n a hn hc
    obtain ⟨n, rfl⟩ : ∃ n', n = n' + 1 := ⟨n - 1, by omega⟩
    have ha : a < 2000000 := by have := hc.1; omega
    rw [zf178_14, z165 hp h ha, zbi_e, if_pos hc.2]
    rfl
  | cons q A ih =>
    intro n a hn hc
    rw [List.length_cons] at hn
    obtain ⟨n, rfl⟩ : ∃ n', n = n' + 1 := ⟨n - 1, by omega⟩
    obtain ⟨k1, k2, k3, k4, k5, k6, k7, k8⟩ := hc
    have ha := zin k7 (by decide)
    have q4 : nI a + 4 = nI (a + 4) := by rw [zn_lit 4, zn_add]
    have e2 : C.getD q.1 (-1) = C.getD (a + 1) (-1) := by rw [k2]
    rw [zf178_14, z165 hp h (by omega), zbi_e, if_neg (show ¬ ¬ C.getD a (-1) = 32 from fun z => z k1), q4, z179 hp h k6 k7 (by omega), zbi_e, zn_a1, z165 hp h (by omega), zbi_e, z180 hp h he h7 (by omega) (by omega) hk, zbi_e, zb_if, zn_a1]
    rw [zbd, k2]
    by_cases g : zmy k (C.getD (a + 1) (-1)) (C.getD (a + 1 + 3) (-1)) (C.getD (a + 1 + 4) (-1)) q.2 = true
    · rw [if_pos g, if_pos g]
      exact ih n _ (by omega) k8
    · rw [if_neg g, if_neg g]
