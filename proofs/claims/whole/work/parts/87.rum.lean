/-! The faults of elements (rules), on the model's side. -/
set_option maxRecDepth 100000
set_option linter.unusedVariables false
/-- where the value of the attribute with the letter l begins -/
def zvp (C : List Int32) (l : Int32) : List (Nat × Nat) → Option Nat
  | [] => none
  | q :: A => if C.getD q.1 (-1) = l then some (q.1 + 3) else zvp C l A
theorem zvp_n {C : List Int32} {l : Int32} : ∀ A, zvp C l A = none ↔ l ∉ A.map (fun q => C.getD q.1 (-1)) := by
  intro A
  induction A with
  | nil => exact ⟨fun _ => List.not_mem_nil, fun _ => rfl⟩
  | cons q A ih =>
    rw [zvp, List.map_cons, List.mem_cons]
    by_cases g : C.getD q.1 (-1) = l
    · rw [if_pos g]
      exact ⟨fun h => (by cases h), fun h => absurd (Or.inl g.symm) h⟩
    · rw [if_neg g, ih]
      constructor
      · intro h h2
        rcases h2 with h2 | h2
        · exact g h2.symm
        · exact h h2
      · intro h h2
        exact h (Or.inr h2)
theorem zm181_l {p b : Nat} {l : Int32} {s : zS} {C : List Int32} (hb : b < 5000) (hp : p < 2) (h : zMs p s C) : ∀ A n a (x5 : Int32), A.length < n → zch C a A b → (A.map fun q => C.getD q.1 (-1)).Nodup → zf181_18 179 n (nI p) l (nI a) x5 s = some ((match zvp C l A with | none => x5 | some v => nI v), s) := by
  have hl := h.1.1
  intro A
  induction A with
  | nil =>
    intro n a x5 hn hc _
    obtain ⟨n, rfl⟩ : ∃ n', n = n' + 1 := ⟨n - 1, by omega⟩
    have ha : a < 2000000 := by have := hc.1; omega
    rw [zf181_18, z165 hp h ha, zbi_e, if_pos hc.2]
    rfl
  | cons q A ih =>
    intro n a x5 hn hc hnd
    rw [List.length_cons] at hn
    obtain ⟨n, rfl⟩ : ∃ n', n = n' + 1 := ⟨n - 1, by omega⟩
    obtain ⟨k1, k2, k3, k4, k5, k6, k7, k8⟩ := hc
    have ha := zin k7 (by decide)
    have q4 : nI a + 4 = nI (a + 4) := by rw [zn_lit 4, zn_add]
    rw [List.map_cons, List.nodup_cons] at hnd
    have e52 : ∀ t0 : Int32, zf181_52 179 (zf181_18 179 n) (nI p) l (nI a) t0 s = some ((match zvp C l A with | none => t0 | some v => nI v), s) := by
      intro t0
      unfold zf181_52
      rw [q4, z179 hp h k6 k7 (by omega), zbi_e, zn_a1]
      exact ih n _ t0 (by omega) k8 hnd.2
    rw [zf181_18, z165 hp h (by omega), zbi_e, if_neg (show ¬ ¬ C.getD a (-1) = 32 from fun z => z k1), zn_a1, z165 hp h (by omega), zbi_e, e52, q4, e52, zvp, k2]
    by_cases g : C.getD (a + 1) (-1) = l
    · rw [if_neg (show ¬ ¬ C.getD (a + 1) (-1) = l from fun z => z g), if_pos g]
      have : zvp C l A = none := (zvp_n A).mpr (fun hm => by rw [k2, g] at hnd; exact hnd.1 hm)
      rw [this]
    · rw [if_pos (show ¬ C.getD (a + 1) (-1) = l from g), if_neg g]
theorem zch_len {C : List Int32} : ∀ A a b, zch C a A b → A.length ≤ b := by
  intro A
  induction A with
  | nil => intro a b _; exact Nat.zero_le _
  | cons q A ih =>
    intro a b h
    have h1 : ∀ A a b, zch C a A b → a + A.length ≤ b := by
      intro A
      induction A with
      | nil => intro a b h; have := h.1; rw [List.length_nil]; omega
      | cons q A ih2 =>
        intro a b h
        have := ih2 _ _ h.2.2.2.2.2.2.2
        rw [List.length_cons]
        omega
    have := h1 _ _ _ h
    omega
theorem z181 {p e b : Nat} {l : Int32} {s : zS} {C : List Int32} {E : List zE} (hp : p < 2) (h : zMs p s C) (hE : zMe p s E) (he : e < E.length) (h1 : zok1 C (E.getD e (0, 0, 0, []))) : zf181 179 (nI p) (nI e) l s = some (zoi (zvp C l (E.getD e (0, 0, 0, [])).2.2.2), s) := by
  obtain ⟨p1, p2, p3, p4, b, p5, p6, p7⟩ := h1
  have hl := h.1.1
  have h30 := hE.2.1
  have n30 : (30 : Int32) * nI p + nI e = nI (30 * p + e) := by rw [zn_lit 30, zn_mul, zn_add]
  have hlen := zch_len _ _ _ p5
  unfold zf181
  rw [show zrf 179 11 = 188 from rfl, n30, zal_n (by show _ < 60; omega), (hE.2.2 e he).2.1, zn_lit 2, zn_add, zm181_l (by omega) hp h _ zfz _ _ (by rw [zfz_e]; omega) p5 p4]
  cases zvp C l (E.getD e (0, 0, 0, [])).2.2.2 <;> rfl
theorem z178 {p e : Nat} {s : zS} {C : List Int32} {E : List zE} (hp : p < 2) (h : zMs p s C) (hE : zMe p s E) (he : e < E.length) (h1 : zok1 C (E.getD e (0, 0, 0, []))) (hk : (p = 1 → zkd E e ≠ 115) ∧ (p = 0 → zkd E e ≠ 112 ∧ zkd E e ≠ 120)) : zf178 179 (nI p) (nI e) s = some (zoi (zbd C (zkd E e) (E.getD e (0, 0, 0, [])).2.2.2), s) := by
  obtain ⟨p1, p2, p3, p4, b, p5, p6, p7⟩ := h1
  have hl := h.1.1
  have h30 := hE.2.1
  have n30 : (30 : Int32) * nI p + nI e = nI (30 * p + e) := by rw [zn_lit 30, zn_mul, zn_add]
  have hlen := zch_len _ _ _ p5
  unfold zf178
  rw [show zrf 179 11 = 188 from rfl, n30, zal_n (by show _ < 60; omega), (hE.2.2 e he).2.1, zn_lit 2, zn_add, zm178_l (by omega) hp h (by omega) (hE.2.2 e he).1 hk _ zfz _ (by rw [zfz_e]; omega) p5]
  have : (E.getD e (0, 0, 0, [])).1 = zkd E e := rfl
  rw [this]
  cases zbd C (zkd E e) (E.getD e (0, 0, 0, [])).2.2.2 <;> rfl
theorem z182 {p e : Nat} {s : zS} {C : List Int32} {O : List (Nat × Nat)} (hp : p < 2) (h : zMs p s C) (hO : ∀ j, j < 300 → s 190 (300 * p + j) = zow O j) (he : e < 1000) : zf182 179 (nI p) (nI e) s = some (zoi (zfl O e C.length 0), s) := by
  have hl := h.1.1
  have l : ∀ m n i, i + m = C.length → m < n → zf182_2 179 n (nI p) (nI e) (nI i) s = some (zoi (zfl O e m i), s) := by
    intro m
    induction m with
    | zero =>
      intro n i hi hn
      obtain ⟨n, rfl⟩ : ∃ n', n = n' + 1 := ⟨n - 1, by omega⟩
      rw [zf182_2, show zrf 179 8 = 185 from rfl, zal_n (by show p < 2; omega), h.2, if_pos ((zn_le (by omega) (by omega)).mpr (by omega))]
      rfl
    | succ m ih =>
      intro n i hi hn
      obtain ⟨n, rfl⟩ : ∃ n', n = n' + 1 := ⟨n - 1, by omega⟩
      rw [zf182_2, show zrf 179 8 = 185 from rfl, zal_n (by show p < 2; omega), h.2, if_neg (fun q => by have := (zn_le (by omega) (by omega)).mp q; omega), show zrf 179 13 = 190 from rfl, zn_300, zal_n (by show _ < 600; omega), hO i (by omega), zfl]
      by_cases g : zow O i = nI e
      · rw [if_neg (fun q => q g), if_pos g]
        rfl
      · rw [if_pos g, if_neg g, zn_a1]
        exact ih n (i + 1) (by omega) (by omega)
  exact l C.length zfz 0 (Nat.zero_add _) (by rw [zfz_e]; omega)
theorem z183 {p e : Nat} {k1 k2 : Int32} {s : zS} {E : List zE} (hp : p < 2) (hE : zMe p s E) (he : e < E.length) : zf183 179 (nI p) (nI e) k1 k2 s = some (if zhs E e k1 k2 (E.length - (e + 1)) (e + 1) = true then 1 else 0, s) := by
  have h30 := hE.2.1
  have n30 : ∀ i, (30 : Int32) * nI p + nI i = nI (30 * p + i) := fun i => by rw [zn_lit 30, zn_mul, zn_add]
  have l : ∀ m n i (b : Bool), i + m = E.length → m < n → zf183_8 179 n (nI p) (nI e) k1 k2 (if b = true then 1 else 0) (nI i) s = some (if (b || zhs E e k1 k2 m i) = true then 1 else 0, s) := by
    intro m
    induction m with
    | zero =>
      intro n i b hi hn
      obtain ⟨n, rfl⟩ : ∃ n', n = n' + 1 := ⟨n - 1, by omega⟩
      rw [zf183_8, show zrf 179 9 = 186 from rfl, zal_n (by show p < 2; omega), hE.1, if_pos ((zn_le (by omega) (by omega)).mpr (by omega)), zrb_b, zhs, Bool.or_false]
    | succ m ih =>
      intro n i b hi hn
      obtain ⟨n, rfl⟩ : ∃ n', n = n' + 1 := ⟨n - 1, by omega⟩
      obtain ⟨t1, t2, t3⟩ := hE.2.2 i (by omega)
      have kk : s 187 (30 * p + i) = zkd E i := t1
      have i1 := ih n (i + 1) true (by omega) (by omega)
      have i0 := ih n (i + 1) false (by omega) (by omega)
      have r1 : zf183_8 179 n (nI p) (nI e) k1 k2 1 (nI (i + 1)) s = some (1, s) := i1
      have r0 : zf183_8 179 n (nI p) (nI e) k1 k2 0 (nI (i + 1)) s = some (if zhs E e k1 k2 m (i + 1) = true then 1 else 0, s) := i0
      rw [zf183_8, show zrf 179 9 = 186 from rfl, zal_n (by show p < 2; omega), hE.1, if_neg (fun q => by have := (zn_le (by omega) (by omega)).mp q; omega), show zrf 179 10 = 187 from rfl, n30, zal_n (by show _ < 60; omega), kk, zb_if, show zrf 179 12 = 189 from rfl, zal_n (by show _ < 60; omega), t3, zn_a1, r1, r0, zhs]
      cases b with
      | true => rfl
      | false =>
        simp only [Bool.false_or, Bool.false_eq_true, if_false]
        by_cases g1 : (E.getD i (0, 0, 0, [])).2.2.1 = nI e
        · by_cases g2 : zkd E i = k1
          · simp only [g1, g2, not_true_eq_false, if_false, if_true, true_or, and_self]
          · by_cases g3 : zkd E i = k2
            · simp only [g1, g3, not_true_eq_false, if_false, if_true, or_true, and_self, ite_self]
            · simp only [g1, g2, g3, not_true_eq_false, not_false_eq_true, if_false, if_true, or_self, and_false]
        · simp only [g1, not_false_eq_true, if_true, false_and, if_false]
  unfold zf183
  rw [zn_a1]
  exact l (E.length - (e + 1)) zfz (e + 1) false (by omega) (by rw [zfz_e]; omega)
/-- the kinds that stand in a content without faults before e -/
def zkO (p : Nat) (k : Int32) : Prop := (p = 0 → k = 116 ∨ k = 115) ∧ (p = 1 → k = 100 ∨ k = 112 ∨ k = 108 ∨ k = 105 ∨ k = 120)
theorem z176 {p e : Nat} {s : zS} {C : List Int32} {E : List zE} (hp : p < 2) (hE : zMe p s E) (he : e < E.length) (hok : zok C E) (hk : ∀ j, j < e → zkO p (zkd E j)) : zf176 179 (nI p) (nI e) s = some (if zst E (if p = 0 then 116 else 100) e = true then 1 else 0, s) := by
  have h30 := hE.2.1
  have n30 : ∀ i, (30 : Int32) * nI p + nI i = nI (30 * p + i) := fun i => by rw [zn_lit 30, zn_mul, zn_add]
  obtain ⟨t1, t2, t3⟩ := hE.2.2 e he
  have kk : s 187 (30 * p + e) = zkd E e := t1
  obtain ⟨o1, o2⟩ := hok e he
  unfold zf176 zf176_91
  rw [show zrf 179 10 = 187 from rfl, n30, zal_n (by show _ < 60; omega), kk]
  unfold zf177 zst
  rw [show zrf 179 12 = 189 from rfl, n30, zal_n (by show _ < 60; omega), t3]
  generalize zkd E e = k
  have hp2 : p = 0 ∨ p = 1 := by omega
  rcases o2 with ⟨o3, o4⟩ | ⟨j, o3, o4⟩
  · rw [o4, if_neg (by decide), zbi_e]
    rcases hp2 with rfl | rfl
    · by_cases g : k = 116
      · simp [g, nI, zrb1]
      · simp [g, nI, zrb0]
    · by_cases g : k = 100
      · simp [g, nI, zrb1]
      · simp [g, nI, zrb0]
  · have kj : s 187 (30 * p + j) = zkd E j := (hE.2.2 j (by omega)).1
    rw [o4, if_pos (Int32.not_lt.mp (zn_nn (by omega))), show zrf 179 10 = 187 from rfl, n30, zal_n (by show _ < 60; omega), kj, zbi_e, if_neg (show ¬ nI j = -1 from zn_nm (by omega)), zn_cl (by omega)]
    have ho := hk j o3
    generalize zkd E j = o at *
    rcases hp2 with rfl | rfl
    · rcases ho.1 rfl with rfl | rfl
      · by_cases g : k = 115 <;> simp [g, nI, zmst, zrb0, zrb1]
      · simp [nI, zmst, zrb0]
    · rcases ho.2 rfl with rfl | rfl | rfl | rfl | rfl
      · by_cases g1 : k = 112
        · simp [g1, nI, zmst, zrb1]
        · by_cases g2 : k = 108
          · simp [g2, nI, zmst, zrb1]
          · by_cases g3 : k = 105
            · simp [g3, nI, zmst, zrb0]
            · by_cases g4 : k = 120 <;> simp [g1, g2, g3, g4, nI, zmst, zrb0]
      · by_cases g1 : k = 112
        · simp [g1, nI, zmst, zrb0]
        · by_cases g2 : k = 108
          · simp [g2, nI, zmst, zrb0]
          · by_cases g3 : k = 105
            · simp [g3, nI, zmst, zrb0]
            · by_cases g4 : k = 120 <;> simp [g1, g2, g3, g4, nI, zmst, zrb0, zrb1]
      · by_cases g1 : k = 112
        · simp [g1, nI, zmst, zrb0]
        · by_cases g2 : k = 108
          · simp [g2, nI, zmst, zrb0]
          · by_cases g3 : k = 105
            · simp [g3, nI, zmst, zrb1]
            · by_cases g4 : k = 120 <;> simp [g1, g2, g3, g4, nI, zmst, zrb0]
      · by_cases g1 : k = 112
        · simp [g1, nI, zmst, zrb1]
        · by_cases g2 : k = 108
          · simp [g2, nI, zmst, zrb1]
          · by_cases g3 : k = 105
            · simp [g3, nI, zmst, zrb0]
            · by_cases g4 : k = 120 <;> simp [g1, g2, g3, g4, nI, zmst, zrb0]
      · by_cases g1 : k = 112
        · simp [g1, nI, zmst, zrb0]
        · by_cases g2 : k = 108
          · simp [g2, nI, zmst, zrb0]
          · by_cases g3 : k = 105
            · simp [g3, nI, zmst, zrb0]
            · by_cases g4 : k = 120 <;> simp [g1, g2, g3, g4, nI, zmst, zrb0, zrb1]
