/-! read, the elements on the class's side: attributes. -/
set_option maxRecDepth 100000
set_option linter.unusedVariables false
theorem zfa_s {E : List zE} {e : Nat} (h : e < E.length) : zfa E (e + 1) = zfa E e + (E.getD e (0, 0, 0, [])).2.2.2.length := by
  unfold zfa
  have e1 : E.take (e + 1) = E.take e ++ [E.getD e (0, 0, 0, [])] := by
    rw [List.take_succ_eq_append_getElem h, List.getD_eq_getElem?_getD, List.getElem?_eq_getElem h]
    rfl
  rw [e1, List.map_append, List.sum_append]
  simp
theorem zfa_m {E : List zE} : ∀ m e, e + m ≤ E.length → zfa E e ≤ zfa E (e + m) := by
  intro m
  induction m with
  | zero => intro e _; exact Nat.le_refl _
  | succ m ih =>
    intro e h
    have h1 := ih e (by omega)
    have h2 := zfa_s (E := E) (e := e + m) (by omega)
    rw [show e + (m + 1) = e + m + 1 by omega]
    omega
theorem zfa_le {E : List zE} {e : Nat} (h : e < E.length) : zfa E e + (E.getD e (0, 0, 0, [])).2.2.2.length ≤ zfa E E.length := by
  have h1 := zfa_m (E := E) (E.length - (e + 1)) (e + 1) (by omega)
  rw [show e + 1 + (E.length - (e + 1)) = E.length by omega, zfa_s h] at h1
  exact h1
/-- the first attribute with the letter x from the k-th on -/
def zfnd (C : List Int32) (A : List (Nat × Nat)) (x : Int32) : Nat → Nat → Option Nat
  | 0, _ => none
  | m + 1, k => if C.getD (A.getD k (0, 0)).1 (-1) = x then some k else zfnd C A x m (k + 1)
/-- what the class's numbers keep to -/
def zEb (E : List zE) : Prop := E.length ≤ 30 ∧ zfa E E.length ≤ 60 ∧ ∀ e, e < E.length → ∀ k, k < (E.getD e (0, 0, 0, [])).2.2.2.length → ((E.getD e (0, 0, 0, [])).2.2.2.getD k (0, 0)).1 < 300
theorem zs46 {a r e : Nat} {x : Int32} {s : zS} {C : List Int32} {E : List zE} (hB : zB a r) (hC : zRow r s C) (hE : zEl a s E) (hb : zEb E) (he : e < E.length) :
    zf46 a (nI e) x s = some ((match zfnd C (E.getD e (0, 0, 0, [])).2.2.2 x (E.getD e (0, 0, 0, [])).2.2.2.length 0 with | none => -1 | some j => nI (zfa E e + j)), s) := by
  obtain ⟨b0, b1, b2, b3, b4, b5, b6, b7, b8, b9⟩ := zB_e hB
  obtain ⟨c1, c2, c3, c4, c5, c6, c7, c8, c9, c10⟩ := zB_c hB
  obtain ⟨h1, h2, h3⟩ := hE
  obtain ⟨k1, k2, k3, k4, k5, k6⟩ := h3 e he
  have hpl := hb.2.2 e he
  have hle := zfa_le he
  have h60 := hb.2.1
  have h30 := hb.1
  generalize (E.getD e (0, 0, 0, [])).2.2.2 = A at *
  generalize zfa E e = f at *
  have l : ∀ m k n, k + m = A.length → m < n → zf46_7 a n (nI e) x (nI (f + k)) s = some ((match zfnd C A x m k with | none => -1 | some j => nI (f + j)), s) := by
    intro m
    induction m with
    | zero =>
      intro k n hk hn
      obtain ⟨n, rfl⟩ : ∃ n', n = n' + 1 := ⟨n - 1, by omega⟩
      rw [zf46_7, b5, zal_n (by omega), k5, if_pos ((zn_le (by omega) (by omega)).mpr (by omega))]
      rfl
    | succ m ih =>
      intro k n hk hn
      obtain ⟨n, rfl⟩ : ∃ n', n = n' + 1 := ⟨n - 1, by omega⟩
      have hp := hpl k (by omega)
      rw [zf46_7, b5, zal_n (by omega), k5, if_neg (fun q => by have := (zn_le (by omega) (by omega)).mp q; omega), b6, zal_n (by omega), (k6 k (by omega)).1, b0, z18 hC (by omega)]
      simp only [zbi]
      rw [zfnd]
      by_cases g : C.getD (A.getD k (0, 0)).1 (-1) = x
      · rw [if_neg (fun q => q g), if_pos g]
      · rw [if_pos g, if_neg g, zn_a1]
        exact ih (k + 1) n (by omega) (by omega)
  unfold zf46
  rw [b4, zal_n (by omega), k4]
  exact l A.length 0 zfz (Nat.zero_add _) (by rw [zfz_e]; omega)
theorem zfnd_n {C : List Int32} {A : List (Nat × Nat)} {x : Int32} : ∀ m k, k + m = A.length → (zfnd C A x m k = none ↔ ∀ j, k ≤ j → j < A.length → C.getD (A.getD j (0, 0)).1 (-1) ≠ x) := by
  intro m
  induction m with
  | zero =>
    intro k h
    exact ⟨fun _ j h1 h2 => by omega, fun _ => rfl⟩
  | succ m ih =>
    intro k h
    rw [zfnd]
    by_cases g : C.getD (A.getD k (0, 0)).1 (-1) = x
    · rw [if_pos g]
      exact ⟨fun q => (by cases q), fun q => absurd g (q k (Nat.le_refl _) (by omega))⟩
    · rw [if_neg g, ih (k + 1) (by omega)]
      constructor
      · intro q j h1 h2
        by_cases e : j = k
        · subst e
          exact g
        · exact q j (by omega) h2
      · intro q j h1 h2
        exact q j (by omega) h2
theorem zgetA {A : List (Nat × Nat)} {j : Nat} (h : j < A.length) : A.getD j (0, 0) = A[j] := by
  rw [List.getD_eq_getElem?_getD, List.getElem?_eq_getElem h]
  rfl
theorem zfnd_m {C : List Int32} {A : List (Nat × Nat)} {x : Int32} : zfnd C A x A.length 0 = none ↔ x ∉ A.map (fun q => C.getD q.1 (-1)) := by
  rw [zfnd_n A.length 0 (Nat.zero_add _)]
  constructor
  · intro h q
    obtain ⟨p, hp, e⟩ := List.mem_map.mp q
    obtain ⟨j, hj, e2⟩ := List.getElem_of_mem hp
    refine h j (Nat.zero_le _) hj ?_
    rw [zgetA hj, e2]
    exact e
  · intro h j _ hj e
    refine h (List.mem_map.mpr ⟨A[j], List.getElem_mem hj, ?_⟩)
    rw [zgetA hj] at e
    exact e
theorem zw_cc {s : zS} {k1 f1 k2 f2 : Nat} {x y x' y' : Int32} (h : k1 ≠ k2) : zw (zw (zw (zw s k1 f1 x) k2 f2 y) k1 f1 x') k2 f2 y' = zw (zw s k1 f1 x') k2 f2 y' := by
  funext q j
  unfold zw
  by_cases h2 : q = k2 ∧ j = f2
  · simp only [h2, and_self, if_true]
  · simp only [h2, if_false]
    by_cases h1 : q = k1 ∧ j = f1
    · simp only [h1, and_self, if_true]
    · simp only [h1, if_false]
theorem zrun_le (C : List Int32) : ∀ m p, zrun C m p ≤ m ∧ (0 < zrun C m p → p + zrun C m p ≤ C.length) := by
  intro m
  induction m with
  | zero => intro p; exact ⟨Nat.le_refl _, fun h => absurd h (Nat.lt_irrefl _)⟩
  | succ m ih =>
    intro p
    rw [zrun]
    split
    · next g =>
      have h1 := ih (p + 1)
      refine ⟨by omega, fun _ => ?_⟩
      have hp : p < C.length := Nat.lt_of_not_le (fun q => by rw [zgetD_out q] at g; exact absurd g (by decide))
      by_cases e : zrun C m (p + 1) = 0
      · omega
      · have := h1.2 (by omega)
        omega
    · exact ⟨Nat.zero_le _, fun h => absurd h (Nat.lt_irrefl _)⟩
theorem zs45_v {a r j : Nat} {C : List Int32} (hB : zB a r) (hj : j < 60) : ∀ m n t p v (s : zS), m < n → t + m = 300 → p + m < 2000 → v + m < 2000 → zRow r s C → s a 11 = nI p → s (a + 7) j = nI v → zf45_125 a n (nI j) (nI t) s = zf45_176 a (zw (zw s (a + 7) j (nI (v + zrun C m p))) a 11 (nI (p + zrun C m p))) := by
  obtain ⟨b0, b1, b2, b3, b4, b5, b6, b7, b8, b9⟩ := zB_e hB
  obtain ⟨c1, c2, c3, c4, c5, c6, c7, c8, c9, c10⟩ := zB_c hB
  have triv : ∀ (s : zS) (p v : Nat), s a 11 = nI p → s (a + 7) j = nI v → zw (zw s (a + 7) j (nI v)) a 11 (nI p) = s := by
    intro s p v h1 h2
    funext q i
    unfold zw
    split
    · next h => rw [h.1, h.2, h1]
    · split
      · next h => rw [h.1, h.2, h2]
      · rfl
  intro m
  induction m with
  | zero =>
    intro n t p v s hn ht hp hv hC h1 h2
    obtain ⟨n, rfl⟩ : ∃ n', n = n' + 1 := ⟨n - 1, by omega⟩
    rw [zf45_125, if_pos ((zn_geL (k := 300) (by omega) (by decide)).mpr (by omega)), zrun, Nat.add_zero v, Nat.add_zero p, triv s p v h1 h2]
  | succ m ih =>
    intro n t p v s hn ht hp hv hC h1 h2
    obtain ⟨n, rfl⟩ : ∃ n', n = n' + 1 := ⟨n - 1, by omega⟩
    rw [zf45_125, if_neg (fun q => by have := (zn_geL (k := 300) (by omega) (by decide)).mp q; omega)]
    simp only [zgf, h1]
    rw [b0, z18 hC (by omega)]
    simp only [zbi]
    rw [z48]
    simp only
    rw [zb_if0, zrun]
    by_cases g : zpn (C.getD p (-1)) = true
    · have hpl : p < C.length := Nat.lt_of_not_le (fun q => by rw [zgetD_out q] at g; exact absurd g (by decide))
      have hcl := zRow_lt hC
      have hc3 := hC.2.1
      rw [b9, c9] at hc3
      rw [if_pos g, if_pos g, b7, zal_n (by omega), h2, zas_n (by omega)]
      simp only [zpf]
      rw [zw_ne (by omega), h1, zn_a1, zn_a1, zn_a1]
      have hC2 : zRow r (zw (zw s (a + 7) j (nI (v + 1))) a 11 (nI (p + 1))) C := zRow_w (zRow_w hC (Or.inl (by omega)) (by rw [b9]; omega)) (Or.inl (by omega)) (by rw [b9]; omega)
      rw [ih n (t + 1) (p + 1) (v + 1) _ (by omega) (by omega) (by omega) (by omega) hC2 zw_s (by rw [zw_ne (by omega), zw_s]), zw_cc (by omega)]
      rw [show v + 1 + zrun C m (p + 1) = v + (zrun C m (p + 1) + 1) by omega, show p + 1 + zrun C m (p + 1) = p + (zrun C m (p + 1) + 1) by omega]
    · rw [if_neg g, if_neg g, Nat.add_zero v, Nat.add_zero p, triv s p v h1 h2]
