/-! Ints that count: nI. -/
set_option maxRecDepth 100000
theorem zn_add (a b : Nat) : nI a + nI b = nI (a + b) := (Int32.ofNat_add a b).symm
theorem zn_mul (a b : Nat) : nI a * nI b = nI (a * b) := (Int32.ofNat_mul a b).symm
theorem zn_lit (n : Nat) : (OfNat.ofNat n : Int32) = nI n := rfl
theorem zn_int {a : Nat} (ha : a < 2147483648) : (nI a).toInt = a := by
  unfold nI
  rw [Int32.toInt_ofNat_of_lt (by omega)]
theorem zn_lt {a b : Nat} (ha : a < 2147483648) (hb : b < 2147483648) : nI a < nI b ↔ a < b := by
  rw [Int32.lt_iff_toInt_lt, zn_int ha, zn_int hb]
  omega
theorem zn_le {a b : Nat} (ha : a < 2147483648) (hb : b < 2147483648) : nI a ≤ nI b ↔ a ≤ b := by
  rw [Int32.le_iff_toInt_le, zn_int ha, zn_int hb]
  omega
theorem zn_eq {a b : Nat} (ha : a < 2147483648) (hb : b < 2147483648) : nI a = nI b ↔ a = b := by
  refine ⟨fun h => ?_, fun h => by rw [h]⟩
  have h1 := congrArg Int32.toInt h
  rw [zn_int ha, zn_int hb] at h1
  omega
theorem zn_nn {a : Nat} (ha : a < 2147483648) : ¬ nI a < 0 := by
  rw [Int32.lt_iff_toInt_lt, zn_int ha]
  have : (0 : Int32).toInt = 0 := rfl
  omega
theorem zn_nm {a : Nat} (ha : a < 2147483648) : ¬ nI a = -1 := by
  intro h
  have h1 := congrArg Int32.toInt h
  rw [zn_int ha] at h1
  have : (-1 : Int32).toInt = -1 := rfl
  omega
theorem zn_of {x : Int32} (h : ¬ x < 0) : ∃ k, x = nI k ∧ k < 2147483648 := by
  have h1 := Int32.le_iff_toInt_le.mp (Int32.not_lt.mp h)
  have h2 : (0 : Int32).toInt = 0 := rfl
  have h3 := Int32.toInt_lt x
  refine ⟨x.toInt.toNat, Int32.toInt_inj.mp ?_, by omega⟩
  rw [zn_int (by omega)]
  omega
theorem zn_cl {a : Nat} (ha : a < 2147483648) : (nI a).toNatClampNeg = a := by
  show (nI a).toInt.toNat = a
  rw [zn_int ha]
  omega
theorem zcaL_ok : zcaL.all (fun n => decide (n < 5000)) = true := by decide +kernel
theorem zca_lt (a : Nat) : zca a < 5000 := by
  unfold zca
  rw [List.getD_eq_getElem?_getD]
  cases h : zcaL[a]? with
  | none => decide
  | some n => exact of_decide_eq_true (List.all_eq_true.mp zcaL_ok n (List.mem_of_getElem? h))
section ZN
variable {R : Type} {s : zS} {a j : Nat} {x : Int32}
theorem zal_n {c : Int32 → Option R} (h : j < zca a) : zal s a (nI j) c = c (s a j) := by
  have h1 := zca_lt a
  unfold zal
  rw [zn_cl (by omega), if_neg (fun q => q.elim (zn_nn (by omega)) (fun q => by omega))]
theorem zas_n {c : zS → Option R} (h : j < zca a) : zas s a (nI j) x c = c (zw s a j x) := by
  have h1 := zca_lt a
  unfold zas
  rw [zn_cl (by omega), if_neg (fun q => q.elim (zn_nn (by omega)) (fun q => by omega))]
theorem zar_n {c : Nat → Option R} (h : j < zca a) : zar a (nI j) c = c (zra a j) := by
  have h1 := zca_lt a
  unfold zar
  rw [zn_cl (by omega), if_neg (fun q => q.elim (zn_nn (by omega)) (fun q => by omega))]
end ZN
theorem zw_s {s : zS} {k f : Nat} {x : Int32} : zw s k f x k f = x := by
  unfold zw
  rw [if_pos ⟨rfl, rfl⟩]
theorem zw_o {s : zS} {k f q j : Nat} {x : Int32} (h : q ≠ k ∨ j ≠ f) : zw s k f x q j = s q j := by
  unfold zw
  rw [if_neg (fun e => h.elim (fun h => h e.1) (fun h => h e.2))]
theorem zw_w {s : zS} {k f : Nat} {x y : Int32} : zw (zw s k f x) k f y = zw s k f y := by
  funext q j
  unfold zw
  by_cases h : q = k ∧ j = f
  · rw [if_pos h, if_pos h]
  · rw [if_neg h, if_neg h, if_neg h]
/-! The calls that ask: place, steps, nodes, kind, above, look, letters, letter, step. -/
/-- nothing but what the model says of its exception has changed -/
def zT (s t : zS) : Prop := ∃ x, t = zw s 179 0 x
/-- a look: one number, or three -/
def zLk (x b z k : Int32) : Prop := (x = -1 ∧ b = -1 ∧ z = -1 ∧ k = -1) ∨ ∃ b' z' k' : Nat, b' ≤ 1 ∧ 1 ≤ z' ∧ z' ≤ 99 ∧ k' ≤ 9 ∧ b = nI b' ∧ z = nI z' ∧ k = nI k' ∧ x = nI (1000 * b' + 10 * z' + k')
/-- the paper at q is the model's document i: n nodes, t letters -/
def zPap (q i : Nat) (s : zS) (n t : Nat) : Prop :=
  s q 6 = nI n ∧ s 195 i = nI n ∧ s (q + 6) 1 = nI t ∧ s 201 i = nI t ∧ n ≤ zca (q + 1) ∧ t ≤ zca (q + 7) ∧
  (∀ j, j < n → s (q + 1) j = s 196 (100 * i + j) ∧ s (q + 2) j = s 197 (100 * i + j) ∧ zLk (s (q + 3) j) (s 198 (3 * (100 * i + j))) (s 198 (3 * (100 * i + j) + 1)) (s 198 (3 * (100 * i + j) + 2)) ∧ s (q + 4) j = s 199 (100 * i + j) ∧ s (q + 5) j = s 200 (100 * i + j) ∧ ∃ a b, s (q + 4) j = nI a ∧ s (q + 5) j = nI b ∧ a + b ≤ t) ∧
  (∀ k, k < t → s (q + 7) k = s 202 (700 * i + k))
theorem z_place {s : zS} (h : s 28 1 = s 179 3) : zA2 (zf19 0 s) (zf200 179) (zT s) :=
  ⟨s 28 1, s, zw s 179 0 0, rfl, by rw [h]; rfl, _, rfl⟩
/-- which paper a slot is -/
theorem z_slot (x : Int32) : (x < 0 ∨ ¬ x < 3) ∨ (x = 0 ∨ x = 1 ∨ x = 2) := by
  by_cases h : x < 0
  · exact Or.inl (Or.inl h)
  · by_cases h2 : x < 3
    · obtain ⟨k, rfl, hk⟩ := zn_of h
      have h3 : k < 3 := (zn_lt hk (by decide)).mp h2
      have h4 : k = 0 ∨ k = 1 ∨ k = 2 := by omega
      rcases h4 with rfl | rfl | rfl
      · exact Or.inr (Or.inl rfl)
      · exact Or.inr (Or.inr (Or.inl rfl))
      · exact Or.inr (Or.inr (Or.inr rfl))
    · exact Or.inl (Or.inr h2)
theorem z83_no {x : Int32} {s : zS} (h : x < 0 ∨ ¬ x < 3) : zf83 0 x s = some (.inr (hx_E 0), s, 1) := by
  unfold zf83
  by_cases h1 : x < 0
  · rw [if_pos h1]
  · rw [if_neg h1, if_neg (h.resolve_left h1)]
theorem z202_no {x : Int32} {s : zS} (h : x < 0 ∨ ¬ x < 3) : zf202 x s = some (0, s) := by
  unfold zf202
  by_cases h1 : x < 0
  · rw [if_pos h1]; rfl
  · rw [if_neg h1, if_pos ?_]
    · rfl
    · have h2 := h.resolve_left h1
      rw [Int32.not_lt, Int32.le_iff_toInt_le] at h2
      rw [Int32.lt_iff_toInt_lt]
      have e1 : (3 : Int32).toInt = 3 := rfl
      have e2 : (2 : Int32).toInt = 2 := rfl
      omega
theorem z_nodes {s : zS} {n0 t0 n1 t1 n2 t2 : Nat} (h0 : zPap 4 0 s n0 t0) (h1 : zPap 12 1 s n1 t1) (h2 : zPap 20 2 s n2 t2) (x : Int32) : zAH (zf82 0 x s) [0] (zf201 179 x) (zT s) := by
  rcases z_slot x with h | rfl | rfl | rfl
  · refine Or.inr ⟨0, 0, 0, s, zw s 179 0 1, rfl, ?_, ?_, rfl, _, rfl⟩
    · unfold zf82
      rw [z83_no h]
      rfl
    · unfold zf201
      rw [z202_no h]
      rfl
  · exact Or.inl ⟨s 4 6, s, zw s 179 0 0, rfl, by rw [h0.1, ← h0.2.1]; rfl, rfl, _, rfl⟩
  · exact Or.inl ⟨s 12 6, s, zw s 179 0 0, rfl, by rw [h1.1, ← h1.2.1]; rfl, rfl, _, rfl⟩
  · exact Or.inl ⟨s 20 6, s, zw s 179 0 0, rfl, by rw [h2.1, ← h2.2.1]; rfl, rfl, _, rfl⟩
