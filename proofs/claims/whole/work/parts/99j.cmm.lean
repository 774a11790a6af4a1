/-! compare, the model's tables (lay, costs). -/
set_option maxRecDepth 100000
set_option linter.unusedVariables false
def zMm (s : zS) (A B : List zN) : Prop := zPm 0 s A ∧ zPm 1 s B ∧ (∀ n, n < A.length → s 208 n = nI (zW A (zf1 A) n)) ∧ ∀ n, n < B.length → s 208 (100 + n) = nI (zW B (zf1 B) n)
theorem zMm_f {s s' : zS} {A B : List zN} (h : zMm s A B) (h1 : ∀ p, (195 ≤ p ∧ p ≤ 202) ∨ p = 208 → s' p = s p) : zMm s' A B := by
  obtain ⟨a1, a2, a3, a4⟩ := h
  refine ⟨zPm_e a1 (fun p q r => h1 p (by omega)), zPm_e a2 (fun p q r => h1 p (by omega)), fun n hn => ?_, fun n hn => ?_⟩
  · rw [h1 208 (Or.inr rfl)]; exact a3 n hn
  · rw [h1 208 (Or.inr rfl)]; exact a4 n hn
def zRa (s : zS) (l : List Nat) : Prop := s 179 41 = nI l.length ∧ ∀ k, k < l.length → s 210 k = nI (l.getD k 0)
def zRb (s : zS) (l : List Nat) : Prop := s 179 42 = nI l.length ∧ ∀ k, k < l.length → s 211 k = nI (l.getD k 0)
theorem zkb_len {D : List zN} {a : Nat} (h : D.length ≤ 40) : (zkb D a).length ≤ 39 := by
  unfold zkb zrw
  have := List.length_filter_le (fun c => zab D c == some a) (List.range' (a + 1) (D.length - (a + 1)))
  rw [List.length_range'] at this
  omega
theorem zdropN {l : List Nat} {k : Nat} (h : k < l.length) : l.drop k = l.getD k 0 :: l.drop (k + 1) := by
  rw [List.drop_eq_getElem_cons h]
  congr 1
  rw [List.getD_eq_getElem?_getD, List.getElem?_eq_getElem h]
  rfl
theorem zgetN_m {l : List Nat} {k : Nat} (h : k < l.length) : l.getD k 0 ∈ l := by
  rw [List.getD_eq_getElem?_getD, List.getElem?_eq_getElem h]
  exact List.getElem_mem h
theorem zgetN_a {l : List Nat} {x k : Nat} (h : k < l.length) : (l ++ [x]).getD k 0 = l.getD k 0 := by
  rw [List.getD_eq_getElem?_getD, List.getElem?_append_left h, ← List.getD_eq_getElem?_getD]
theorem zgetN_r {l : List Nat} {x : Nat} : (l ++ [x]).getD l.length 0 = x := by
  rw [List.getD_eq_getElem?_getD, List.getElem?_append_right (Nat.le_refl _), Nat.sub_self]
  rfl
theorem zkb_m {D : List zN} {a c : Nat} : c ∈ zkb D a ↔ a + 1 ≤ c ∧ c < D.length ∧ zab D c = some a := zrw_m
theorem zab_ne {A : List zN} {a k : Nat} (hW : zWf A) (hkl : k < A.length) (hA4 : A.length ≤ 40) (ha : a < 100) (g : ¬ zab A k = some a) : ¬ zoi (zab A k) = nI a := by
  intro q
  rcases (hW k hkl).2.1 with ⟨_, w, _⟩ | ⟨c, w1, w2, _⟩
  · rw [w] at q; exact absurd q.symm (zn_nm (by omega))
  · rw [w2] at q
    exact g (by rw [w2, (zn_eq (a := c) (b := a) (by omega) (by omega)).mp q])
theorem zm213_a {A : List zN} {a : Nat} {b : Int32} (hW : zWf A) (hA4 : A.length ≤ 40) : ∀ m n k r (s : zS), k + m = A.length → m < n → zPm 0 s A → r ++ zrw A a k = zkb A a → s 179 41 = nI r.length → (∀ x, x < r.length → s 210 x = nI (r.getD x 0)) → a < 100 →
    ∃ s', zf213_14 179 n (nI a) b (nI k) s = zf213_64 179 zfz b (b + 1) s' ∧ zRa s' (zkb A a) ∧ (∀ p, p ≠ 179 → p ≠ 210 → s' p = s p) ∧ ∀ f, f ≠ 41 → s' 179 f = s 179 f := by
  have hl := zkb_len (a := a) hA4
  intro m
  induction m with
  | zero =>
    intro n k r s hk hn hP hr h1 h2 ha
    obtain ⟨n, rfl⟩ : ∃ n', n = n' + 1 := ⟨n - 1, by omega⟩
    rw [zrw_n (by omega), List.append_nil] at hr
    rw [hr] at h1 h2
    refine ⟨s, ?_, ⟨h1, h2⟩, fun _ _ _ => rfl, fun _ _ => rfl⟩
    have e0 : ∀ (c : Int32 → Option zS), zal s 195 0 c = c (s 195 0) := fun c => zal_n (j := 0) (by decide)
    rw [zf213_14, show zrf 179 22 = 195 from rfl, e0, hP.1, if_pos ((zn_le (by omega) (by omega)).mpr (by omega))]
  | succ m ih =>
    intro n k r s hk hn hP hr h1 h2 ha
    obtain ⟨n, rfl⟩ : ∃ n', n = n' + 1 := ⟨n - 1, by omega⟩
    have hkl : k < A.length := by omega
    have e197 : s 197 k = zoi (zab A k) := by
      have := (hP.2.2.2.2.2 k hkl).2.1
      rw [show 100 * 0 + k = k by omega] at this
      exact this
    have e0 : ∀ (c : Int32 → Option zS), zal s 195 0 c = c (s 195 0) := fun c => zal_n (j := 0) (by decide)
    rw [zf213_14, show zrf 179 22 = 195 from rfl, e0, hP.1, if_neg (fun q => by have := (zn_le (by omega) (by omega)).mp q; omega), show zrf 179 24 = 197 from rfl, zal_n (by show k < 400; omega), e197, zn_a1]
    rw [zrw_e hkl] at hr
    by_cases g : zab A k = some a
    · rw [if_pos g] at hr
      have hlr : r.length < 39 := by
        have : (r ++ k :: zrw A a (k + 1)).length = (zkb A a).length := by rw [hr]
        rw [List.length_append, List.length_cons] at this
        omega
      obtain ⟨s1, hs1⟩ : ∃ s1, s1 = zw (zw s 210 r.length (nI k)) 179 41 (nI (r.length + 1)) := ⟨_, rfl⟩
      obtain ⟨s', d1, d2, d3, d4⟩ := ih n (k + 1) (r ++ [k]) s1 (by omega) (by omega) (zPm_e hP (fun p q w => by rw [hs1, zw_ne (by omega), zw_ne (by omega)])) (by rw [List.append_assoc]; exact hr) (by rw [hs1, zw_s, List.length_append, List.length_singleton]) (fun x hx => by
        rw [List.length_append, List.length_singleton] at hx
        rw [hs1, zw_ne (by decide)]
        by_cases q : x = r.length
        · rw [q, zw_s, zgetN_r]
        · rw [zw_o (Or.inr q), zgetN_a (by omega)]; exact h2 x (by omega)) ha
      refine ⟨s', ?_, d2, fun p a b => by rw [d3 p a b, hs1, zw_ne a, zw_ne b], fun f hf => by rw [d4 f hf, hs1, zw_o (Or.inr hf), zw_ne (by decide)]⟩
      rw [g, if_neg (fun q => q rfl), zgf_e, h1, show zrf 179 39 = 210 from rfl, zas_n (by show r.length < 40; omega), zgf_e, zw_ne (q := 179) (by decide), h1, zpf_e, zn_a1, ← hs1]
      exact d1
    · rw [if_neg g] at hr
      have hne : ¬ zoi (zab A k) = nI a := zab_ne hW hkl hA4 ha g
      rw [if_pos hne]
      exact ih n (k + 1) r s (by omega) (by omega) hP hr h1 h2 ha
theorem zm213_b {B : List zN} {b : Nat} (hW : zWf B) (hB4 : B.length ≤ 40) : ∀ m n k r (s : zS), k + m = B.length → m < n → zPm 1 s B → r ++ zrw B b k = zkb B b → s 179 42 = nI r.length → (∀ x, x < r.length → s 211 x = nI (r.getD x 0)) → b < 100 →
    ∃ s', zf213_64 179 n (nI b) (nI k) s = zf213_118 179 zfz (s' 179 41) s' ∧ zRb s' (zkb B b) ∧ (∀ p, p ≠ 179 → p ≠ 211 → s' p = s p) ∧ ∀ f, f ≠ 42 → s' 179 f = s 179 f := by
  have hl := zkb_len (a := b) hB4
  intro m
  induction m with
  | zero =>
    intro n k r s hk hn hP hr h1 h2 ha
    obtain ⟨n, rfl⟩ : ∃ n', n = n' + 1 := ⟨n - 1, by omega⟩
    rw [zrw_n (by omega), List.append_nil] at hr
    rw [hr] at h1 h2
    refine ⟨s, ?_, ⟨h1, h2⟩, fun _ _ _ => rfl, fun _ _ => rfl⟩
    have e0 : ∀ (c : Int32 → Option zS), zal s 195 1 c = c (s 195 1) := fun c => zal_n (j := 1) (by decide)
    rw [zf213_64, show zrf 179 22 = 195 from rfl, e0, hP.1, if_pos ((zn_le (by omega) (by omega)).mpr (by omega)), zgf_e]
  | succ m ih =>
    intro n k r s hk hn hP hr h1 h2 ha
    obtain ⟨n, rfl⟩ : ∃ n', n = n' + 1 := ⟨n - 1, by omega⟩
    have hkl : k < B.length := by omega
    have e197 : s 197 (100 + k) = zoi (zab B k) := (hP.2.2.2.2.2 k hkl).2.1
    have e0 : ∀ (c : Int32 → Option zS), zal s 195 1 c = c (s 195 1) := fun c => zal_n (j := 1) (by decide)
    rw [zf213_64, show zrf 179 22 = 195 from rfl, e0, hP.1, if_neg (fun q => by have := (zn_le (by omega) (by omega)).mp q; omega), show zrf 179 24 = 197 from rfl, show (100 : Int32) + nI k = nI (100 + k) by rw [zn_lit 100, zn_add], zal_n (by show 100 + k < 400; omega), e197, zn_a1]
    rw [zrw_e hkl] at hr
    by_cases g : zab B k = some b
    · rw [if_pos g] at hr
      have hlr : r.length < 39 := by
        have : (r ++ k :: zrw B b (k + 1)).length = (zkb B b).length := by rw [hr]
        rw [List.length_append, List.length_cons] at this
        omega
      obtain ⟨s1, hs1⟩ : ∃ s1, s1 = zw (zw s 211 r.length (nI k)) 179 42 (nI (r.length + 1)) := ⟨_, rfl⟩
      obtain ⟨s', d1, d2, d3, d4⟩ := ih n (k + 1) (r ++ [k]) s1 (by omega) (by omega) (zPm_e hP (fun p q w => by rw [hs1, zw_ne (by omega), zw_ne (by omega)])) (by rw [List.append_assoc]; exact hr) (by rw [hs1, zw_s, List.length_append, List.length_singleton]) (fun x hx => by
        rw [List.length_append, List.length_singleton] at hx
        rw [hs1, zw_ne (by decide)]
        by_cases q : x = r.length
        · rw [q, zw_s, zgetN_r]
        · rw [zw_o (Or.inr q), zgetN_a (by omega)]; exact h2 x (by omega)) ha
      refine ⟨s', ?_, d2, fun p a b => by rw [d3 p a b, hs1, zw_ne a, zw_ne b], fun f hf => by rw [d4 f hf, hs1, zw_o (Or.inr hf), zw_ne (by decide)]⟩
      rw [g, if_neg (fun q => q rfl), zgf_e, h1, show zrf 179 40 = 211 from rfl, zas_n (by show r.length < 40; omega), zgf_e, zw_ne (q := 179) (by decide), h1, zpf_e, zn_a1, ← hs1]
      exact d1
    · rw [if_neg g] at hr
      have hne : ¬ zoi (zab B k) = nI b := zab_ne hW hkl hB4 ha g
      rw [if_pos hne]
      exact ih n (k + 1) r s (by omega) (by omega) hP hr h1 h2 ha
/-- the model's costs -/
def zEm (s : zS) (A B : List zN) (x y : Nat) : Prop := ∀ v, zcc A B x y = some v → s 209 (40 * x + y) = nI v
def zEl2 (s : zS) (A B : List zN) (la lb : List Nat) (i j : Nat) : Prop := s 212 (41 * i + j) = nI (zRR A B (la.drop i) (lb.drop j))
theorem zsub_s {l m : List Nat} {f : Nat → Nat} : ∀ k, k ≤ l.length → ((l.drop k).map f).sum ≤ (l.map f).sum := by
  intro k hk
  have : l = l.take k ++ l.drop k := (List.take_append_drop k l).symm
  have e : (l.map f).sum = ((l.take k).map f).sum + ((l.drop k).map f).sum := by
    rw [← List.sum_append, ← List.map_append, List.take_append_drop]
  omega
theorem zRR_r {A B : List zN} (hA : zSm A) (hB : zSm B) {a b i j : Nat} (hi : i ≤ (zkb A a).length) (hj : j ≤ (zkb B b).length) : zRR A B ((zkb A a).drop i) ((zkb B b).drop j) ≤ 680 := by
  have h := zR_le (w1 := zW A (zf1 A)) (w2 := zW B (zf1 B)) (c := zcc A B) ((zkb A a).drop i) ((zkb B b).drop j)
  have h1 := zsub_s (m := []) (f := zW A (zf1 A)) i hi
  have h2 := zsub_s (m := []) (f := zW B (zf1 B)) j hj
  have h3 := zG_b hA (show a < a + 1 by omega)
  have h4 := zG_b hB (show b < b + 1 by omega)
  have e1 : zG A (zf1 A) (a + 1) a = ((zkb A a).map (zW A (zf1 A))).sum := rfl
  have e2 : zG B (zf1 B) (b + 1) b = ((zkb B b).map (zW B (zf1 B))).sum := rfl
  unfold zRR
  omega
theorem zmin_199 {k118 : Int32 → zS → Option zS} {k128 : Int32 → Int32 → zS → Option zS} {x3 x4 : Int32} {p q : Nat} {s : zS} (hp : p < 2147483648) (hq : q < 2147483648) : zf213_199 179 k118 k128 x3 x4 (nI p) (nI q) s = zf213_215 179 k118 k128 x3 x4 (nI (min p q)) s := by
  unfold zf213_199
  by_cases g : p ≤ q
  · rw [if_pos ((zn_le hp hq).mpr g), Nat.min_eq_left g]
  · rw [if_neg (fun w => g ((zn_le hp hq).mp w)), Nat.min_eq_right (by omega)]
theorem zmin_261 {k118 : Int32 → zS → Option zS} {k128 : Int32 → Int32 → zS → Option zS} {x3 x4 : Int32} {p q : Nat} {s : zS} (hp : p < 2147483648) (hq : q < 2147483648) : zf213_261 179 k118 k128 x3 x4 (nI p) (nI q) s = zf213_277 179 k118 k128 x3 x4 (nI (min p q)) s := by
  unfold zf213_261
  by_cases g : p ≤ q
  · rw [if_pos ((zn_le hp hq).mpr g), Nat.min_eq_left g]
  · rw [if_neg (fun w => g ((zn_le hp hq).mp w)), Nat.min_eq_right (by omega)]
theorem zmin_334 {k118 : Int32 → zS → Option zS} {k128 : Int32 → Int32 → zS → Option zS} {x3 x4 : Int32} {p q : Nat} {s : zS} (hp : p < 2147483648) (hq : q < 2147483648) : zf213_334 179 k118 k128 x3 x4 (nI p) (nI q) s = zf213_350 179 k118 k128 x3 x4 (nI (min p q)) s := by
  unfold zf213_334
  by_cases g : p ≤ q
  · rw [if_pos ((zn_le hp hq).mpr g), Nat.min_eq_left g]
  · rw [if_neg (fun w => g ((zn_le hp hq).mp w)), Nat.min_eq_right (by omega)]
/-- what lay looks at -/
def zLy (s : zS) (A B : List zN) (a b : Nat) : Prop := zMm s A B ∧ zRa s (zkb A a) ∧ zRb s (zkb B b) ∧ ∀ x y, x ∈ zkb A a → y ∈ zkb B b → zEm s A B x y
theorem zLy_f {s s' : zS} {A B : List zN} {a b : Nat} (h : zLy s A B a b) (h1 : ∀ p, p ≠ 212 → s' p = s p) : zLy s' A B a b := by
  obtain ⟨a1, a2, a3, a4⟩ := h
  refine ⟨zMm_f a1 (fun p hp => h1 p (by omega)), ?_, ?_, fun x y hx hy v hv => ?_⟩
  · unfold zRa
    rw [h1 179 (by decide), h1 210 (by decide)]
    exact a2
  · unfold zRb
    rw [h1 179 (by decide), h1 211 (by decide)]
    exact a3
  · rw [h1 209 (by decide)]
    exact a4 x y hx hy v hv
theorem zm214 {s : zS} {A B : List zN} {a b i j : Nat} (h : zLy s A B a b) (hA : zSm A) (hB : zSm B) (hi : i ≤ (zkb A a).length) (hj : j ≤ (zkb B b).length) : zf214 179 (nI i) (nI j) s = some (if i < (zkb A a).length ∧ j < (zkb B b).length ∧ (zno A ((zkb A a).getD i 0)).1 = (zno B ((zkb B b).getD j 0)).1 then 1 else 0, s) := by
  have hA4 := hA.2.1
  have hB4 := hB.2.1
  have la := zkb_len (a := a) hA4
  have lb := zkb_len (a := b) hB4
  unfold zf214
  rw [zgf_e, h.2.1.1]
  by_cases g1 : i < (zkb A a).length
  · rw [if_neg (fun q => by have := (zn_le (by omega) (by omega)).mp q; omega), zgf_e, h.2.2.1.1]
    by_cases g2 : j < (zkb B b).length
    · have m1 := zkb_m.mp (zgetN_m g1)
      have m2 := zkb_m.mp (zgetN_m g2)
      have k1 := (hA.1 _ m1.2.1).1
      have k2 := (hB.1 _ m2.2.1).1
      have n1 := (h.1.1.2.2.2.2.2 _ m1.2.1).1
      have n2 := (h.1.2.1.2.2.2.2.2 _ m2.2.1).1
      rw [show 100 * 0 + (zkb A a).getD i 0 = (zkb A a).getD i 0 by omega] at n1
      rw [if_neg (fun q => by have := (zn_le (by omega) (by omega)).mp q; omega), show zrf 179 39 = 210 from rfl, show zrf 179 40 = 211 from rfl, show zrf 179 23 = 196 from rfl, zal_n (by show i < 40; omega), h.2.1.2 i g1, zal_n (by show _ < 400; omega), n1, zal_n (by show j < 40; omega), h.2.2.1.2 j g2, show (100 : Int32) + nI ((zkb B b).getD j 0) = nI (100 * 1 + (zkb B b).getD j 0) by rw [zn_lit 100, zn_add], zal_n (by show _ < 400; omega), n2]
      by_cases g3 : (zno A ((zkb A a).getD i 0)).1 = (zno B ((zkb B b).getD j 0)).1
      · rw [if_neg (fun q => q (by rw [g3])), if_pos ⟨g1, g2, g3⟩, zrb1]
      · rw [if_pos (fun q => g3 ((zn_eq (by omega) (by omega)).mp q)), if_neg (fun q => g3 q.2.2), zrb0]
    · rw [if_pos ((zn_le (by omega) (by omega)).mpr (by omega)), if_neg (fun q => g2 q.2.1), zrb0]
  · rw [if_pos ((zn_le (by omega) (by omega)).mpr (by omega)), if_neg (fun q => g1 q.1), zrb0]
theorem zn_41 (i j : Nat) : ((41 : Int32) * nI i) + nI j = nI (41 * i + j) := by rw [zn_lit 41, zn_mul, zn_add]
theorem zn_41a (i j : Nat) : (((41 : Int32) * nI i) + 41) + nI j = nI (41 * (i + 1) + j) := by rw [zn_lit 41, zn_mul, zn_add, zn_add, show 41 * i + 41 + j = 41 * (i + 1) + j by omega]
theorem zm213_v {s : zS} {A B : List zN} {a b i j : Nat} {k118 : Int32 → zS → Option zS} {k128 : Int32 → Int32 → zS → Option zS} (h : zLy s A B a b) (hA : zSm A) (hB : zSm B) (hi : i ≤ (zkb A a).length) (hj : j ≤ (zkb B b).length) (h1 : i < (zkb A a).length → zEl2 s A B (zkb A a) (zkb B b) (i + 1) j) (h2 : j < (zkb B b).length → zEl2 s A B (zkb A a) (zkb B b) i (j + 1)) (h3 : i < (zkb A a).length → j < (zkb B b).length → zEl2 s A B (zkb A a) (zkb B b) (i + 1) (j + 1)) :
    zf213_157 179 k118 k128 (nI i) (nI j) (nI (if i = (zkb A a).length ∧ j = (zkb B b).length then 0 else 1000000)) s = zf213_350 179 k118 k128 (nI i) (nI j) (nI (zRR A B ((zkb A a).drop i) ((zkb B b).drop j))) s := by
  have hA4 := hA.2.1
  have hB4 := hB.2.1
  have la := zkb_len (a := a) hA4
  have lb := zkb_len (a := b) hB4
  have b11 : i < (zkb A a).length → zRR A B ((zkb A a).drop (i + 1)) ((zkb B b).drop j) ≤ 680 := fun g => zRR_r hA hB (by omega) hj
  have b22 : j < (zkb B b).length → zRR A B ((zkb A a).drop i) ((zkb B b).drop (j + 1)) ≤ 680 := fun g => zRR_r hA hB hi (by omega)
  have b33 : i < (zkb A a).length → j < (zkb B b).length → zRR A B ((zkb A a).drop (i + 1)) ((zkb B b).drop (j + 1)) ≤ 680 := fun g g' => zRR_r hA hB (by omega) (by omega)
  -- the first stage
  have st1 : ∀ t, t ≤ 1000000 → zf213_157 179 k118 k128 (nI i) (nI j) (nI t) s = zf213_215 179 k118 k128 (nI i) (nI j) (nI (if i < (zkb A a).length then min t (zW A (zf1 A) ((zkb A a).getD i 0) + zRR A B ((zkb A a).drop (i + 1)) ((zkb B b).drop j)) else t)) s := by
    intro t ht
    unfold zf213_157
    rw [zgf_e, h.2.1.1]
    by_cases g : i < (zkb A a).length
    · have m1 := zkb_m.mp (zgetN_m g)
      have wb := zW_b hA m1.2.1
      have := b11 g
      have e1 := h1 g
      unfold zEl2 at e1
      rw [if_neg (fun q => by have := (zn_le (by omega) (by omega)).mp q; omega), if_pos g, show zrf 179 39 = 210 from rfl, show zrf 179 37 = 208 from rfl, show zrf 179 43 = 212 from rfl, zal_n (by show i < 40; omega), h.2.1.2 i g, zal_n (by show _ < 200; omega), h.1.2.2.1 _ m1.2.1, zn_41a, zal_n (by show _ < 1681; omega), e1, zn_add, zmin_199 (by omega) (by omega)]
    · rw [if_pos ((zn_le (by omega) (by omega)).mpr (by omega)), if_neg g, zmin_199 (by omega) (by omega), Nat.min_self]
  have st2 : ∀ t, t ≤ 1000000 → zf213_215 179 k118 k128 (nI i) (nI j) (nI t) s = zf213_277 179 k118 k128 (nI i) (nI j) (nI (if j < (zkb B b).length then min t (zW B (zf1 B) ((zkb B b).getD j 0) + zRR A B ((zkb A a).drop i) ((zkb B b).drop (j + 1))) else t)) s := by
    intro t ht
    unfold zf213_215
    rw [zgf_e, h.2.2.1.1]
    by_cases g : j < (zkb B b).length
    · have m1 := zkb_m.mp (zgetN_m g)
      have wb := zW_b hB m1.2.1
      have := b22 g
      have e1 := h2 g
      unfold zEl2 at e1
      rw [if_neg (fun q => by have := (zn_le (by omega) (by omega)).mp q; omega), if_pos g, show zrf 179 40 = 211 from rfl, show zrf 179 37 = 208 from rfl, show zrf 179 43 = 212 from rfl, zal_n (by show j < 40; omega), h.2.2.1.2 j g, show (100 : Int32) + nI ((zkb B b).getD j 0) = nI (100 + (zkb B b).getD j 0) by rw [zn_lit 100, zn_add], zal_n (by show _ < 200; omega), h.1.2.2.2 _ m1.2.1, zn_41, zn_a1, show 41 * i + j + 1 = 41 * i + (j + 1) by omega, zal_n (by show _ < 1681; omega), e1, zn_add, zmin_261 (by omega) (by omega)]
    · rw [if_pos ((zn_le (by omega) (by omega)).mpr (by omega)), if_neg g, zmin_261 (by omega) (by omega), Nat.min_self]
  have st3 : ∀ t, t ≤ 1000000 → zf213_277 179 k118 k128 (nI i) (nI j) (nI t) s = zf213_350 179 k118 k128 (nI i) (nI j) (nI (if i < (zkb A a).length ∧ j < (zkb B b).length then (match zcc A B ((zkb A a).getD i 0) ((zkb B b).getD j 0) with | some v => min t (v + zRR A B ((zkb A a).drop (i + 1)) ((zkb B b).drop (j + 1))) | none => t) else t)) s := by
    intro t ht
    unfold zf213_277
    have e214 := zm214 h hA hB hi hj
    by_cases g : i < (zkb A a).length ∧ j < (zkb B b).length
    · obtain ⟨g1, g2⟩ := g
      have m1 := zkb_m.mp (zgetN_m g1)
      have m2 := zkb_m.mp (zgetN_m g2)
      rw [if_pos (show i < (zkb A a).length ∧ j < (zkb B b).length from ⟨g1, g2⟩)]
      by_cases g3 : (zno A ((zkb A a).getD i 0)).1 = (zno B ((zkb B b).getD j 0)).1
      · have hcc : zcc A B ((zkb A a).getD i 0) ((zkb B b).getD j 0) = some (zcg1 A B ((zkb A a).getD i 0) ((zkb B b).getD j 0) + zRR A B (zkb A ((zkb A a).getD i 0)) (zkb B ((zkb B b).getD j 0))) := by rw [zcc_e m1.2.1, if_pos g3]
        have vb := zcc_b hA hB m1.2.1 hcc
        have ev := h.2.2.2 _ _ (zgetN_m g1) (zgetN_m g2) _ hcc
        have := b33 g1 g2
        have e1 := h3 g1 g2
        unfold zEl2 at e1
        rw [if_pos ⟨g1, g2, g3⟩] at e214
        rw [e214, zbi_e, if_neg (show ¬ (1 : Int32) = 0 by decide), hcc]
        rw [show zrf 179 39 = 210 from rfl, show zrf 179 40 = 211 from rfl, show zrf 179 38 = 209 from rfl, show zrf 179 43 = 212 from rfl, zal_n (by show i < 40; omega), h.2.1.2 i g1, zal_n (by show j < 40; omega), h.2.2.1.2 j g2, show ((40 : Int32) * nI ((zkb A a).getD i 0)) + nI ((zkb B b).getD j 0) = nI (40 * (zkb A a).getD i 0 + (zkb B b).getD j 0) by rw [zn_lit 40, zn_mul, zn_add], zal_n (by show _ < 1600; omega), ev, zn_41a, zn_a1, show 41 * (i + 1) + j + 1 = 41 * (i + 1) + (j + 1) by omega, zal_n (by show _ < 1681; omega), e1, zn_add, zmin_334 (by omega) (by omega)]
      · have hcc : zcc A B ((zkb A a).getD i 0) ((zkb B b).getD j 0) = none := by rw [zcc_e m1.2.1, if_neg g3]
        rw [if_neg (fun q => g3 q.2.2)] at e214
        rw [e214, zbi_e, if_pos rfl, hcc, zmin_334 (by omega) (by omega), Nat.min_self]
    · rw [if_neg (fun q => g ⟨q.1, q.2.1⟩)] at e214
      rw [e214, zbi_e, if_pos rfl, if_neg g, zmin_334 (by omega) (by omega), Nat.min_self]
  obtain ⟨t0, ht0⟩ : ∃ t0, t0 = (if i = (zkb A a).length ∧ j = (zkb B b).length then 0 else 1000000) := ⟨_, rfl⟩
  have t0b : t0 ≤ 1000000 := by rw [ht0]; split <;> omega
  rw [← ht0, st1 t0 t0b]
  obtain ⟨t1, ht1⟩ : ∃ t1, t1 = (if i < (zkb A a).length then min t0 (zW A (zf1 A) ((zkb A a).getD i 0) + zRR A B ((zkb A a).drop (i + 1)) ((zkb B b).drop j)) else t0) := ⟨_, rfl⟩
  have t1b : t1 ≤ 1000000 := by
    rw [ht1]
    split
    · exact Nat.le_trans (Nat.min_le_left _ _) t0b
    · exact t0b
  rw [← ht1, st2 t1 t1b]
  obtain ⟨t2, ht2⟩ : ∃ t2, t2 = (if j < (zkb B b).length then min t1 (zW B (zf1 B) ((zkb B b).getD j 0) + zRR A B ((zkb A a).drop i) ((zkb B b).drop (j + 1))) else t1) := ⟨_, rfl⟩
  have t2b : t2 ≤ 1000000 := by
    rw [ht2]
    split
    · exact Nat.le_trans (Nat.min_le_left _ _) t1b
    · exact t1b
  rw [← ht2, st3 t2 t2b]
  congr 2
  by_cases g1 : i < (zkb A a).length
  · have m1 := zkb_m.mp (zgetN_m g1)
    have wa := zW_b hA m1.2.1
    have bb1 := b11 g1
    rw [if_pos g1] at ht1
    rw [if_neg (by omega)] at ht0
    have e1 : t1 = zW A (zf1 A) ((zkb A a).getD i 0) + zRR A B ((zkb A a).drop (i + 1)) ((zkb B b).drop j) := by rw [ht1, ht0]; exact Nat.min_eq_right (by omega)
    by_cases g2 : j < (zkb B b).length
    · rw [if_pos g2] at ht2
      rw [if_pos ⟨g1, g2⟩, ht2, e1]
      unfold zRR
      conv => rhs; rw [zdropN g1, zdropN g2]
      rw [zR_cc, ← zdropN g1, ← zdropN g2]
      rfl
    · rw [if_neg g2] at ht2
      rw [if_neg (fun q => g2 q.2), ht2, e1]
      unfold zRR
      have hd : (zkb B b).drop j = [] := List.drop_eq_nil_of_le (by omega)
      rw [hd]
      conv => rhs; rw [zdropN g1]
      rw [zR_cn]
  · have ha : (zkb A a).drop i = [] := List.drop_eq_nil_of_le (by omega)
    rw [if_neg g1] at ht1
    rw [if_neg (fun q => g1 q.1)]
    by_cases g2 : j < (zkb B b).length
    · have m2 := zkb_m.mp (zgetN_m g2)
      have wb := zW_b hB m2.2.1
      have bb2 := b22 g2
      rw [if_pos g2] at ht2
      rw [if_neg (by omega)] at ht0
      rw [ht2, ht1, ht0, Nat.min_eq_right (by omega), ha]
      unfold zRR
      conv => rhs; rw [zdropN g2]
      rw [zR_nc]
    · have hb : (zkb B b).drop j = [] := List.drop_eq_nil_of_le (by omega)
      rw [if_neg g2] at ht2
      rw [if_pos (by omega)] at ht0
      rw [ht2, ht1, ht0, ha, hb]
      unfold zRR
      rw [zR_nn]
theorem zm213_128 {A B : List zN} {a b i : Nat} {k118 : Int32 → zS → Option zS} (hA : zSm A) (hB : zSm B) (hi : i ≤ (zkb A a).length) : ∀ q n (s : zS), q ≤ (zkb B b).length + 1 → q < n → zLy s A B a b → (∀ x y, i < x → x ≤ (zkb A a).length → y ≤ (zkb B b).length → zEl2 s A B (zkb A a) (zkb B b) x y) → (∀ y, q ≤ y → y ≤ (zkb B b).length → zEl2 s A B (zkb A a) (zkb B b) i y) →
    ∃ s', zf213_128 179 k118 n (nI i) (zdn q) s = k118 (zdn i) s' ∧ (∀ x y, i ≤ x → x ≤ (zkb A a).length → y ≤ (zkb B b).length → zEl2 s' A B (zkb A a) (zkb B b) x y) ∧ ∀ p, p ≠ 212 → s' p = s p := by
  have hA4 := hA.2.1
  have hB4 := hB.2.1
  have la := zkb_len (a := a) hA4
  have lb := zkb_len (a := b) hB4
  intro q
  induction q with
  | zero =>
    intro n s hq hn hL h1 h2
    obtain ⟨n, rfl⟩ : ∃ n', n = n' + 1 := ⟨n - 1, by omega⟩
    refine ⟨s, by rw [zf213_128, if_pos zdn_0, zdn_s], fun x y hx hx2 hy => ?_, fun _ _ => rfl⟩
    by_cases g : x = i
    · rw [g]; exact h2 y (Nat.zero_le _) hy
    · exact h1 x y (by omega) hx2 hy
  | succ q ih =>
    intro n s hq hn hL h1 h2
    obtain ⟨n, rfl⟩ : ∃ n', n = n' + 1 := ⟨n - 1, by omega⟩
    obtain ⟨s1, hs1⟩ : ∃ s1, s1 = zw s 212 (41 * i + q) (nI (zRR A B ((zkb A a).drop i) ((zkb B b).drop q))) := ⟨_, rfl⟩
    have f1 : ∀ p, p ≠ 212 → s1 p = s p := fun p hp => by rw [hs1, zw_ne hp]
    have keep : ∀ x y, x ≤ (zkb A a).length → y ≤ (zkb B b).length → (x ≠ i ∨ y ≠ q) → zEl2 s A B (zkb A a) (zkb B b) x y → zEl2 s1 A B (zkb A a) (zkb B b) x y := by
      intro x y hx hy hne h
      unfold zEl2
      rw [hs1, zw_o (Or.inr (by omega))]
      exact h
    obtain ⟨s', d1, d2, d3⟩ := ih n s1 (by omega) (by omega) (zLy_f hL f1) (fun x y hx hx2 hy => keep x y hx2 hy (by omega) (h1 x y hx hx2 hy)) (fun y hy hy2 => by
      by_cases g : y = q
      · subst g
        unfold zEl2
        rw [hs1, zw_s]
      · exact keep i y hi hy2 (by omega) (h2 y (by omega) hy2))
    refine ⟨s', ?_, d2, fun p hp => by rw [d3 p hp, f1 p hp]⟩
    have hv := zm213_v (i := i) (j := q) (k118 := k118) (k128 := zf213_128 179 k118 n) hL hA hB hi (by omega) (fun g => h1 (i + 1) q (by omega) (by omega) (by omega)) (fun g => h2 (q + 1) (by omega) (by omega)) (fun g g' => h1 (i + 1) (q + 1) (by omega) (by omega) (by omega))
    have e350 : zf213_350 179 k118 (zf213_128 179 k118 n) (nI i) (nI q) (nI (zRR A B ((zkb A a).drop i) ((zkb B b).drop q))) s = zf213_128 179 k118 n (nI i) (zdn q) s1 := by
      unfold zf213_350
      rw [show zrf 179 43 = 212 from rfl, zn_41, zas_n (by show _ < 1681; omega), ← hs1, zdn_s]
    rw [zf213_128, if_neg (zdn_1 (by omega)), show zdn (q + 1) = nI q from rfl, zgf_e, hL.2.1.1]
    by_cases g1 : i = (zkb A a).length
    · rw [if_neg (show ¬ ¬ nI i = nI (zkb A a).length from fun w => w (by rw [g1])), zgf_e, hL.2.2.1.1]
      by_cases g2 : q = (zkb B b).length
      · rw [if_neg (show ¬ ¬ nI q = nI (zkb B b).length from fun w => w (by rw [g2]))]
        rw [if_pos ⟨g1, g2⟩] at hv
        have hv' : zf213_157 179 k118 (zf213_128 179 k118 n) (nI i) (nI q) 0 s = _ := hv
        rw [hv', e350]
        exact d1
      · rw [if_pos (show ¬ nI q = nI (zkb B b).length from fun w => g2 ((zn_eq (by omega) (by omega)).mp w))]
        rw [if_neg (fun w => g2 w.2)] at hv
        have hv' : zf213_157 179 k118 (zf213_128 179 k118 n) (nI i) (nI q) 1000000 s = _ := hv
        rw [hv', e350]
        exact d1
    · rw [if_pos (show ¬ nI i = nI (zkb A a).length from fun w => g1 ((zn_eq (by omega) (by omega)).mp w))]
      rw [if_neg (fun w => g1 w.1)] at hv
      have hv' : zf213_157 179 k118 (zf213_128 179 k118 n) (nI i) (nI q) 1000000 s = _ := hv
      rw [hv', e350]
      exact d1
theorem zm213_118 {A B : List zN} {a b : Nat} (hA : zSm A) (hB : zSm B) : ∀ i n (s : zS), i ≤ (zkb A a).length + 1 → i < n → zLy s A B a b → (∀ x y, i ≤ x → x ≤ (zkb A a).length → y ≤ (zkb B b).length → zEl2 s A B (zkb A a) (zkb B b) x y) →
    ∃ s', zf213_118 179 n (zdn i) s = some s' ∧ (∀ x y, x ≤ (zkb A a).length → y ≤ (zkb B b).length → zEl2 s' A B (zkb A a) (zkb B b) x y) ∧ ∀ p, p ≠ 212 → s' p = s p := by
  have lb := zkb_len (a := b) hB.2.1
  have la := zkb_len (a := a) hA.2.1
  intro i
  induction i with
  | zero =>
    intro n s hi hn hL h
    obtain ⟨n, rfl⟩ : ∃ n', n = n' + 1 := ⟨n - 1, by omega⟩
    exact ⟨s, by rw [zf213_118, if_pos zdn_0], fun x y hx hy => h x y (Nat.zero_le _) hx hy, fun _ _ => rfl⟩
  | succ i ih =>
    intro n s hi hn hL h
    obtain ⟨n, rfl⟩ : ∃ n', n = n' + 1 := ⟨n - 1, by omega⟩
    obtain ⟨s1, a1, a2, a3⟩ := zm213_128 (i := i) (k118 := zf213_118 179 n) hA hB (by omega) ((zkb B b).length + 1) zfz s (Nat.le_refl _) (by rw [zfz_e]; omega) hL (fun x y hx hx2 hy => h x y (by omega) hx2 hy) (fun y hy hy2 => by omega)
    obtain ⟨s', b1, b2, b3⟩ := ih n s1 (by omega) (by omega) (zLy_f hL a3) a2
    refine ⟨s', ?_, b2, fun p hp => by rw [b3 p hp, a3 p hp]⟩
    rw [zf213_118, if_neg (zdn_1 (by omega)), show zdn (i + 1) = nI i from rfl, zgf_e, hL.2.2.1.1, show nI (zkb B b).length = zdn ((zkb B b).length + 1) from rfl, a1]
    exact b1
def zFy (s s' : zS) : Prop := (∀ p, p ≠ 179 → p < 210 ∨ 212 < p → s' p = s p) ∧ ∀ f, f ≠ 41 → f ≠ 42 → s' 179 f = s 179 f
/-- lay -/
theorem zm213 {s : zS} {A B : List zN} {a b : Nat} (hA : zSm A) (hB : zSm B) (hM : zMm s A B) (ha : a < A.length) (hb : b < B.length) (hE : ∀ x y, x ∈ zkb A a → y ∈ zkb B b → zEm s A B x y) :
    ∃ s', zf213 179 (nI a) (nI b) s = some s' ∧ zLy s' A B a b ∧ (∀ x y, x ≤ (zkb A a).length → y ≤ (zkb B b).length → zEl2 s' A B (zkb A a) (zkb B b) x y) ∧ zFy s s' := by
  have hA4 := hA.2.1
  have hB4 := hB.2.1
  have la := zkb_len (a := a) hA4
  obtain ⟨s1, hs1⟩ : ∃ s1, s1 = zw (zw s 179 41 0) 179 42 0 := ⟨_, rfl⟩
  have f1 : ∀ p, p ≠ 179 → s1 p = s p := fun p hp => by rw [hs1, zw_ne hp, zw_ne hp]
  obtain ⟨s2, a1, a2, a3, a4⟩ := zm213_a (a := a) (b := nI b) hA.1 hA4 (A.length - (a + 1)) zfz (a + 1) [] s1 (by omega) (by rw [zfz_e]; omega) (zPm_e hM.1 (fun p h1 h2 => f1 p (by omega))) rfl (by rw [hs1, zw_o (Or.inr (by decide)), zw_s]; rfl) (fun x hx => absurd hx (Nat.not_lt_zero _)) (by omega)
  obtain ⟨s3, b1, b2, b3, b4⟩ := zm213_b (b := b) hB.1 hB4 (B.length - (b + 1)) zfz (b + 1) [] s2 (by omega) (by rw [zfz_e]; omega) (zPm_e hM.2.1 (fun p h1 h2 => by rw [a3 p (by omega) (by omega), f1 p (by omega)])) rfl (by rw [a4 42 (by decide), hs1, zw_s]; rfl) (fun x hx => absurd hx (Nat.not_lt_zero _)) (by omega)
  have f3 : ∀ p, p ≠ 179 → p < 210 ∨ 211 < p → s3 p = s p := fun p h1 h2 => by rw [b3 p h1 (by omega), a3 p h1 (by omega), f1 p h1]
  have ra : zRa s3 (zkb A a) := by
    unfold zRa
    rw [b4 41 (by decide), b3 210 (by decide) (by decide)]
    exact a2
  have L3 : zLy s3 A B a b := ⟨zMm_f hM (fun p hp => f3 p (by omega) (by omega)), ra, b2, fun x y hx hy v hv => by rw [f3 209 (by decide) (by omega)]; exact hE x y hx hy v hv⟩
  obtain ⟨s', c1, c2, c3⟩ := zm213_118 hA hB ((zkb A a).length + 1) zfz s3 (Nat.le_refl _) (by rw [zfz_e]; omega) L3 (fun x y h1 h2 => by omega)
  refine ⟨s', ?_, zLy_f L3 c3, c2, fun p h1 h2 => by rw [c3 p (by omega), f3 p h1 (by omega)], fun f h1 h2 => ?_⟩
  · unfold zf213
    rw [zpf_e, zpf_e, ← hs1, zn_a1, a1, zn_a1, b1, ra.1]
    exact c1
  · rw [c3 179 (by decide), b4 f h2, a4 f h1, hs1, zw_o (Or.inr h2), zw_o (Or.inr h1)]
/-- costs -/
theorem zm212_22 {A B : List zN} {a : Nat} {k9 : Int32 → zS → Option zS} (hA : zSm A) (hB : zSm B) (ha : a < A.length) : ∀ b n (s : zS), b ≤ B.length → b < n → zMm s A B → (∀ x y, a < x → x < A.length → y < B.length → zEm s A B x y) → (∀ y, b ≤ y → y < B.length → zEm s A B a y) →
    ∃ s', zf212_22 179 k9 n (nI a) (zdn b) s = k9 (zdn a) s' ∧ (∀ x y, a ≤ x → x < A.length → y < B.length → zEm s' A B x y) ∧ (∀ p, p ≠ 179 → p < 209 ∨ 212 < p → s' p = s p) ∧ ∀ f, f ≠ 41 → f ≠ 42 → s' 179 f = s 179 f := by
  have hA4 := hA.2.1
  have hB4 := hB.2.1
  intro b
  induction b with
  | zero =>
    intro n s hb hn hM h1 h2
    obtain ⟨n, rfl⟩ : ∃ n', n = n' + 1 := ⟨n - 1, by omega⟩
    refine ⟨s, by rw [zf212_22, if_pos zdn_0, zdn_s], fun x y hx hx2 hy => ?_, fun _ _ _ => rfl, fun _ _ _ => rfl⟩
    by_cases g : x = a
    · rw [g]; exact h2 y (Nat.zero_le _) hy
    · exact h1 x y (by omega) hx2 hy
  | succ b ih =>
    intro n s hb hn hM h1 h2
    obtain ⟨n, rfl⟩ : ∃ n', n = n' + 1 := ⟨n - 1, by omega⟩
    have hbl : b < B.length := by omega
    have k1 := (hA.1 a ha).1
    have k2 := (hB.1 b hbl).1
    have n1 := (hM.1.2.2.2.2.2 a ha).1
    have n2 := (hM.2.1.2.2.2.2.2 b hbl).1
    rw [show 100 * 0 + a = a by omega] at n1
    rw [zf212_22, if_neg (zdn_1 (by omega)), show zdn (b + 1) = nI b from rfl, show zrf 179 23 = 196 from rfl, zal_n (by show a < 400; omega), n1, show (100 : Int32) + nI b = nI (100 * 1 + b) by rw [zn_lit 100, zn_add], zal_n (by show 100 * 1 + b < 400; omega), n2]
    by_cases g : (zno A a).1 = (zno B b).1
    · have hcc : zcc A B a b = some (zcg1 A B a b + zRR A B (zkb A a) (zkb B b)) := by rw [zcc_e ha, if_pos g]
      obtain ⟨s1, a1, a2, a3, a4⟩ := zm213 hA hB hM ha hbl (fun x y hx hy => h1 x y (zrw_m.mp hx).1 (zrw_m.mp hx).2.1 (zrw_m.mp hy).2.1)
      have e0 := a3 0 0 (Nat.zero_le _) (Nat.zero_le _)
      unfold zEl2 at e0
      rw [List.drop_zero, List.drop_zero] at e0
      have q0 : ∀ (c : Int32 → Option zS), zal s1 212 0 c = c (s1 212 0) := fun c => zal_n (j := 0) (by decide)
      obtain ⟨s2, hs2⟩ : ∃ s2, s2 = zw s1 209 (40 * a + b) (nI (zcg1 A B a b + zRR A B (zkb A a) (zkb B b))) := ⟨_, rfl⟩
      have f2 : ∀ p, p ≠ 179 → p < 209 ∨ 212 < p → s2 p = s p := fun p w1 w2 => by rw [hs2, zw_ne (by omega), a4.1 p w1 (by omega)]
      have keep : ∀ x y, x < A.length → y < B.length → (x ≠ a ∨ y ≠ b) → zEm s A B x y → zEm s2 A B x y := by
        intro x y hx hy hne h v hv
        rw [hs2, zw_o (Or.inr (by omega)), a4.1 209 (by decide) (by omega)]
        exact h v hv
      obtain ⟨s', d1, d2, d3, d4⟩ := ih n s2 (by omega) (by omega) (zMm_f a2.1 (fun p hp => by rw [hs2, zw_ne (by omega)])) (fun x y hx hx2 hy => keep x y hx2 hy (by omega) (h1 x y hx hx2 hy)) (fun y hy hy2 => by
        by_cases q : y = b
        · subst q
          intro v hv
          rw [hcc] at hv
          cases hv
          rw [hs2, zw_s]
        · exact keep a y ha hy2 (by omega) (h2 y (by omega) hy2))
      refine ⟨s', ?_, d2, fun p w1 w2 => by rw [d3 p w1 w2, f2 p w1 w2], fun f w1 w2 => by rw [d4 f w1 w2, hs2, zw_ne (by decide), a4.2 f w1 w2]⟩
      rw [if_neg (fun q => q (by rw [g])), a1, zbv_e, zm215 a2.1.1 a2.1.2.1 hA hB ha hbl, zbi_e, show zrf 179 43 = 212 from rfl, q0, e0, zn_add, show zrf 179 38 = 209 from rfl, show ((40 : Int32) * nI a) + nI b = nI (40 * a + b) by rw [zn_lit 40, zn_mul, zn_add], zas_n (by show _ < 1600; omega), ← hs2, zdn_s]
      exact d1
    · have hcc : zcc A B a b = none := by rw [zcc_e ha, if_neg g]
      rw [if_pos (fun q => g ((zn_eq (by omega) (by omega)).mp q)), zdn_s]
      exact ih n s (by omega) (by omega) hM h1 (fun y hy hy2 => by
        by_cases q : y = b
        · subst q
          intro v hv
          rw [hcc] at hv
          cases hv
        · exact h2 y (by omega) hy2)
theorem zm212 {s : zS} {A B : List zN} (hA : zSm A) (hB : zSm B) (hM : zMm s A B) :
    ∃ s', zf212 179 s = some s' ∧ (∀ x y, x < A.length → y < B.length → zEm s' A B x y) ∧ (∀ p, p ≠ 179 → p < 209 ∨ 212 < p → s' p = s p) ∧ ∀ f, f ≠ 41 → f ≠ 42 → s' 179 f = s 179 f := by
  have hA4 := hA.2.1
  have hB4 := hB.2.1
  have l : ∀ a n (s : zS), a ≤ A.length → a < n → zMm s A B → (∀ x y, a ≤ x → x < A.length → y < B.length → zEm s A B x y) → ∃ s', zf212_9 179 n (zdn a) s = some s' ∧ (∀ x y, x < A.length → y < B.length → zEm s' A B x y) ∧ (∀ p, p ≠ 179 → p < 209 ∨ 212 < p → s' p = s p) ∧ ∀ f, f ≠ 41 → f ≠ 42 → s' 179 f = s 179 f := by
    intro a
    induction a with
    | zero =>
      intro n s ha hn hM h
      obtain ⟨n, rfl⟩ : ∃ n', n = n' + 1 := ⟨n - 1, by omega⟩
      exact ⟨s, by rw [zf212_9, if_pos zdn_0], fun x y hx hy => h x y (Nat.zero_le _) hx hy, fun _ _ _ => rfl, fun _ _ _ => rfl⟩
    | succ a ih =>
      intro n s ha hn hM h
      obtain ⟨n, rfl⟩ : ∃ n', n = n' + 1 := ⟨n - 1, by omega⟩
      obtain ⟨s1, b1, b2, b3, b4⟩ := zm212_22 (k9 := zf212_9 179 n) hA hB (show a < A.length by omega) B.length zfz s (Nat.le_refl _) (by rw [zfz_e]; omega) hM (fun x y hx hx2 hy => h x y (by omega) hx2 hy) (fun y h1 h2 => by omega)
      obtain ⟨s', c1, c2, c3, c4⟩ := ih n s1 (by omega) (by omega) (zMm_f hM (fun p hp => b3 p (by omega) (by omega))) b2
      refine ⟨s', ?_, c2, fun p w1 w2 => by rw [c3 p w1 w2, b3 p w1 w2], fun f w1 w2 => by rw [c4 f w1 w2, b4 f w1 w2]⟩
      have q1 : ∀ (c : Int32 → Option zS), zal s 195 1 c = c (s 195 1) := fun c => zal_n (j := 1) (by decide)
      rw [zf212_9, if_neg (zdn_1 (by omega)), show zdn (a + 1) = nI a from rfl, show zrf 179 22 = 195 from rfl, q1, hM.2.1.1, zdn_m, b1]
      exact c1
  have q0 : ∀ (c : Int32 → Option zS), zal s 195 0 c = c (s 195 0) := fun c => zal_n (j := 0) (by decide)
  unfold zf212
  rw [show zrf 179 22 = 195 from rfl, q0, hM.1.1, zdn_m]
  exact l A.length zfz s (Nat.le_refl _) (by rw [zfz_e]; omega) hM (fun x y h1 h2 => by omega)
