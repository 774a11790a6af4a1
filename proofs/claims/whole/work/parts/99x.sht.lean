/-! emit: the sheet on both sides, the body on the model's side. -/
set_option maxRecDepth 100000
set_option linter.unusedVariables false
/-- a style -/
def zsty (k l : Nat) : List Int32 := [60, 115, 32, 110, 61, 34] ++ [nI (65 + k)] ++ [34, 32, 98, 61, 34] ++ [nI (48 + l / 1000)] ++ [34, 32, 122, 61, 34] ++ (if l / 10 % 100 ≤ 9 then [] else [nI (48 + l / 10 % 100 / 10)]) ++ [nI (48 + l / 10 % 100 % 10)] ++ [34, 32, 107, 61, 34] ++ [nI (48 + l % 10)] ++ [34, 47, 62]
def zsts (X : List Nat) : Nat → List Int32
  | 0 => []
  | k + 1 => zsts X k ++ zsty k (X.getD k 0)
/-- the sheet -/
def zsht (X : List Nat) : List Int32 := if X.length = 0 then [60, 116, 47, 62] else [60, 116, 62] ++ (if X.length ≤ 26 then zsts X X.length else []) ++ [60, 47, 116, 62]
theorem z74d : ∀ l, l < 2000 → (nI l / 1000 = nI (l / 1000) ∧ (nI l / 10) - (nI l / 10) / 100 * 100 = nI (l / 10 % 100) ∧ nI l - nI l / 10 * 10 = nI (l % 10)) := by decide +kernel
theorem z74l {l : Nat} {s : zS} (h : l < 2000) : zf74 (nI l) 0 s = some (nI (l / 1000), s) ∧ zf74 (nI l) 1 s = some (nI (l / 10 % 100), s) ∧ zf74 (nI l) 2 s = some (nI (l % 10), s) := by
  obtain ⟨e1, e2, e3⟩ := z74d l h
  refine ⟨?_, ?_, ?_⟩
  · unfold zf74
    rw [if_neg (by decide), e1]
  · unfold zf74
    rw [if_pos (by decide), if_neg (by decide), e2]
  · unfold zf74
    rw [if_pos (by decide), if_pos (by decide), e3]
theorem z133 {k : Nat} {s : zS} {X : List Nat} {T : List Int32} (hN : zNc s X) (hk : k < X.length) (h : zRo 172 s T) : zRw 172 s (T ++ zsty k (X.getD k 0)) (zf133 169 (nI k) s) := by
  obtain ⟨l, hl⟩ : ∃ l, l = X.getD k 0 := ⟨_, rfl⟩
  have hl2 : l < 2000 := by rw [hl]; exact hN.2.2.2 _ (zgetN_m hk)
  have h26 := hN.2.1
  have ev : s 178 k = nI l := by rw [hl]; exact hN.2.2.1 k hk
  rw [← hl]
  have p48 : ∀ a : Nat, (48 : Int32) + nI a = nI (48 + a) := fun a => by rw [zn_lit 48, zn_add]
  have rd : ∀ (s' : zS) (c : Int32 → Option zS), s' 178 = s 178 → zal s' 178 (nI k) c = c (nI l) := fun s' c e => by rw [zal_n (show k < 26 by omega), e, ev]
  have tl : ∀ (s' : zS) T, s' 178 = s 178 → zRo 172 s' T → zRw 172 s' (T ++ [nI (48 + l / 10 % 100 % 10)] ++ [34, 32, 107, 61, 34] ++ [nI (48 + l % 10)] ++ [34, 47, 62]) (zf133_89 169 (nI k) (nI (l / 10 % 100)) s') := by
    intro s' T e h
    unfold zf133_89
    rw [show zrf 169 1 = 172 from rfl, (zdg3 (l / 10 % 100) (by omega)).2.2.1]
    refine zrwB (zro13 (by decide) h) (fun s1 h1 f1 => ?_)
    refine zrwB (zro121 (by decide) [34, 32, 107, 61, 34] h1) (fun s2 h2 f2 => ?_)
    rw [show zrf 169 4 = 178 from rfl, rd s2 _ (by rw [f2 178 (by decide) (by decide), f1 178 (by decide) (by decide), e]), (z74l hl2).2.2, zbi_e, p48]
    refine zrwB (zro13 (by decide) h2) (fun s3 h3 f3 => ?_)
    exact zrwB (zro121 (by decide) [34, 47, 62] h3) (fun s4 h4 f4 => zrwE h4)
  unfold zf133
  rw [show zrf 169 4 = 178 from rfl, show zrf 169 1 = 172 from rfl, rd s _ rfl, (z74l hl2).2.1, zbi_e, show (65 : Int32) + nI k = nI (65 + k) by rw [zn_lit 65, zn_add]]
  by_cases g : l / 10 % 100 ≤ 9
  · have ez : T ++ zsty k l = T ++ [60, 115, 32, 110, 61, 34] ++ [nI (65 + k)] ++ [34, 32, 98, 61, 34] ++ [nI (48 + l / 1000)] ++ [34, 32, 122, 61, 34] ++ [nI (48 + l / 10 % 100 % 10)] ++ [34, 32, 107, 61, 34] ++ [nI (48 + l % 10)] ++ [34, 47, 62] := by
      unfold zsty
      rw [if_pos g]
      simp only [List.append_assoc, List.nil_append]
    rw [ez]
    refine zrwB (zro121 (by decide) [60, 115, 32, 110, 61, 34] h) (fun s1 h1 f1 => ?_)
    refine zrwB (zro13 (by decide) h1) (fun s2 h2 f2 => ?_)
    refine zrwB (zro121 (by decide) [34, 32, 98, 61, 34] h2) (fun s3 h3 f3 => ?_)
    have e3 : s3 178 = s 178 := by rw [f3 178 (by decide) (by decide), f2 178 (by decide) (by decide), f1 178 (by decide) (by decide)]
    rw [rd s3 _ e3, (z74l hl2).1, zbi_e, p48]
    refine zrwB (zro13 (by decide) h3) (fun s4 h4 f4 => ?_)
    refine zrwB (zro121 (by decide) [34, 32, 122, 61, 34] h4) (fun s5 h5 f5 => ?_)
    rw [if_pos (show nI (l / 10 % 100) ≤ 9 from (zn_le (a := l / 10 % 100) (b := 9) (by omega) (by decide)).mpr g)]
    exact tl s5 _ (by rw [f5 178 (by decide) (by decide), f4 178 (by decide) (by decide), e3]) h5
  · have ez : T ++ zsty k l = T ++ [60, 115, 32, 110, 61, 34] ++ [nI (65 + k)] ++ [34, 32, 98, 61, 34] ++ [nI (48 + l / 1000)] ++ [34, 32, 122, 61, 34] ++ [nI (48 + l / 10 % 100 / 10)] ++ [nI (48 + l / 10 % 100 % 10)] ++ [34, 32, 107, 61, 34] ++ [nI (48 + l % 10)] ++ [34, 47, 62] := by
      unfold zsty
      rw [if_neg g]
      simp only [List.append_assoc]
    rw [ez]
    refine zrwB (zro121 (by decide) [60, 115, 32, 110, 61, 34] h) (fun s1 h1 f1 => ?_)
    refine zrwB (zro13 (by decide) h1) (fun s2 h2 f2 => ?_)
    refine zrwB (zro121 (by decide) [34, 32, 98, 61, 34] h2) (fun s3 h3 f3 => ?_)
    have e3 : s3 178 = s 178 := by rw [f3 178 (by decide) (by decide), f2 178 (by decide) (by decide), f1 178 (by decide) (by decide)]
    rw [rd s3 _ e3, (z74l hl2).1, zbi_e, p48]
    refine zrwB (zro13 (by decide) h3) (fun s4 h4 f4 => ?_)
    refine zrwB (zro121 (by decide) [34, 32, 122, 61, 34] h4) (fun s5 h5 f5 => ?_)
    rw [if_neg (show ¬ nI (l / 10 % 100) ≤ 9 from fun w => g ((zn_le (a := l / 10 % 100) (b := 9) (by omega) (by decide)).mp w)), (zdg3 (l / 10 % 100) (by omega)).2.2.2]
    refine zrwB (zro13 (by decide) h5) (fun s6 h6 f6 => ?_)
    exact tl s6 _ (by rw [f6 178 (by decide) (by decide), f5 178 (by decide) (by decide), f4 178 (by decide) (by decide), e3]) h6
/-- the class's sheet -/
theorem z120 {s : zS} {X : List Nat} (hN : zNc s X) : zRw 172 s (zsht X) (zf120 169 s) := by
  have h26 := hN.2.1
  have fN : ∀ {s1 s2 : zS}, (∀ q, q ≠ 172 → q ≠ zrf 172 0 → s2 q = s1 q) → zNc s1 X → zNc s2 X := fun f hN => zNc_f hN (f 169 (by decide) (by decide)) (f 178 (by decide) (by decide))
  have lp : ∀ m f k (s : zS), k + m = X.length → m < f → zNc s X → zRo 172 s ([60, 116, 62] ++ zsts X k) → zRw 172 s ([60, 116, 62] ++ zsts X X.length ++ [60, 47, 116, 62]) (zf120_35 169 f (nI k) s) := by
    intro m
    induction m with
    | zero =>
      intro f k s hk hf hN h
      obtain ⟨f, rfl⟩ : ∃ f', f = f' + 1 := ⟨f - 1, by omega⟩
      have e : k = X.length := by omega
      subst e
      rw [zf120_35, zgf_e, hN.1, if_pos ((zn_le (by omega) (by omega)).mpr (Nat.le_refl _)), show zrf 169 1 = 172 from rfl]
      exact zrwB (zro121 (by decide) [60, 47, 116, 62] h) (fun s1 h1 f1 => zrwE h1)
    | succ m ih =>
      intro f k s hk hf hN h
      obtain ⟨f, rfl⟩ : ∃ f', f = f' + 1 := ⟨f - 1, by omega⟩
      rw [zf120_35, zgf_e, hN.1, if_neg (fun w => by have := (zn_le (by omega) (by omega)).mp w; omega), zn_a1]
      refine zrwB (z133 hN (by omega) h) (fun s1 h1 f1 => ?_)
      exact ih f (k + 1) s1 (by omega) (by omega) (fN f1 hN) (by rw [zsts, ← List.append_assoc]; exact h1)
  obtain ⟨s1, a1, a2, a3⟩ := zro15 (r := 172) (s := s) (by decide)
  have fr : ∀ q, q ≠ 172 → q ≠ zrf 172 0 → s1 q = s q := fun p u v => a3 p u
  have N1 := fN fr hN
  refine zrwS (s1 := s1) ?_ fr
  unfold zf120 zsht
  rw [show zrf 169 1 = 172 from rfl, a1, zbv_e, zgf_e, N1.1]
  by_cases g : X.length = 0
  · rw [if_pos g, if_neg (show ¬ ¬ nI X.length = 0 from fun w => w (by rw [g]; rfl))]
    exact zrwB (zro121 (by decide) [60, 116, 47, 62] a2) (fun s2 h2 f2 => zrwE h2)
  · rw [if_neg g, if_pos h26, if_pos (show ¬ nI X.length = 0 from fun w => g ((zn_eq (a := X.length) (b := 0) (by omega) (by decide)).mp w))]
    refine zrwB (zro121 (by decide) [60, 116, 62] a2) (fun s2 h2 f2 => ?_)
    exact lp X.length zfz 0 s2 (Nat.zero_add _) (by rw [zfz_e]; omega) (fN f2 N1) (by rw [zsts, List.append_nil]; exact h2)
theorem zsty_l {k l : Nat} : (zsty k l).length ≤ 29 := by
  unfold zsty
  simp only [List.length_append, List.length_cons, List.length_nil]
  split <;> simp only [List.length_cons, List.length_nil] <;> omega
theorem zsts_l {X : List Nat} : ∀ k, (zsts X k).length ≤ 29 * k := by
  intro k
  induction k with
  | zero => exact Nat.le_refl _
  | succ k ih =>
    have := zsty_l (k := k) (l := X.getD k 0)
    rw [zsts, List.length_append]
    omega
/-! the model -/
def zMw (p : Nat) (s : zS) (C : List Int32) (o : Option zS) : Prop := ∃ s', o = some s' ∧ zMde p s' C ∧ zFs2 p s s'
theorem zmwE {p : Nat} {s : zS} {C : List Int32} (h : zMde p s C) : zMw p s C (some s) := ⟨s, rfl, h, zFs2_r⟩
theorem zmwB {p : Nat} {s : zS} {C1 C2 : List Int32} {o : Option zS} {k : zS → Option zS} (ho : zMw p s C1 o) (hk : ∀ s1, zMde p s1 C1 → zFs2 p s s1 → zMw p s1 C2 (k s1)) : zMw p s C2 (zbv o k) := by
  obtain ⟨s1, a, b, c⟩ := ho
  obtain ⟨s2, d, e, f⟩ := hk s1 b c
  exact ⟨s2, by rw [a, zbv_e]; exact d, e, zFs2_t c f⟩
theorem zmwS {p : Nat} {s s1 : zS} {C : List Int32} {o : Option zS} (h : zMw p s1 C o) (f : zFs2 p s s1) : zMw p s C o := by
  obtain ⟨s2, d, e, g⟩ := h
  exact ⟨s2, d, e, zFs2_t f g⟩
theorem zNd_f {p : Nat} {s s' : zS} {X : List Nat} (h : zNd s X) (f : zFs2 p s s') : zNd s' X := by
  unfold zNd
  rw [f.1 179 (by decide) (by decide), f.1 224 (by decide) (by decide)]
  exact h
theorem zPm_g {p i : Nat} {s s' : zS} {D : List zN} (h : zPm i s D) (f : zFs2 p s s') : zPm i s' D := zPm_e h (fun q a b => f.1 q (by omega) (by omega))
/-- a style, in the model -/
theorem zm228_s {k : Nat} {s : zS} {X : List Nat} {C C' : List Int32} {K : Int32 → zS → Option zS} (hN : zNd s X) (hk : k < X.length) (h26 : X.length ≤ 26) (hC : zMde 0 s C) (hl : C.length + 29 ≤ 2400) (hK : ∀ s1, zMde 0 s1 (C ++ zsty k (X.getD k 0)) → zFs2 0 s s1 → zMw 0 s1 C' (K (nI (k + 1)) s1)) :
    zMw 0 s C' (zbv (zf231 179 0 29500 s) fun s4 =>
        zbv (zf233 179 0 110 0 (65 + nI k) s4) fun s6 =>
        zal s6 (zrf 179 55) (3 * nI k) fun v7 =>
        zbv (zf233 179 0 98 0 (48 + v7) s6) fun s9 =>
        zal s9 (zrf 179 55) ((3 * nI k) + 1) fun v10 =>
        if v10 ≤ 9 then
          zf228_165 179 K (nI k) v10 0 122 0 s9
        else
          zf228_165 179 K (nI k) v10 (48 + (v10 / 10)) 122 0 s9) := by
  obtain ⟨l, hll⟩ : ∃ l, l = X.getD k 0 := ⟨_, rfl⟩
  have hl2 : l < 2000 := by rw [hll]; exact hN.2.2.2 _ (zgetN_m hk)
  have e0 : ∀ s', zFs2 0 s s' → s' 224 (3 * k) = nI (l / 1000) := fun s' f => by rw [f.1 224 (by decide) (by decide), hll]; exact hN.2.2.1 k hk 0 (by decide)
  have e1 : ∀ s', zFs2 0 s s' → s' 224 (3 * k + 1) = nI (l / 10 % 100) := fun s' f => by rw [f.1 224 (by decide) (by decide), hll]; exact hN.2.2.1 k hk 1 (by decide)
  have e2 : ∀ s', zFs2 0 s s' → s' 224 (3 * k + 2) = nI (l % 10) := fun s' f => by rw [f.1 224 (by decide) (by decide), hll]; exact hN.2.2.1 k hk 2 (by decide)
  rw [← hll] at hK
  have p48 : ∀ a : Nat, (48 : Int32) + nI a = nI (48 + a) := fun a => by rw [zn_lit 48, zn_add]
  have p3 : (3 : Int32) * nI k = nI (3 * k) := by rw [zn_lit 3, zn_mul]
  have L : ∀ (A B : List Int32), (A ++ B).length = A.length + B.length := fun A B => List.length_append
  refine zmwB (zm231 (p := 0) (by decide) zby_4 (by decide) hC (by show C.length + 2 ≤ 2400; omega)) (fun s1 h1 f1 => ?_)
  rw [show (65 : Int32) + nI k = nI (65 + k) by rw [zn_lit 65, zn_add]]
  refine zmwB (zm233 (p := 0) (l := 110) (x := 0) (y := nI (65 + k)) (by decide) h1 (by rw [L]; show C.length + 2 + 7 ≤ 2400; omega)) (fun s2 h2 f2 => ?_)
  have F2 := zFs2_t f1 f2
  rw [show zrf 179 55 = 224 from rfl, p3, zal_n (by show _ < 240; omega), e0 s2 F2, p48]
  refine zmwB (zm233 (p := 0) (l := 98) (x := 0) (y := nI (48 + l / 1000)) (by decide) h2 (by rw [L, L]; show C.length + 2 + 6 + 7 ≤ 2400; omega)) (fun s3 h3 f3 => ?_)
  have F3 := zFs2_t F2 f3
  rw [zn_a1, zal_n (by show _ < 240; omega), e1 s3 F3]
  -- the rest
  obtain ⟨C3, hC3⟩ : ∃ C3, C3 = C ++ [60, 115] ++ ([32, 110, 61, 34] ++ (if (0 : Int32) ≤ 0 then [] else [0]) ++ [nI (65 + k), 34]) ++ ([32, 98, 61, 34] ++ (if (0 : Int32) ≤ 0 then [] else [0]) ++ [nI (48 + l / 1000), 34]) := ⟨_, rfl⟩
  have l3 : C3.length = C.length + 14 := by rw [hC3, L, L, L]; rfl
  rw [← hC3] at h3
  have tl : ∀ (x : Int32) (Z : List Int32), (if x ≤ 0 then [] else [x]) = Z → Z.length ≤ 1 → C ++ zsty k l = C3 ++ ([32, 122, 61, 34] ++ Z ++ [nI (48 + l / 10 % 100 % 10), 34]) ++ ([32, 107, 61, 34] ++ [] ++ [nI (48 + l % 10), 34]) ++ [47, 62] → zMw 0 s3 C' (zf228_165 179 K (nI k) (nI (l / 10 % 100)) x 122 0 s3) := by
    intro x Z hZ hZl eq
    unfold zf228_165
    rw [(zdg3 (l / 10 % 100) (by omega)).2.2.1]
    have m1 := zm233 (p := 0) (l := 122) (x := x) (y := nI (48 + l / 10 % 100 % 10)) (by decide) h3 (by omega)
    rw [hZ] at m1
    refine zmwB m1 (fun s4 h4 f4 => ?_)
    have F4 := zFs2_t F3 f4
    have l4 : (C3 ++ ([32, 122, 61, 34] ++ Z ++ [nI (48 + l / 10 % 100 % 10), 34])).length ≤ C.length + 21 := by
      rw [L, L, L, l3]; show C.length + 14 + (4 + Z.length + 2) ≤ _; omega
    rw [show zrf 179 55 = 224 from rfl, p3, show nI (3 * k) + 2 = nI (3 * k + 2) by rw [zn_lit 2, zn_add], zal_n (by show _ < 240; omega), e2 s4 F4, p48]
    refine zmwB (zm233 (p := 0) (l := 107) (x := 0) (y := nI (48 + l % 10)) (by decide) h4 (by omega)) (fun s5 h5 f5 => ?_)
    have F5 := zFs2_t F4 f5
    refine zmwB (zm231 (p := 0) (by decide) zby_3 (by decide) h5 (by rw [L]; show _ + 6 + 2 ≤ 2400; omega)) (fun s6 h6 f6 => ?_)
    rw [zn_a1]
    exact hK s6 (by rw [eq]; exact h6) (zFs2_t F5 f6)
  by_cases g : l / 10 % 100 ≤ 9
  · rw [if_pos (show nI (l / 10 % 100) ≤ 9 from (zn_le (a := l / 10 % 100) (b := 9) (by omega) (by decide)).mpr g)]
    refine tl 0 [] rfl (by decide) ?_
    rw [hC3]
    unfold zsty
    rw [if_pos g, show (if (0 : Int32) ≤ 0 then ([] : List Int32) else [0]) = [] from rfl]
    simp only [List.append_assoc, List.cons_append, List.nil_append]
  · rw [if_neg (show ¬ nI (l / 10 % 100) ≤ 9 from fun w => g ((zn_le (a := l / 10 % 100) (b := 9) (by omega) (by decide)).mp w)), (zdg3 (l / 10 % 100) (by omega)).2.2.2]
    refine tl _ [nI (48 + l / 10 % 100 / 10)] (if_neg (fun w => by have := (zn_le (a := 48 + l / 10 % 100 / 10) (b := 0) (by omega) (by decide)).mp w; omega)) (Nat.le_refl _) ?_
    rw [hC3]
    unfold zsty
    rw [if_neg g, show (if (0 : Int32) ≤ 0 then ([] : List Int32) else [0]) = [] from rfl]
    simp only [List.append_assoc, List.cons_append, List.nil_append]
/-- the model's sheet, once the looks are there -/
theorem zm228_t {s : zS} {X : List Nat} (hN : zNd s X) (hX : X.length < 80) (hC : zMde 0 s ([60, 116] ++ (if X.length = 0 then [47, 62] else [62]))) : zMw 0 s (zsht X) (zf228_77 179 zfz (nI 0) s) := by
  have e210 : ∀ (s : zS) C, zNd s X → zMde 0 s C → C.length + 4 ≤ 2400 → zMw 0 s (C ++ (if X.length = 0 then [] else [60, 47, 116, 62])) (zf228_210 179 s) := by
    intro s C hN hC hl
    unfold zf228_210
    rw [zgf_e, hN.1]
    by_cases g : X.length = 0
    · rw [if_pos g, if_pos (show nI X.length ≤ 0 by rw [g]; decide), List.append_nil]
      exact zmwE hC
    · rw [if_neg g, if_neg (fun w => g (by have := (zn_le (a := X.length) (b := 0) (by omega) (by decide)).mp w; omega))]
      exact zmwB (zm231 (p := 0) (by decide) zby_5 (by decide) hC hl) (fun s1 h1 f1 => zmwE h1)
  by_cases g26 : X.length ≤ 26
  · have lp : ∀ m f k (s : zS), k + m = X.length → m < f → zNd s X → zMde 0 s ([60, 116] ++ (if X.length = 0 then [47, 62] else [62]) ++ zsts X k) → zMw 0 s (zsht X) (zf228_77 179 f (nI k) s) := by
      intro m
      induction m with
      | zero =>
        intro f k s hk hf hN hC
        obtain ⟨f, rfl⟩ : ∃ f', f = f' + 1 := ⟨f - 1, by omega⟩
        have e : k = X.length := by omega
        subst e
        have hl := zsts_l (X := X) X.length
        rw [zf228_77, zgf_e, hN.1, if_pos ((zn_le (by omega) (by omega)).mpr (Nat.le_refl _))]
        have := e210 s _ hN hC (by
          rw [List.length_append, List.length_append]
          have : (if X.length = 0 then [47, 62] else [62] : List Int32).length ≤ 2 := by split <;> decide
          show 2 + _ + _ + 4 ≤ 2400
          omega)
        have ez : zsht X = [60, 116] ++ (if X.length = 0 then [47, 62] else [62]) ++ zsts X X.length ++ (if X.length = 0 then [] else [60, 47, 116, 62]) := by
          unfold zsht
          by_cases g : X.length = 0
          · rw [if_pos g, if_pos g, if_pos g, g]; rfl
          · rw [if_neg g, if_neg g, if_neg g, if_pos g26]; rfl
        rw [ez]
        exact this
      | succ m ih =>
        intro f k s hk hf hN hC
        obtain ⟨f, rfl⟩ : ∃ f', f = f' + 1 := ⟨f - 1, by omega⟩
        have hl := zsts_l (X := X) k
        rw [zf228_77, zgf_e, hN.1, if_neg (fun w => by have := (zn_le (by omega) (by omega)).mp w; omega), zgf_e, hN.1, if_neg (fun w => by have := (zn_lt (a := 26) (by decide) (by omega)).mp w; omega)]
        refine zm228_s hN (by omega) g26 hC (by
          rw [List.length_append, List.length_append]
          have : (if X.length = 0 then [47, 62] else [62] : List Int32).length ≤ 2 := by split <;> decide
          show 2 + _ + _ + 29 ≤ 2400
          omega) (fun s1 h1 f1 => ?_)
        exact ih f (k + 1) s1 (by omega) (by omega) (zNd_f hN f1) (by rw [zsts, ← List.append_assoc]; exact h1)
    exact lp X.length zfz 0 s (Nat.zero_add _) (by rw [zfz_e]; omega) hN (by rw [zsts, List.append_nil]; exact hC)
  · obtain ⟨M, hM⟩ : ∃ M, zfz = M + 1 := ⟨9999, zfz_e⟩
    have g0 : ¬ X.length = 0 := by omega
    rw [if_neg g0] at hC
    rw [hM, zf228_77, zgf_e, hN.1, if_neg (fun w => by have := (zn_le (by omega) (by omega)).mp w; omega), zgf_e, hN.1, if_pos (show 26 < nI X.length from (zn_lt (a := 26) (b := X.length) (by decide) (by omega)).mpr (by omega))]
    have := e210 s _ hN hC (by decide)
    rw [if_neg g0] at this
    unfold zsht
    rw [if_neg g0, if_neg g26]
    exact this
theorem znl_80 {D : List zN} (hW : zWf D) : ∀ m, m + 1 ≤ D.length → (znl D (m + 1)).length ≤ m := by
  intro m
  induction m with
  | zero =>
    intro hm
    obtain ⟨w1, w2, _⟩ := hW 0 (by omega)
    have k0 : (zno D 0).1 = 0 := by
      rcases w2 with ⟨_, _, w⟩ | ⟨a, a1, _⟩
      · exact w
      · exact absurd a1 (Nat.not_lt_zero _)
    have z0 : zned D 0 = false := by
      unfold zned
      rw [k0]
      rfl
    rw [znl, if_neg (fun w => by rw [z0] at w; cases w.1)]
    exact Nat.le_refl _
  | succ m ih =>
    intro hm
    have := ih (by omega)
    rw [znl]
    split
    · rw [List.length_append, List.length_singleton]; omega
    · omega
/-- what the sheet may change in the model -/
def zFv (s s' : zS) : Prop := (∀ q, q ≠ 179 → q ≠ 224 → q ≠ 220 → q ≠ 221 → s' q = s q) ∧ ∀ f, f ≠ 56 → s' 179 f = s 179 f
/-- the model's sheet -/
theorem zm228 {i : Nat} {s : zS} {D : List zN} (hi : i < 3) (hP : zPm i s D) (hW : zWf D) (h80 : D.length ≤ 80) (h0 : 0 < D.length) : ∃ s', zf228 179 (nI i) s = some s' ∧ zNd s' (znl D D.length) ∧ zMde 0 s' (zsht (znl D D.length)) ∧ zFv s s' := by
  have hX : (znl D D.length).length < 80 := by
    have := znl_80 hW (D.length - 1) (by omega)
    rw [show D.length - 1 + 1 = D.length by omega] at this
    omega
  have lp : ∀ m f n (s : zS), n + m = D.length → m < f → zPm i s D → zNd s (znl D n) → ∃ s', zf228_7 179 f (nI i) (nI n) s = some s' ∧ zNd s' (znl D D.length) ∧ zMde 0 s' (zsht (znl D D.length)) ∧ zFv s s' := by
    intro m
    induction m with
    | zero =>
      intro f n s hn hf hP hN
      obtain ⟨f, rfl⟩ : ∃ f', f = f' + 1 := ⟨f - 1, by omega⟩
      have e : n = D.length := by omega
      subst e
      have z0 : ∀ (c : zS → Option zS), zas s 221 0 0 c = c (zw s 221 0 0) := fun c => zas_n (j := 0) (by decide)
      rw [zf228_7, show zrf 179 22 = 195 from rfl, zal_n (show i < 4 by omega), hP.1, if_pos ((zn_le (by omega) (by omega)).mpr (Nat.le_refl _)), show zrf 179 52 = 221 from rfl, z0]
      obtain ⟨s1, hs1⟩ : ∃ s1, s1 = zw s 221 0 0 := ⟨_, rfl⟩
      have f1 : ∀ q, q ≠ 221 → s1 q = s q := fun q a => by rw [hs1, zw_ne a]
      have C1 : zMde 0 s1 [] := ⟨by rw [hs1, zw_s]; rfl, by decide, fun j hj => absurd hj (Nat.not_lt_zero _)⟩
      have N1 : zNd s1 (znl D D.length) := by
        unfold zNd
        rw [f1 179 (by decide), f1 224 (by decide)]
        exact hN
      rw [← hs1]
      obtain ⟨s2, a1, a2, a3⟩ := zm231 (p := 0) (by decide) zby_1 (by decide) C1 (by decide)
      have N2 := zNd_f N1 a3
      rw [show (0 : Int32) = nI 0 from rfl, a1, zbv_e, zgf_e, N2.1]
      obtain ⟨s3, b1, b2, b3⟩ : ∃ s3, (if ¬ nI (znl D D.length).length = nI 0 then zf228_72 179 62 (nI 0) s2 else zf228_72 179 15919 (nI 0) s2) = zf228_77 179 zfz (nI 0) s3 ∧ zMde 0 s3 ([60, 116] ++ (if (znl D D.length).length = 0 then [47, 62] else [62])) ∧ zFs2 0 s2 s3 := by
        by_cases g : (znl D D.length).length = 0
        · obtain ⟨s3, b1, b2, b3⟩ := zm231 (p := 0) (by decide) zby_3 (by decide) a2 (by decide)
          refine ⟨s3, ?_, by rw [if_pos g]; exact b2, b3⟩
          rw [if_neg (show ¬ ¬ nI (znl D D.length).length = nI 0 from fun w => w (by rw [g])), zf228_72, b1, zbv_e]
          rfl
        · obtain ⟨s3, b1, b2, b3⟩ := zm231 (p := 0) (by decide) zby_2 (by decide) a2 (by decide)
          refine ⟨s3, ?_, by rw [if_neg g]; exact b2, b3⟩
          rw [if_pos (show ¬ nI (znl D D.length).length = nI 0 from fun w => g ((zn_eq (by omega) (by decide)).mp w)), zf228_72, b1, zbv_e]
          rfl
      rw [b1]
      obtain ⟨s4, c1, c2, c3⟩ := zm228_t (zNd_f N2 b3) hX b2
      have F := zFs2_t (zFs2_t a3 b3) c3
      exact ⟨s4, c1, zNd_f (zNd_f N2 b3) c3, c2, fun q u1 u2 u3 u4 => by rw [F.1 q u3 u4, f1 q u4], fun g hg => by rw [F.1 179 (by decide) (by decide), f1 179 (by decide)]⟩
    | succ m ih =>
      intro f n s hn hf hP hN
      obtain ⟨f, rfl⟩ : ∃ f', f = f' + 1 := ⟨f - 1, by omega⟩
      have hnl : n < D.length := by omega
      have hlen := (znl_b hW n (by omega)).2.1
      have ez : znl D (n + 1) = if zned D n = true ∧ zlkn D n ∉ znl D n then znl D n ++ [zlkn D n] else znl D n := by rw [znl]
      rw [zf228_7, show zrf 179 22 = 195 from rfl, zal_n (show i < 4 by omega), hP.1, if_neg (fun w => by have := (zn_le (by omega) (by omega)).mp w; omega), zm229 hi hP hW hnl, zbi_e]
      cases hz : zned D n with
      | false =>
        rw [if_neg (show ¬ false = true by decide), if_pos rfl, zn_a1]
        exact ih f (n + 1) s (by omega) (by omega) hP (by rw [ez, if_neg (fun w => by rw [hz] at w; cases w.1)]; exact hN)
      | true =>
        obtain ⟨l1, l2⟩ := zned_l hW hnl hz
        have hv := (hP.2.2.2.2.2 n hnl).2.2.1
        rw [l1] at hv
        obtain ⟨r1, r2⟩ := zm230 (n := n) hi (by omega) hv l2 hN (by omega)
        rw [if_pos rfl, if_neg (show ¬ (1 : Int32) = 0 by decide)]
        cases hf' : zfi (zlkn D n) (znl D n) 0 with
        | some j =>
          have hin : ¬ zlkn D n ∉ znl D n := fun x => by rw [(zfi_n _ 0).mpr x] at hf'; cases hf'
          rw [r1 j hf', zbi_e, zn_a1]
          exact ih f (n + 1) s (by omega) (by omega) hP (by rw [ez, if_neg (fun x => hin x.2)]; exact hN)
        | none =>
          have hout : zlkn D n ∉ znl D n := (zfi_n _ 0).mp hf'
          obtain ⟨s1, b1, b2, b3⟩ := r2 hf'
          rw [b1, zbi_e, zn_a1]
          obtain ⟨s', c1, c2, c3, c4⟩ := ih f (n + 1) s1 (by omega) (by omega) (zPm_e hP (fun p a b => b3.1 p (by omega) (by omega))) (by rw [ez, if_pos ⟨hz, hout⟩]; exact b2)
          exact ⟨s', c1, c2, c3, fun q u1 u2 u3 u4 => by rw [c4.1 q u1 u2 u3 u4, b3.1 q u1 u2], fun g hg => by rw [c4.2 g hg, b3.2 g hg]⟩
  obtain ⟨s1, hs1⟩ : ∃ s1, s1 = zw s 179 56 0 := ⟨_, rfl⟩
  have f1 : ∀ p, p ≠ 179 → s1 p = s p := fun p a => by rw [hs1, zw_ne a]
  obtain ⟨s', c1, c2, c3, c4⟩ := lp D.length zfz 0 s1 (Nat.zero_add _) (by rw [zfz_e]; omega) (zPm_e hP (fun p a b => f1 p (by omega))) ⟨by rw [hs1, zw_s]; rfl, Nat.zero_le _, fun k hk => absurd hk (Nat.not_lt_zero _), fun x hx => absurd hx List.not_mem_nil⟩
  refine ⟨s', ?_, c2, c3, fun q u1 u2 u3 u4 => by rw [c4.1 q u1 u2 u3 u4, f1 q u1], fun g hg => by rw [c4.2 g hg, hs1, zw_o (Or.inr hg)]⟩
  unfold zf228
  rw [zpf_e, ← hs1]
  exact c1
