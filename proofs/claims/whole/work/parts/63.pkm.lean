/-! read, the package on the model's side (outline). -/
set_option maxRecDepth 100000
set_option linter.unusedVariables false
theorem z155 {i : Nat} {s : zS} {T : List Int32} (h : zMtx s T) (hi : i < 2147483648) : zf155 179 (nI i) s = some (T.getD i (-1), s) := by
  have hl := h.2.1
  unfold zf155
  simp only [zgf, h.1]
  by_cases h5 : T.length ≤ i
  · rw [if_pos ((zn_le (by omega) hi).mpr h5), zgetD_out h5]
  · rw [if_neg (fun e => h5 ((zn_le (by omega) hi).mp e)), show zrf 179 1 = 180 from rfl, zal_n (by show i < 480; omega), h.2.2 i (by omega)]
/-- a hex digit's number, as the model has it -/
def zhv (x : Int32) : Int32 := if zdg x = true then x - 48 else if x < 97 then -1 else if 102 < x then -1 else x - 97 + 10
theorem z157 {x : Int32} {s : zS} : zf157 x s = some (zhv x, s) := by
  unfold zf157 zhv
  rw [z156]
  simp only [zbi]
  rw [zb_if0]
  by_cases h : zdg x = true
  · rw [if_pos h, if_pos h]
  · rw [if_neg h, if_neg h]
    by_cases h1 : x < 97
    · rw [if_pos h1, if_pos h1]
    · rw [if_neg h1, if_neg h1]
      by_cases h2 : 102 < x
      · rw [if_pos h2, if_pos h2]
      · rw [if_neg h2, if_neg h2]
/-- of a hex digit the number, as a number -/
def zhn (x : Int32) : Nat := if zdg x = true then x.toNatClampNeg - 48 else x.toNatClampNeg - 87
theorem zhx_v {x : Int32} (h : zhx x = true) : zhv x = nI (zhn x) ∧ zhn x < 16 ∧ x = nI (if zhn x < 10 then 48 + zhn x else 87 + zhn x) := by
  by_cases h1 : zdg x = true
  · obtain ⟨v, hv, rfl⟩ := zdg_v h1
    have e : zhn (nI (48 + v)) = v := by
      unfold zhn
      rw [if_pos h1, zn_cl (by omega)]
      omega
    rw [e]
    refine ⟨?_, by omega, by rw [if_pos (by omega)]⟩
    unfold zhv
    rw [if_pos h1, zn_lit 48, zn_sub (by omega)]
    congr 1
    omega
  · have h2 : 97 ≤ x ∧ x ≤ 102 := by
      unfold zhx at h
      have h3 : zdg x = false := by simpa using h1
      rw [h3] at h
      simpa using h
    obtain ⟨v, rfl, hv⟩ := zn_of (x := x) (fun e => absurd (Int32.lt_of_le_of_lt h2.1 e) (by decide))
    have e1 := (zn_le (a := 97) (by decide) hv).mp h2.1
    have e2 := (zn_le (b := 102) hv (by decide)).mp h2.2
    have e : zhn (nI v) = v - 87 := by
      unfold zhn
      rw [if_neg h1, zn_cl (by omega)]
    rw [e]
    refine ⟨?_, by omega, ?_⟩
    · unfold zhv
      rw [if_neg h1, if_neg (Int32.not_lt.mpr h2.1), if_neg (Int32.not_lt.mpr h2.2), zn_lit 97, zn_sub (by omega), zn_lit 10, zn_add]
      congr 1
      omega
    · rw [if_neg (by omega)]
      congr 1
      omega
theorem zhv_n {x : Int32} (h : zhx x = false) : zhv x = -1 := by
  unfold zhx at h
  have h1 := Bool.or_eq_false_iff.mp h
  unfold zhv
  rw [if_neg (by rw [h1.1]; decide)]
  by_cases h2 : x < 97
  · rw [if_pos h2]
  · rw [if_neg h2]
    by_cases h3 : 102 < x
    · rw [if_pos h3]
    · have h4 := h1.2
      rw [decide_eq_true (Int32.not_lt.mp h2), decide_eq_true (Int32.not_lt.mp h3)] at h4
      cases h4
theorem zm_d {k4 : Int32 → Int32 → zS → Option (Int32 × zS)} {n f p c k : Nat} {s : zS} {T : List Int32} (h : zMtx s T) (hp : p < 2) (hc : s 183 p = nI c) (hk : k < 5) (hf : f < 3000) : zf154_78 179 k4 (n + 1) (nI f) (nI p) (nI k) s = if zdg (T.getD (f + k) (-1)) = true then zf154_78 179 k4 n (nI f) (nI p) (nI (k + 1)) (zw s 183 p (nI (10 * c + zdv (T.getD (f + k) (-1))))) else some (nI (f + k), s) := by
  rw [zf154_78, if_neg (fun e => by have := (zn_le (a := 5) (by omega) (by omega)).mp e; omega), zn_add, z155 h (by omega)]
  simp only [zbi]
  rw [z156]
  simp only
  rw [zb_if]
  by_cases e : zdg (T.getD (f + k) (-1)) = true
  · rw [if_pos e, if_pos e, show zrf 179 6 = 183 from rfl, zal_n (by show p < 2; omega), hc]
    rw [z155 h (by omega)]
    simp only
    obtain ⟨e1, e2⟩ := zdv_e e
    have e3 : ((10 * nI c) + T.getD (f + k) (-1)) - 48 = nI (10 * c + zdv (T.getD (f + k) (-1))) := by
      have := zn_dig (c := c) (v := zdv (T.getD (f + k) (-1)))
      rw [← e1] at this
      exact this
    rw [e3, zas_n (by show p < 2; omega), zn_a1]
  · rw [if_neg e, if_neg e]
theorem zm_h {k4 : Int32 → Int32 → zS → Option (Int32 × zS)} {n q p k : Nat} {s : zS} {T : List Int32} (h : zMtx s T) (hk : k < 4) (hf : q < 5000) : zf154_167 179 k4 (n + 1) (nI q) (nI p) (nI k) s = if zhx (T.getD (q + k) (-1)) = true then zf154_167 179 k4 n (nI q) (nI p) (nI (k + 1)) s else some (nI (q + k), s) := by
  rw [zf154_167, if_neg (fun e => by have := (zn_le (a := 4) (by omega) (by omega)).mp e; omega), zn_add, z155 h (by omega)]
  simp only [zbi]
  rw [z157]
  simp only
  cases e : zhx (T.getD (q + k) (-1)) with
  | true =>
    obtain ⟨e1, e2, e3⟩ := zhx_v e
    rw [if_pos (by rw [e1]; exact Int32.not_lt.mp (zn_nn (by omega))), if_pos rfl, zn_a1]
  | false =>
    rw [zhv_n e, if_neg (by decide), if_neg (by decide)]
theorem zMtx_w {s : zS} {T : List Int32} {k f : Nat} {x : Int32} (h : zMtx s T) (h1 : k ≠ 179) (h2 : k ≠ 180) : zMtx (zw s k f x) T := by
  refine ⟨?_, h.2.1, ?_⟩
  · rw [zw_ne (Ne.symm h1)]
    exact h.1
  · intro j hj
    rw [zw_ne (Ne.symm h2)]
    exact h.2.2 j hj
/-- the model's part p is told -/
theorem zm154 {k4 : Int32 → Int32 → zS → Option (Int32 × zS)} {f p : Nat} {N : Int32} {s : zS} {T : List Int32} (h : zMtx s T) (hp : p < 2) (hf : f < 1600) :
    (∀ q, zsc T N f = .inl q → ∃ s', zf154_25 179 k4 (nI f) (nI p) N (T.getD f (-1)) s = some (nI q, s') ∧ ∀ q, q ≠ 181 → q ≠ 182 → q ≠ 183 → s' q = s q) ∧
    (∀ b c, zsc T N f = .inr (b, c) → ∃ s', zf154_25 179 k4 (nI f) (nI p) N (T.getD f (-1)) s = k4 (nI (f + 5 + c + 4)) (nI (p + 1)) s' ∧ s' 181 p = (if b = true then 1 else 0) ∧ s' 182 p = nI (f + 5) ∧ s' 183 p = nI c ∧ (∀ q, q ≠ 181 → q ≠ 182 → q ≠ 183 → s' q = s q) ∧ ∀ q j, j ≠ p → s' q j = s q j) := by
  have hl := h.2.1
  obtain ⟨M, hz⟩ : ∃ M, zfz = M + 10 := ⟨9990, zfz_e⟩
  have fr : ∀ (k : Nat) (x : Int32) (j : Nat), k = 181 ∨ k = 182 ∨ k = 183 → ∀ (t : zS), (∀ q, q ≠ 181 → q ≠ 182 → q ≠ 183 → t q = s q) → ∀ q, q ≠ 181 → q ≠ 182 → q ≠ 183 → zw t k j x q = s q := by
    intro k x j hk t ht q h1 h2 h3
    rw [zw_ne (by omega)]
    exact ht q h1 h2 h3
  have fr0 : ∀ q, q ≠ 181 → q ≠ 182 → q ≠ 183 → s q = s q := fun _ _ _ _ => rfl
  unfold zf154_25 zsc
  by_cases g1 : T.getD f (-1) = N
  rotate_left
  · rw [if_neg g1, if_neg g1]
    exact ⟨fun p hp => (by cases hp; exact ⟨s, rfl, fr0⟩), fun b c hc => (by cases hc)⟩
  rw [if_pos g1, if_pos g1, zn_a1, z155 h (by omega)]
  simp only [zbi]
  rw [show zrf 179 4 = 181 from rfl, show zrf 179 6 = 183 from rfl, zas_n (by show p < 2; omega)]
  obtain ⟨s1, hs1⟩ : ∃ s1, s1 = zw s 181 p (T.getD (f + 1) (-1) - 48) := ⟨_, rfl⟩
  rw [← hs1]
  have f1 := fr 181 (T.getD (f + 1) (-1) - 48) p (Or.inl rfl) s fr0
  rw [← hs1] at f1
  have v1 : s1 181 p = T.getD (f + 1) (-1) - 48 := by rw [hs1, zw_s]
  have h1 : zMtx s1 T := by rw [hs1]; exact zMtx_w h (by decide) (by decide)
  rw [zal_n (by show p < 2; omega), zal_n (by show p < 2; omega), v1, zas_n (by show p < 2; omega)]
  have hm : ∀ y : Int32, T.getD (f + 1) (-1) - 48 = y ↔ T.getD (f + 1) (-1) = y + 48 := by
    intro y
    constructor
    · intro e
      rw [← e, Int32.sub_add_cancel]
    · intro e
      rw [e, Int32.add_sub_cancel]
  have hm0 : T.getD (f + 1) (-1) - 48 = 0 ↔ T.getD (f + 1) (-1) = 48 := hm 0
  have hm1 : T.getD (f + 1) (-1) - 48 = 1 ↔ T.getD (f + 1) (-1) = 49 := hm 1
  have e0 : ∀ A B : Option (Int32 × zS), (if T.getD (f + 1) (-1) - 48 = 0 then A else if T.getD (f + 1) (-1) - 48 = 1 then A else B) = if T.getD (f + 1) (-1) = 48 ∨ T.getD (f + 1) (-1) = 49 then A else B := by
    intro A B
    by_cases g2 : T.getD (f + 1) (-1) = 48
    · rw [if_pos (hm0.mpr g2), if_pos (Or.inl g2)]
    · rw [if_neg (fun q => g2 (hm0.mp q))]
      by_cases g3 : T.getD (f + 1) (-1) = 49
      · rw [if_pos (hm1.mpr g3), if_pos (Or.inr g3)]
      · rw [if_neg (fun q => g3 (hm1.mp q)), if_neg (fun q => q.elim g2 g3)]
  rw [e0]
  by_cases g2 : T.getD (f + 1) (-1) = 48 ∨ T.getD (f + 1) (-1) = 49
  rotate_left
  · rw [if_neg g2, if_neg g2]
    exact ⟨fun p hp => (by cases hp; exact ⟨s1, rfl, f1⟩), fun b c hc => (by cases hc)⟩
  rw [if_pos g2, if_pos g2]
  obtain ⟨s2, hs2⟩ : ∃ s2, s2 = zw s1 183 p 0 := ⟨_, rfl⟩
  rw [← hs2]
  have f2 := fr 183 0 p (Or.inr (Or.inr rfl)) s1 f1
  rw [← hs2] at f2
  have h2 : zMtx s2 T := by rw [hs2]; exact zMtx_w h1 (by decide) (by decide)
  have c2 : s2 183 p = nI 0 := by rw [hs2, zw_s]; rfl
  have b2 : s2 181 p = T.getD (f + 1) (-1) - 48 := by rw [hs2, zw_ne (by decide), v1]
  have o2 : ∀ q j, j ≠ p → s2 q j = s q j := by
    intro q j hj
    rw [hs2, zw_o (Or.inr hj), hs1, zw_o (Or.inr hj)]
  rw [hz, zn_lit 2, zm_d h2 hp c2 (by decide) (by omega)]
  by_cases g3 : zdg (T.getD (f + 2) (-1)) = true
  rotate_left
  · rw [if_neg g3, if_neg g3]
    exact ⟨fun p hp => (by cases hp; exact ⟨s2, rfl, f2⟩), fun b c hc => (by cases hc)⟩
  rw [if_pos g3, if_pos g3]
  obtain ⟨s3, hs3⟩ : ∃ s3, s3 = zw s2 183 p (nI (10 * 0 + zdv (T.getD (f + 2) (-1)))) := ⟨_, rfl⟩
  rw [← hs3]
  have f3 := fr 183 (nI (10 * 0 + zdv (T.getD (f + 2) (-1)))) p (Or.inr (Or.inr rfl)) s2 f2
  rw [← hs3] at f3
  have h3 : zMtx s3 T := by rw [hs3]; exact zMtx_w h2 (by decide) (by decide)
  have c3 : s3 183 p = nI (10 * 0 + zdv (T.getD (f + 2) (-1))) := by rw [hs3, zw_s]
  have b3 : s3 181 p = T.getD (f + 1) (-1) - 48 := by rw [hs3, zw_ne (by decide), b2]
  have o3 : ∀ q j, j ≠ p → s3 q j = s q j := by
    intro q j hj
    rw [hs3, zw_o (Or.inr hj), o2 q j hj]
  rw [zm_d h3 hp c3 (by decide) (by omega)]
  by_cases g4 : zdg (T.getD (f + 3) (-1)) = true
  rotate_left
  · rw [if_neg g4, if_neg g4]
    exact ⟨fun p hp => (by cases hp; exact ⟨s3, rfl, f3⟩), fun b c hc => (by cases hc)⟩
  rw [if_pos g4, if_pos g4]
  obtain ⟨s4, hs4⟩ : ∃ s4, s4 = zw s3 183 p (nI (10 * (10 * 0 + zdv (T.getD (f + 2) (-1))) + zdv (T.getD (f + 3) (-1)))) := ⟨_, rfl⟩
  have f4 := fr 183 (nI (10 * (10 * 0 + zdv (T.getD (f + 2) (-1))) + zdv (T.getD (f + 3) (-1)))) p (Or.inr (Or.inr rfl)) s3 f3
  rw [← hs4] at f4 ⊢
  have h4 : zMtx s4 T := by rw [hs4]; exact zMtx_w h3 (by decide) (by decide)
  have c4 : s4 183 p = nI (10 * (10 * 0 + zdv (T.getD (f + 2) (-1))) + zdv (T.getD (f + 3) (-1))) := by rw [hs4, zw_s]
  have b4 : s4 181 p = T.getD (f + 1) (-1) - 48 := by rw [hs4, zw_ne (by decide), b3]
  have o4 : ∀ q j, j ≠ p → s4 q j = s q j := by
    intro q j hj
    rw [hs4, zw_o (Or.inr hj), o3 q j hj]
  rw [zm_d h4 hp c4 (by decide) (by omega)]
  by_cases g5 : zdg (T.getD (f + 4) (-1)) = true
  rotate_left
  · rw [if_neg g5, if_neg g5]
    exact ⟨fun p hp => (by cases hp; exact ⟨s4, rfl, f4⟩), fun b c hc => (by cases hc)⟩
  rw [if_pos g5, if_pos g5]
  have v2 := (zdv_e g3).2
  have v3 := (zdv_e g4).2
  have v4 := (zdv_e g5).2
  have ec : 10 * (10 * (10 * 0 + zdv (T.getD (f + 2) (-1))) + zdv (T.getD (f + 3) (-1))) + zdv (T.getD (f + (2 + 1 + 1)) (-1)) = 10 * (10 * zdv (T.getD (f + 2) (-1)) + zdv (T.getD (f + 3) (-1))) + zdv (T.getD (f + 4) (-1)) := by
    show 10 * (10 * (10 * 0 + zdv (T.getD (f + 2) (-1))) + zdv (T.getD (f + 3) (-1))) + zdv (T.getD (f + 4) (-1)) = _
    omega
  rw [ec]
  have hcl : 10 * (10 * zdv (T.getD (f + 2) (-1)) + zdv (T.getD (f + 3) (-1))) + zdv (T.getD (f + 4) (-1)) ≤ 999 := by omega
  generalize 10 * (10 * zdv (T.getD (f + 2) (-1)) + zdv (T.getD (f + 3) (-1))) + zdv (T.getD (f + 4) (-1)) = c at hcl ⊢
  obtain ⟨s5, hs5⟩ : ∃ s5, s5 = zw s4 183 p (nI c) := ⟨_, rfl⟩
  have f5 := fr 183 (nI c) p (Or.inr (Or.inr rfl)) s4 f4
  rw [← hs5] at f5 ⊢
  have h5 : zMtx s5 T := by rw [hs5]; exact zMtx_w h4 (by decide) (by decide)
  have c5 : s5 183 p = nI c := by rw [hs5, zw_s]
  have b5 : s5 181 p = T.getD (f + 1) (-1) - 48 := by rw [hs5, zw_ne (by decide), b4]
  have o5 : ∀ q j, j ≠ p → s5 q j = s q j := by
    intro q j hj
    rw [hs5, zw_o (Or.inr hj), o4 q j hj]
  obtain ⟨s6, hs6⟩ : ∃ s6, s6 = zw s5 182 p (nI (f + 5)) := ⟨_, rfl⟩
  have f6 := fr 182 (nI (f + 5)) p (Or.inr (Or.inl rfl)) s5 f5
  rw [← hs6] at f6
  have h6 : zMtx s6 T := by rw [hs6]; exact zMtx_w h5 (by decide) (by decide)
  have c6 : s6 183 p = nI c := by rw [hs6, zw_ne (by decide), c5]
  have a6 : s6 182 p = nI (f + 5) := by rw [hs6, zw_s]
  have b6 : s6 181 p = T.getD (f + 1) (-1) - 48 := by rw [hs6, zw_ne (by decide), b5]
  have o6 : ∀ q j, j ≠ p → s6 q j = s q j := by
    intro q j hj
    rw [hs6, zw_o (Or.inr hj), o5 q j hj]
  have e6 : zf154_78 179 k4 (M + 7) (nI f) (nI p) (nI (2 + 1 + 1 + 1)) s5 = if f + 5 + c ≤ T.length then zf154_167 179 k4 zfz (nI (f + 5 + c)) (nI p) (nI 0) s6 else some (nI T.length, s6) := by
    rw [zf154_78, if_pos (by decide), show zrf 179 5 = 182 from rfl, show zrf 179 6 = 183 from rfl, zas_n (by show p < 2; omega)]
    rw [zn_lit 5, zn_add, ← hs6, zal_n (by show p < 2; omega), c6]
    simp only [zgf, h6.1]
    rw [zn_add]
    by_cases g : f + 5 + c ≤ T.length
    · rw [if_pos g, if_pos ((zn_le (by omega) (by omega)).mpr g)]
      exact congrArg (fun z => zf154_167 179 k4 zfz (nI (f + 5 + c)) (nI p) z s6) z0e
    · rw [if_neg g, if_neg (fun q => g ((zn_le (by omega) (by omega)).mp q))]
  rw [e6]
  by_cases g6 : f + 5 + c ≤ T.length
  rotate_left
  · rw [if_neg g6, if_neg g6]
    exact ⟨fun p hp => (by cases hp; exact ⟨s6, rfl, f6⟩), fun b c hc => (by cases hc)⟩
  rw [if_pos g6, if_pos g6, hz, zm_h h6 (by decide) (by omega), Nat.add_zero (f + 5 + c)]
  by_cases g7 : zhx (T.getD (f + 5 + c) (-1)) = true
  rotate_left
  · rw [if_neg g7, if_neg g7]
    exact ⟨fun p hp => (by cases hp; exact ⟨s6, rfl, f6⟩), fun b c hc => (by cases hc)⟩
  rw [if_pos g7, if_pos g7, zm_h h6 (by decide) (by omega)]
  by_cases g8 : zhx (T.getD (f + 5 + c + 1) (-1)) = true
  rotate_left
  · rw [if_neg g8, if_neg g8]
    exact ⟨fun p hp => (by cases hp; exact ⟨s6, rfl, f6⟩), fun b c hc => (by cases hc)⟩
  rw [if_pos g8, if_pos g8, zm_h h6 (by decide) (by omega)]
  by_cases g9 : zhx (T.getD (f + 5 + c + 2) (-1)) = true
  rotate_left
  · rw [if_neg g9, if_neg g9]
    exact ⟨fun p hp => (by cases hp; exact ⟨s6, rfl, f6⟩), fun b c hc => (by cases hc)⟩
  rw [if_pos g9, if_pos g9, zm_h h6 (by decide) (by omega)]
  by_cases g10 : zhx (T.getD (f + 5 + c + 3) (-1)) = true
  rotate_left
  · rw [if_neg g10, if_neg g10]
    exact ⟨fun p hp => (by cases hp; exact ⟨s6, rfl, f6⟩), fun b c hc => (by cases hc)⟩
  rw [if_pos g10, if_pos g10]
  refine ⟨fun p hp => (by cases hp), fun b' c' hc' => ?_⟩
  cases hc'
  refine ⟨s6, ?_, ?_, a6, c6, f6, o6⟩
  · rw [zf154_167, if_pos (by decide), zn_lit 4, zn_add, zn_a1]
  · rw [b6]
    rcases g2 with g | g
    · rw [g]
      rfl
    · rw [g]
      rfl
/-- both parts: where the text is no package, or what its parts are -/
def zol (T : List Int32) : Nat ⊕ (Bool × Nat × Bool × Nat) :=
  match zsc T 83 0 with
  | .inl p => .inl p
  | .inr (b, c) => match zsc T 67 (5 + c + 4) with
    | .inl p => .inl p
    | .inr (b', c') => if 5 + c + 4 + 5 + c' + 4 < T.length then .inl (5 + c + 4 + 5 + c' + 4) else .inr (b, c, b', c')
theorem zsc_c {T : List Int32} {N : Int32} {f c : Nat} {b : Bool} (h : zsc T N f = .inr (b, c)) : c ≤ 999 ∧ f + 5 + c + 4 ≤ T.length ∧ (∀ k, k < 4 → zhx (T.getD (f + 5 + c + k) (-1)) = true) := by
  unfold zsc at h
  split at h
  · split at h
    · split at h
      · next g3 =>
        split at h
        · next g4 =>
          split at h
          · next g5 =>
            have v2 := (zdv_e g3).2
            have v3 := (zdv_e g4).2
            have v4 := (zdv_e g5).2
            simp only at h
            split at h
            · next g6 =>
              split at h
              · next g7 =>
                split at h
                · next g8 =>
                  split at h
                  · next g9 =>
                    split at h
                    · next g10 =>
                      cases h
                      refine ⟨by omega, ?_, ?_⟩
                      · have hin : ∀ p, zhx (T.getD p (-1)) = true → p < T.length := fun p hp => Nat.lt_of_not_le (fun q => by rw [zgetD_out q] at hp; exact absurd hp (by decide))
                        have := hin _ g10
                        omega
                      · intro k hk
                        have h4 : k = 0 ∨ k = 1 ∨ k = 2 ∨ k = 3 := by omega
                        rcases h4 with rfl | rfl | rfl | rfl
                        · exact g7
                        · exact g8
                        · exact g9
                        · exact g10
                    · cases h
                  · cases h
                · cases h
              · cases h
            · cases h
          · cases h
        · cases h
      · cases h
    · cases h
  · cases h
