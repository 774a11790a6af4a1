/-! write. -/
set_option maxRecDepth 100000
set_option linter.unusedVariables false
theorem zb_k (x : Int64) {k : Nat} (hk : k < 8) : zbC x (nI (8 * k)) = zbM x (nI k) := by
  have h : k = 0 ∨ k = 1 ∨ k = 2 ∨ k = 3 ∨ k = 4 ∨ k = 5 ∨ k = 6 ∨ k = 7 := by omega
  rcases h with rfl | rfl | rfl | rfl | rfl | rfl | rfl | rfl
  · exact zb_e x 0 _ _ (by decide) (by decide) (by decide)
  · exact zb_e x 8 _ _ (by decide) (by decide) (by decide)
  · exact zb_e x 16 _ _ (by decide) (by decide) (by decide)
  · exact zb_e x 24 _ _ (by decide) (by decide) (by decide)
  · exact zb_e x 32 _ _ (by decide) (by decide) (by decide)
  · exact zb_e x 40 _ _ (by decide) (by decide) (by decide)
  · exact zb_e x 48 _ _ (by decide) (by decide) (by decide)
  · exact zb_e x 56 _ _ (by decide) (by decide) (by decide)
/-- the bytes from k on -/
def zls (x : Int64) (k m : Nat) : List Int32 := (List.range' k m).map (fun k => zbM x (nI k))
def znz (b : Int32) : Bool := decide (b ≠ 0)
def zbad (b : Int32) : Bool := znz b && (decide (b < 32) || decide (126 < b))
theorem zls_s (x : Int64) (k m : Nat) : zls x k (m + 1) = zbM x (nI k) :: zls x (k + 1) m := by
  unfold zls
  rw [List.range'_succ, List.map_cons]
noncomputable def zwC (x : Int64) (s : zS) (c : Nat) : Option (Int32 × zS) := if s 1 1 + nI c ≤ 480 then zf12_73 0 zfz x 0 s else zrb 0 s
noncomputable def zwM (x : Int64) (s : zS) (c : Nat) : Option (Int32 × zS) := if s 179 2 + nI c ≤ 480 then zf148_106 179 zfz x 0 s else zrb 0 s
theorem zn_a1 (c : Nat) : nI c + 1 = nI (c + 1) := by rw [zn_lit 1, zn_add]
theorem zn_a0 (c : Nat) : nI c + 0 = nI c := by rw [zn_lit 0, zn_add, Nat.add_zero]
theorem zn_8 (k : Nat) : nI (8 * k) + 8 = nI (8 * (k + 1)) := by
  rw [zn_lit 8, zn_add, Nat.mul_succ]
theorem zw_c1 (x : Int64) (s : zS) : ∀ m k c n, k + m = 8 → m < n → zf12_5 0 n x (nI c) (nI (8 * k)) s = if (zls x k m).any zbad = true then some (0, s) else zwC x s (c + ((zls x k m).filter znz).length) := by
  intro m
  induction m with
  | zero =>
    intro k c n hk hn
    obtain ⟨n, rfl⟩ : ∃ n', n = n' + 1 := ⟨n - 1, by omega⟩
    have e : k = 8 := by omega
    subst e
    rw [zf12_5, if_pos (by decide)]
    rfl
  | succ m ih =>
    intro k c n hk hn
    obtain ⟨n, rfl⟩ : ∃ n', n = n' + 1 := ⟨n - 1, by omega⟩
    rw [zf12_5, if_neg (fun e => by have := (zn_le (a := 64) (by omega) (by omega)).mp e; omega)]
    have eb : ((Int64.toInt32 ((Int64.toUInt64 x >>> (Int64.toUInt64 (Int32.toInt64 (nI (8 * k))) &&& Int64.toUInt64 63)).toInt64)) &&& 255) = zbM x (nI k) := zb_k x (by omega)
    rw [eb, zn_8, zls_s]
    rw [List.any_cons, List.filter_cons]
    generalize zbM x (nI k) = b
    by_cases h0 : b = 0
    · rw [if_pos h0, ih (k + 1) c n (by omega) (by omega)]
      simp [zbad, znz, h0]
    · rw [if_neg h0]
      by_cases h1 : b < 32
      · rw [if_pos h1]
        simp [zbad, znz, h0, h1]
        rfl
      · rw [if_neg h1]
        by_cases h2 : b ≤ 126
        · rw [if_pos h2, zn_lit 1, zn_add]
          have h3 : ¬ 126 < b := Int32.not_lt.mpr h2
          rw [ih (k + 1) (c + 1) n (by omega) (by omega)]
          simp [zbad, znz, h0, h1, h3, Nat.add_assoc, Nat.add_comm]
        · rw [if_neg h2]
          have h3 : 126 < b := Int32.not_le.mp h2
          simp [zbad, znz, h0, h1, h3]
          rfl
theorem zw_m1 (x : Int64) (s : zS) : ∀ m k c n (g : Bool), k + m = 8 → m < n → zf148_13 179 n x (nI c) (if g = true then 1 else 0) (nI k) s = if (!g || (zls x k m).any zbad) = true then some (0, s) else zwM x s (c + ((zls x k m).filter znz).length) := by
  intro m
  induction m with
  | zero =>
    intro k c n g hk hn
    obtain ⟨n, rfl⟩ : ∃ n', n = n' + 1 := ⟨n - 1, by omega⟩
    have e : k = 8 := by omega
    subst e
    rw [zf148_13, if_pos (by decide)]
    cases g with
    | false => rfl
    | true => rfl
  | succ m ih =>
    intro k c n g hk hn
    obtain ⟨n, rfl⟩ : ∃ n', n = n' + 1 := ⟨n - 1, by omega⟩
    rw [zf148_13, if_neg (fun e => by have := (zn_le (a := 8) (by omega) (by omega)).mp e; omega)]
    have eb : Int64.toInt32 ((x >>> (Int32.toInt64 (8 * nI k) &&& 63)) &&& 255) = zbM x (nI k) := rfl
    rw [eb, zls_s]
    rw [List.any_cons, List.filter_cons]
    generalize zbM x (nI k) = b
    have hj : ∀ (g' : Bool) (t : Int32), t = (if g' = true then 1 else 0) → zf148_63 179 (zf148_13 179 n) x (nI c) (nI k) b t s = if (!g' || (zls x (k + 1) m).any zbad) = true then some (0, s) else zwM x s (c + (if znz b = true then 1 else 0) + ((zls x (k + 1) m).filter znz).length) := by
      intro g' t ht
      subst ht
      unfold zf148_63
      by_cases h0 : b = 0
      · rw [if_neg (fun e => e h0), zn_a0, zn_a1, ih (k + 1) c n g' (by omega) (by omega)]
        simp [znz, h0]
      · rw [if_pos h0, zn_a1, zn_a1]
        rw [ih (k + 1) (c + 1) n g' (by omega) (by omega)]
        simp [znz, h0]
    have ec : ∀ z, znz b = z → (c + (if z = true then 1 else 0) + ((zls x (k + 1) m).filter znz).length) = c + (if z = true then b :: (zls x (k + 1) m).filter znz else (zls x (k + 1) m).filter znz).length := by
      intro z hz
      cases z with
      | false => simp
      | true => simp [Nat.add_assoc, Nat.add_comm]
    cases g with
    | false =>
      rw [if_pos (by decide), hj false 0 rfl]
      simp
    | true =>
      rw [if_neg (by decide)]
      by_cases h0 : b = 0
      · rw [if_pos h0, hj true 1 rfl, ec _ rfl]
        simp [zbad, znz, h0]
      · rw [if_neg h0]
        by_cases h1 : b < 32
        · rw [if_pos h1, hj false 0 rfl]
          simp [zbad, znz, h0, h1]
        · rw [if_neg h1]
          by_cases h2 : 126 < b
          · rw [if_pos h2, hj false 0 rfl]
            simp [zbad, znz, h0, h1, h2]
          · rw [if_neg h2, hj true 1 rfl, ec _ rfl]
            simp [zbad, znz, h0, h1, h2]
theorem zw_c2 (x : Int64) : ∀ m k n (s : zS) (T : List Int32), k + m = 8 → m < n → zRow 1 s T → T.length + ((zls x k m).filter znz).length ≤ 480 → ∃ s', zf12_73 0 n x (nI (8 * k)) s = some (1, s') ∧ zRow 1 s' (T ++ (zls x k m).filter znz) ∧ ∀ q, q ≠ 1 → q ≠ 2 → s' q = s q := by
  intro m
  induction m with
  | zero =>
    intro k n s T hk hn hT hL
    obtain ⟨n, rfl⟩ : ∃ n', n = n' + 1 := ⟨n - 1, by omega⟩
    have e : k = 8 := by omega
    subst e
    refine ⟨s, ?_, ?_, fun _ _ _ => rfl⟩
    · rw [zf12_73, if_pos (by decide)]
      rfl
    · have e1 : (zls x 8 0).filter znz = [] := rfl
      rw [e1, List.append_nil]
      exact hT
  | succ m ih =>
    intro k n s T hk hn hT hL
    obtain ⟨n, rfl⟩ : ∃ n', n = n' + 1 := ⟨n - 1, by omega⟩
    have eb : ((Int64.toInt32 ((Int64.toUInt64 x >>> (Int64.toUInt64 (Int32.toInt64 (nI (8 * k))) &&& Int64.toUInt64 63)).toInt64)) &&& 255) = zbM x (nI k) := zb_k x (by omega)
    rw [zf12_73, if_neg (fun e => by have := (zn_le (a := 64) (by omega) (by omega)).mp e; omega), eb, zn_8]
    rw [zls_s, List.filter_cons] at hL ⊢
    generalize zbM x (nI k) = b at hL ⊢
    by_cases h0 : b = 0
    · have e1 : ¬ znz b = true := by simp [znz, h0]
      rw [if_neg e1] at hL ⊢
      rw [if_pos h0]
      exact ih (k + 1) n s T (by omega) (by omega) hT hL
    · have e1 : znz b = true := by simp [znz, h0]
      rw [if_pos e1] at hL ⊢
      rw [List.length_cons] at hL
      rw [if_neg h0]
      obtain ⟨p1, p2⟩ := z13 (c := b) hT (by decide) (show T.length < 480 by omega)
      obtain ⟨s', i1, i2, i3⟩ := ih (k + 1) n _ (T ++ [b]) (by omega) (by omega) p2 (by rw [List.length_append, List.length_singleton]; omega)
      refine ⟨s', ?_, ?_, ?_⟩
      · rw [show zrf 0 0 = 1 from rfl, p1]
        exact i1
      · rw [List.append_assoc] at i2
        exact i2
      · intro q h1 h2
        rw [i3 q h1 h2, zw_ne h1, zw_ne (show q ≠ zrf 1 0 from h2)]
theorem zw_m2 (x : Int64) : ∀ m k n (s : zS) (T : List Int32), k + m = 8 → m < n → zMtx s T → T.length + ((zls x k m).filter znz).length ≤ 480 → ∃ s', zf148_106 179 n x (nI k) s = some (1, s') ∧ zMtx s' (T ++ (zls x k m).filter znz) ∧ (∀ q, q ≠ 179 → q ≠ 180 → s' q = s q) ∧ ∀ f, f ≠ 2 → s' 179 f = s 179 f := by
  intro m
  induction m with
  | zero =>
    intro k n s T hk hn hT hL
    obtain ⟨n, rfl⟩ : ∃ n', n = n' + 1 := ⟨n - 1, by omega⟩
    have e : k = 8 := by omega
    subst e
    refine ⟨s, ?_, ?_, fun _ _ _ => rfl, fun _ _ => rfl⟩
    · rw [zf148_106, if_pos (by decide)]
      rfl
    · have e1 : (zls x 8 0).filter znz = [] := rfl
      rw [e1, List.append_nil]
      exact hT
  | succ m ih =>
    intro k n s T hk hn hT hL
    obtain ⟨n, rfl⟩ : ∃ n', n = n' + 1 := ⟨n - 1, by omega⟩
    have eb : Int64.toInt32 ((x >>> (Int32.toInt64 (8 * nI k) &&& 63)) &&& 255) = zbM x (nI k) := rfl
    rw [zf148_106, if_neg (fun e => by have := (zn_le (a := 8) (by omega) (by omega)).mp e; omega), eb, zn_a1]
    rw [zls_s, List.filter_cons] at hL ⊢
    generalize zbM x (nI k) = b at hL ⊢
    by_cases h0 : b = 0
    · have e1 : ¬ znz b = true := by simp [znz, h0]
      rw [if_neg e1] at hL ⊢
      rw [if_pos h0]
      exact ih (k + 1) n s T (by omega) (by omega) hT hL
    · have e1 : znz b = true := by simp [znz, h0]
      rw [if_pos e1] at hL ⊢
      rw [List.length_cons] at hL
      rw [if_neg h0]
      have hT1 := hT.1
      simp only [zgf, zpf, hT1]
      rw [show zrf 179 1 = 180 from rfl, zas_n (show T.length < 480 by omega), zw_o (Or.inl (by decide)), hT1, zn_a1]
      have p2 : zMtx (zw (zw s 180 T.length b) 179 2 (nI (T.length + 1))) (T ++ [b]) := by
        refine ⟨?_, ?_, ?_⟩
        · rw [zw_s, List.length_append]
          rfl
        · rw [List.length_append, List.length_singleton]
          omega
        · intro j hj
          rw [List.length_append, List.length_singleton] at hj
          rw [zw_o (Or.inl (by decide))]
          by_cases e : j = T.length
          · subst e
            rw [zw_s, zgetD_last]
          · rw [zw_o (Or.inr e), hT.2.2 j (by omega), zgetD_app (by omega)]
      obtain ⟨s', i1, i2, i3, i4⟩ := ih (k + 1) n _ (T ++ [b]) (by omega) (by omega) p2 (by rw [List.length_append, List.length_singleton]; omega)
      refine ⟨s', i1, ?_, ?_, ?_⟩
      · rw [List.append_assoc] at i2
        exact i2
      · intro q h1 h2
        rw [i3 q h1 h2, zw_ne h1, zw_ne h2]
      · intro f hf
        rw [i4 f hf, zw_o (Or.inr hf), zw_o (Or.inl (by decide))]
theorem zls_r (x : Int64) (k m : Nat) : (zls x k m).any zbad = false → ∀ c ∈ (zls x k m).filter znz, ∃ v, 32 ≤ v ∧ v ≤ 126 ∧ c = nI v := by
  intro h c hc
  rw [List.mem_filter] at hc
  have h1 : zbad c = false := by
    cases e : zbad c with
    | false => rfl
    | true => rw [List.any_eq_true.mpr ⟨c, hc.1, e⟩] at h; cases h
  have h2 : ¬ c < 32 ∧ ¬ 126 < c := by
    unfold zbad at h1
    rw [hc.2] at h1
    simpa using h1
  obtain ⟨v, rfl, hv⟩ := zn_of (x := c) (fun e => h2.1 (Int32.lt_trans e (by decide)))
  refine ⟨v, ?_, ?_, rfl⟩
  · refine Nat.le_of_not_lt (fun e => h2.1 ((zn_lt hv (b := 32) (by decide)).mpr e))
  · refine Nat.le_of_not_lt (fun e => h2.2 ((zn_lt (a := 126) (by decide) hv).mpr e))
theorem zw_len {s : zS} {L c : Nat} {A B : Option (Int32 × zS)} (h : s 1 1 = nI L) (hL : L ≤ 480) (hc : c ≤ 8) : (if s 1 1 + nI c ≤ 480 then A else B) = if L + c ≤ 480 then A else B := by
  rw [h, zn_add, zn_lit 480]
  by_cases e : L + c ≤ 480
  · rw [if_pos e, if_pos ((zn_le (b := 480) (by omega) (by decide)).mpr e)]
  · rw [if_neg e, if_neg (fun q => e ((zn_le (b := 480) (by omega) (by decide)).mp q))]
theorem zls_len (x : Int64) : ((zls x 0 8).filter znz).length ≤ 8 := by
  refine Nat.le_trans (List.length_filter_le _ _) ?_
  unfold zls
  rw [List.length_map, List.length_range']
  exact Nat.le_refl 8
theorem z_write {s : zS} {T : List Int32} (h : zTxt s T) (x : Int64) : zA2 (zf12 0 x s) (zf148 179 x) (fun t => zX s t ∧ ∃ T', zTxt t T') := by
  obtain ⟨h1, h2, h3⟩ := h
  have hl := zls_len x
  have c1 := zw_c1 x s 8 0 0 zfz rfl (by rw [zfz_e]; decide)
  have m1 : ∀ s1 : zS, zf148 179 x s1 = if (zls x 0 8).any zbad = true then some (0, zw s1 179 0 0) else zwM x (zw s1 179 0 0) (0 + ((zls x 0 8).filter znz).length) := by
    intro s1
    have q := zw_m1 x (zw s1 179 0 0) 8 0 0 zfz true rfl (by rw [zfz_e]; decide)
    exact q
  have hx0 : zX s (zw s 179 0 0) := ⟨fun q a b c d => zw_ne c, fun f a b => zw_o (Or.inr a)⟩
  have hm0 : zMtx (zw s 179 0 0) T := ⟨h2.1, h2.2.1, h2.2.2⟩
  have ht0 : zTxt (zw s 179 0 0) T := ⟨⟨h1.1, h1.2.1, h1.2.2⟩, hm0, h3⟩
  by_cases hb : (zls x 0 8).any zbad = true
  · rw [if_pos hb] at c1
    refine ⟨0, s, zw s 179 0 0, c1, ?_, hx0, T, ht0⟩
    rw [m1, if_pos hb]
  · rw [if_neg hb] at c1
    have hb2 : (zls x 0 8).any zbad = false := by simpa using hb
    have e1 : zwC x s (0 + ((zls x 0 8).filter znz).length) = if T.length + (0 + ((zls x 0 8).filter znz).length) ≤ 480 then zf12_73 0 zfz x 0 s else zrb 0 s := zw_len h1.1 h1.2.1 (by omega)
    rw [e1] at c1
    have e2 : ∀ s1 : zS, s1 179 2 = nI T.length → zwM x s1 (0 + ((zls x 0 8).filter znz).length) = if T.length + (0 + ((zls x 0 8).filter znz).length) ≤ 480 then zf148_106 179 zfz x 0 s1 else zrb 0 s1 := by
      intro s1 hs1
      exact zw_len (s := fun _ _ => s1 179 2) hs1 h1.2.1 (by omega)
    by_cases hf : T.length + (0 + ((zls x 0 8).filter znz).length) ≤ 480
    · rw [if_pos hf] at c1
      obtain ⟨s1, a1, a2, a3⟩ := zw_c2 x 8 0 zfz s T rfl (by rw [zfz_e]; decide) h1 (by omega)
      have h21 : zMtx (zw s1 179 0 0) T := by
        refine ⟨?_, h2.2.1, ?_⟩
        · rw [zw_o (Or.inr (by decide)), a3 179 (by decide) (by decide)]
          exact h2.1
        · intro j hj
          rw [zw_o (Or.inl (by decide)), a3 180 (by decide) (by decide)]
          exact h2.2.2 j hj
      obtain ⟨s2, b1, b2, b3, b4⟩ := zw_m2 x 8 0 zfz (zw s1 179 0 0) T rfl (by rw [zfz_e]; decide) h21 (by omega)
      refine ⟨1, s1, s2, c1.trans a1, ?_, ⟨?_, ?_⟩, T ++ (zls x 0 8).filter znz, ?_, b2, ?_⟩
      · rw [m1, if_neg hb, e2 _ h21.1, if_pos hf]
        exact b1
      · intro q q1 q2 q3 q4
        rw [b3 q q3 q4, zw_ne q3, a3 q q1 q2]
      · intro f f0 f2
        rw [b4 f f2, zw_o (Or.inr f0), a3 179 (by decide) (by decide)]
      · refine ⟨?_, a2.2.1, ?_⟩
        · rw [b3 1 (by decide) (by decide), zw_ne (by decide)]
          exact a2.1
        · intro j hj
          rw [b3 (zrf 1 0) (by decide) (by decide), zw_ne (by decide)]
          exact a2.2.2 j hj
      · intro c hc
        rcases List.mem_append.mp hc with hc | hc
        · exact h3 c hc
        · exact zls_r x 0 8 hb2 c hc
    · rw [if_neg hf] at c1
      refine ⟨0, s, zw s 179 0 0, c1, ?_, hx0, T, ht0⟩
      rw [m1, if_neg hb, e2 _ hm0.1, if_neg hf]
      rfl
