/-! compare: the class's, all of it; the model's weights and changes. -/
set_option maxRecDepth 100000
set_option linter.unusedVariables false
theorem zSm_c {q : Nat} {s : zS} {D : List zN} (hq : q = 4 ∨ q = 12) (h : zPc q s D) (hW : zWf D) : zSm D := by
  rcases hq with rfl | rfl
  · exact ⟨hW, h.2.1, h.2.2.1.2.1⟩
  · exact ⟨hW, h.2.1, h.2.2.1.2.1⟩
theorem zc94 {s : zS} {A B : List zN} (hPA : zPc 4 s A) (hPB : zPc 12 s B) (hWA : zWf A) (hWB : zWf B) (hA0 : 0 < A.length) (hB0 : 0 < B.length) :
    ∃ s' v, zcc A B 0 0 = some v ∧ v ≤ 682 ∧ zf94 69 s = some (nI v, s') ∧ zScC s' (zscr A B) ∧ s' 69 0 = 1 ∧ ∀ p, p < 69 ∨ 166 < p → s' p = s p := by
  have hA := zSm_c (Or.inl rfl) hPA hWA
  have hB := zSm_c (Or.inr rfl) hPB hWB
  have hA4 := hA.2.1
  have hB4 := hB.2.1
  obtain ⟨s1, a1, a2, a3⟩ := z95 (Or.inl ⟨rfl, rfl⟩) hPA hWA
  obtain ⟨s2, b1, b2, b3⟩ := z95 (Or.inr ⟨rfl, rfl⟩) (zPc_f zQ12 hPB (fun p h1 h2 => a3 p (by omega))) hWB
  have C2 : zCm s2 A B := ⟨zPc_f zQ4 hPA (fun p h1 h2 => by rw [b3 p (by omega), a3 p (by omega)]), zPc_f zQ12 hPB (fun p h1 h2 => by rw [b3 p (by omega), a3 p (by omega)]), zLn_f a2 (fun p h1 h2 => b3 p (by omega)), b2⟩
  obtain ⟨s3, c1, c2, c3, c4⟩ := z96 hA hB C2
  obtain ⟨s4, hs4⟩ : ∃ s4, s4 = zw (zw (zw s3 69 0 0) 69 1 0) 69 0 1 := ⟨_, rfl⟩
  have f4 : ∀ p, p ≠ 69 → s4 p = s3 p := fun p hp => by rw [hs4, zw_ne hp, zw_ne hp, zw_ne hp]
  have T4 : zTb s4 A B := by
    refine ⟨?_, fun x y hx hy => ?_, fun x y hx hy v hv => ?_⟩
    · exact ⟨zPc_f zQ4 C2.1 (fun p h1 h2 => by rw [f4 p (by omega), c4 p (by omega)]), zPc_f zQ12 C2.2.1 (fun p h1 h2 => by rw [f4 p (by omega), c4 p (by omega)]), zLn_f C2.2.2.1 (fun p h1 h2 => by rw [f4 p (by omega), c4 p (by omega)]), zLn_f C2.2.2.2 (fun p h1 h2 => by rw [f4 p (by omega), c4 p (by omega)])⟩
    · unfold zEr
      rw [f4 (126 + x) (by omega)]
      exact c2 x y hx hy
    · rw [f4 (85 + x) (by omega)]
      exact c3 x y hx hy v hv
  have S4 : zScC s4 [] := ⟨by rw [hs4, zw_o (Or.inr (by decide)), zw_s]; rfl, by decide, fun k hk => absurd hk (Nat.not_lt_zero _)⟩
  obtain ⟨s5, d1, d2, d3⟩ := z104 (i := 0) (j := 0) T4 hA hB hA0 hB0 S4 (by decide)
  rw [List.nil_append] at d2
  have T5 := zTb_f T4 d3
  have hl : (zcs A B 0 0).length ≤ 1 := by
    unfold zcs
    split
    · exact Nat.zero_le _
    · exact Nat.le_refl _
  have m1 := zW1_0 hWA hA0
  have m2 := zW1_0 hWB hB0
  rw [zW1_e] at m1 m2
  have hmu : zmu A B [(0, 0, zkb A 0, zkb B 0)] ≤ 79 := by
    rw [zmu, zmu]
    omega
  obtain ⟨s6, e1, e2, e3⟩ := z103_l hA hB 100 [] 0 0 (zkb A 0) (zkb B 0) (zcs A B 0 0) s5 0 zfz ⟨rfl, rfl, hA0, hB0, ⟨_, rfl⟩, ⟨_, rfl⟩⟩ (by omega) (by omega) (by omega) (by rw [zfz_e]; omega) d2 T5
  have hk0 : (zno A 0).1 = (zno B 0).1 := by
    rcases (hWA 0 hA0).2.1 with ⟨_, _, w⟩ | ⟨x, w, _⟩
    · rcases (hWB 0 hB0).2.1 with ⟨_, _, w'⟩ | ⟨x, w', _⟩
      · rw [w, w']
      · omega
    · omega
  have hcc : zcc A B 0 0 = some (zcg1 A B 0 0 + zRR A B (zkb A 0) (zkb B 0)) := by rw [zcc_e hA0, if_pos hk0]
  have T6 := zTb_f T5 e3
  refine ⟨s6, _, hcc, zcc_b hA hB hA0 hcc, ?_, e2, ?_, fun p hp => ?_⟩
  · unfold zf94
    have e81 : zf81 69 s3 = some (zw (zw s3 69 0 0) 69 1 0) := by
      unfold zf81
      rw [zpb_0, zpf_e]
    have e103 : zf103 69 s4 = some s6 := by
      unfold zf103
      have d1' : zf104 69 0 0 s4 = some s5 := d1
      have q1 : ∀ (c : Int32 → Option zS), zal s5 71 0 c = c (s5 71 0) := fun c => zal_n (j := 0) (by decide)
      have q2 : ∀ (c : Int32 → Option zS), zal s5 76 0 c = c (s5 76 0) := fun c => zal_n (j := 0) (by decide)
      rw [d1', zbv_e, show zrf (zrf 69 6) 1 = 71 from rfl, show zrf (zrf 69 7) 1 = 76 from rfl, q1, q2, show s5 71 0 = _ from (T5.1.2.2.1.2 0 hA0).1, show s5 76 0 = _ from (T5.1.2.2.2.2 0 hB0).1]
      exact e1
    have q3 : ∀ (c : Nat → Option (Int32 × zS)), zar 84 0 c = c 85 := fun c => zar_n (j := 0) (by decide)
    have q4 : ∀ (c : Int32 → Option (Int32 × zS)), zal s6 85 0 c = c (s6 85 0) := fun c => zal_n (j := 0) (by decide)
    rw [show zrf 69 6 = 70 from rfl, show zrf 69 7 = 75 from rfl, a1, zbv_e, b1, zbv_e, c1, zbv_e, e81, zbv_e, zpb_1, ← hs4, e103, zbv_e, show zrf 69 9 = 84 from rfl, q3, q4, show s6 85 0 = _ from T6.2.2 0 0 hA0 hB0 _ hcc]
  · rw [e3.2, d3.2, hs4, zw_s]
  · rw [e3.1 p (by omega) (by omega), d3.1 p (by omega) (by omega), f4 p (by omega), c4 p (by omega), b3 p (by omega), a3 p (by omega)]
/-! the model's -/
theorem zm211 {i : Nat} {s : zS} {D : List zN} (hi : i < 2) (hP : zPm i s D) (hS : zSm D) : ∃ s', zf211 179 (nI i) s = some s' ∧ (∀ n, n < D.length → s' 208 (100 * i + n) = nI (zW D (zf1 D) n)) ∧ (∀ p, p ≠ 208 → s' p = s p) ∧ ∀ j, j < 100 * i ∨ 100 * i + 100 ≤ j → s' 208 j = s 208 j := by
  have h40 := hS.2.1
  have hW := hS.1
  have down : ∀ k n (s : zS), k ≤ D.length → k < n → zPm i s D → (∀ a, a < D.length → s 208 (100 * i + a) = nI (zf1 D a + zG D (zf1 D) (if k = 0 then 1 else k) a)) → ∃ s', zf211_51 179 n (nI i) (zdn k) s = some s' ∧ (∀ n, n < D.length → s' 208 (100 * i + n) = nI (zW D (zf1 D) n)) ∧ (∀ p, p ≠ 208 → s' p = s p) ∧ ∀ j, j < 100 * i ∨ 100 * i + 100 ≤ j → s' 208 j = s 208 j := by
    intro k
    induction k with
    | zero =>
      intro n s hk hn hP h
      obtain ⟨n, rfl⟩ : ∃ n', n = n' + 1 := ⟨n - 1, by omega⟩
      refine ⟨s, by rw [zf211_51, if_pos (show zdn 0 ≤ 0 by decide)], fun a ha => ?_, fun _ _ => rfl, fun _ _ => rfl⟩
      rw [h a ha, zW_e, if_pos rfl]
      unfold zG
      rw [zrw_c hW a 1 (by omega)]
    | succ k ih =>
      intro n s hk hn hP h
      obtain ⟨n, rfl⟩ : ∃ n', n = n' + 1 := ⟨n - 1, by omega⟩
      by_cases g : k = 0
      · subst g
        refine ⟨s, by rw [zf211_51, if_pos (show zdn 1 ≤ 0 by decide)], fun a ha => ?_, fun _ _ => rfl, fun _ _ => rfl⟩
        rw [h a ha, zW_e, if_neg (by decide)]
        unfold zG
        rw [zrw_c hW a 1 (by omega)]
      · have hkl : k < D.length := by omega
        have e197 : s 197 (100 * i + k) = zoi (zab D k) := (hP.2.2.2.2.2 k hkl).2.1
        rcases (hW k hkl).2.1 with ⟨w, _⟩ | ⟨a, w1, w2, _⟩
        · omega
        · have wk : zf1 D k + zG D (zf1 D) (k + 1) k = zW D (zf1 D) k := by rw [zW_e]; rfl
          have ha := h a (by omega)
          have hk2 := h k hkl
          rw [if_neg (by omega)] at ha hk2
          rw [wk] at hk2
          obtain ⟨s1, hs1⟩ : ∃ s1, s1 = zw s 208 (100 * i + a) (nI (zf1 D a + zG D (zf1 D) (k + 1) a + zW D (zf1 D) k)) := ⟨_, rfl⟩
          have f1 : ∀ p, p ≠ 208 → s1 p = s p := fun p hp => by rw [hs1, zw_ne hp]
          obtain ⟨s', d1, d2, d3, d4⟩ := ih n s1 (by omega) (by omega) (zPm_e hP (fun p h1 h2 => f1 p (by omega))) (fun b hb => by
            rw [if_neg g]
            have z2 : zG D (zf1 D) k b = (if b = a then zW D (zf1 D) k else 0) + zG D (zf1 D) (k + 1) b := by
              rw [zG_e hkl, w2]
              by_cases g : b = a
              · rw [if_pos (by rw [g]), if_pos g]
              · rw [if_neg (fun z => g (Option.some.inj z).symm), if_neg g]
            rw [z2, hs1]
            by_cases q : b = a
            · subst q
              rw [zw_s, if_pos rfl]
              congr 1
              omega
            · rw [zw_o (Or.inr (by omega)), if_neg q, Nat.zero_add]
              have := h b hb
              rw [if_neg (by omega)] at this
              exact this)
          refine ⟨s', ?_, d2, fun p hp => by rw [d3 p hp, f1 p hp], fun j hj => by rw [d4 j hj, hs1, zw_o (Or.inr (by omega))]⟩
          rw [zf211_51, show zdn (k + 1) = nI k from rfl, if_neg (fun q => by have := (zn_le (a := k) (b := 0) (by omega) (by decide)).mp q; omega), show zrf 179 24 = 197 from rfl, show zrf 179 37 = 208 from rfl, zn_100, zal_n (by show 100 * i + k < 400; omega), e197, w2, show zoi (some a) = nI a from rfl, zn_100, zal_n (by show 100 * i + a < 200; omega), zal_n (by show 100 * i + k < 200; omega), ha, hk2, zn_add, zas_n (by show 100 * i + a < 200; omega), ← hs1, zdn_s]
          exact d1
  have up : ∀ m n k (s : zS), k + m = D.length → m < n → zPm i s D → (∀ a, a < k → s 208 (100 * i + a) = nI (zf1 D a)) → ∃ s', zf211_2 179 n (nI i) (nI k) s = some s' ∧ (∀ n, n < D.length → s' 208 (100 * i + n) = nI (zW D (zf1 D) n)) ∧ (∀ p, p ≠ 208 → s' p = s p) ∧ ∀ j, j < 100 * i ∨ 100 * i + 100 ≤ j → s' 208 j = s 208 j := by
    intro m
    induction m with
    | zero =>
      intro n k s hk hn hP h
      obtain ⟨n, rfl⟩ : ∃ n', n = n' + 1 := ⟨n - 1, by omega⟩
      rw [zf211_2, show zrf 179 22 = 195 from rfl, zal_n (by show i < 4; omega), hP.1, if_pos ((zn_le (by omega) (by omega)).mpr (by omega)), zal_n (by show i < 4; omega), hP.1, zdn_m]
      refine down D.length zfz s (Nat.le_refl _) (by rw [zfz_e]; omega) hP (fun a ha => ?_)
      rw [if_neg (by omega), h a (by omega)]
      unfold zG
      rw [zrw_n (Nat.le_refl _)]
      rfl
    | succ m ih =>
      intro n k s hk hn hP h
      obtain ⟨n, rfl⟩ : ∃ n', n = n' + 1 := ⟨n - 1, by omega⟩
      have hkl : k < D.length := by omega
      have e200 : s 200 (100 * i + k) = nI (zno D k).2.2.2.length := (hP.2.2.2.2.2 k hkl).2.2.2.2
      obtain ⟨s1, hs1⟩ : ∃ s1, s1 = zw s 208 (100 * i + k) (nI (1 + (zno D k).2.2.2.length)) := ⟨_, rfl⟩
      have f1 : ∀ p, p ≠ 208 → s1 p = s p := fun p hp => by rw [hs1, zw_ne hp]
      obtain ⟨s', d1, d2, d3, d4⟩ := ih n (k + 1) s1 (by omega) (by omega) (zPm_e hP (fun p h1 h2 => f1 p (by omega))) (fun a ha => by
        rw [hs1]
        by_cases g : a = k
        · rw [g, zw_s]; rfl
        · rw [zw_o (Or.inr (by omega))]; exact h a (by omega))
      refine ⟨s', ?_, d2, fun p hp => by rw [d3 p hp, f1 p hp], fun j hj => by rw [d4 j hj, hs1, zw_o (Or.inr (by omega))]⟩
      rw [zf211_2, show zrf 179 22 = 195 from rfl, zal_n (by show i < 4; omega), hP.1, if_neg (fun q => by have := (zn_le (by omega) (by omega)).mp q; omega), show zrf 179 27 = 200 from rfl, show zrf 179 37 = 208 from rfl, zn_100, zal_n (by show 100 * i + k < 400; omega), e200, show (1 : Int32) + nI (zno D k).2.2.2.length = nI (1 + (zno D k).2.2.2.length) by rw [zn_lit 1, zn_add], zas_n (by show 100 * i + k < 200; omega), ← hs1, zn_a1]
      exact d1
  unfold zf211
  exact up D.length zfz 0 s (Nat.zero_add _) (by rw [zfz_e]; omega) hP (fun a ha => absurd ha (Nat.not_lt_zero _))
/-- the letters of a node, model -/
theorem zm_let {i n k : Nat} {s : zS} {D : List zN} (hP : zPm i s D) (hn : n < D.length) (hk : k < (zno D n).2.2.2.length) : s 202 (700 * i + (zof D n + k)) = (zno D n).2.2.2.getD k (-1) := by
  have := zof_le hn
  rw [hP.2.2.2.2.1 (zof D n + k) (by omega), zlt_at D n k hn hk]
theorem zl3_inj {a b : Option Nat} (ha : ∀ l, a = some l → l < 2000) (hb : ∀ l, b = some l → l < 2000) (h : ∀ w, w < 3 → zl3 a w = zl3 b w) : a = b := by
  have h0 := h 0 (by decide)
  have h1 := h 1 (by decide)
  have h2 := h 2 (by decide)
  cases a with
  | none =>
    cases b with
    | none => rfl
    | some y =>
      have hy := hb y rfl
      exact absurd (show nI (y / 1000) = -1 from h0.symm) (zn_nm (by omega))
  | some x =>
    have hx := ha x rfl
    cases b with
    | none => exact absurd (show nI (x / 1000) = -1 from h0) (zn_nm (by omega))
    | some y =>
      have hy := hb y rfl
      have q0 : x / 1000 = y / 1000 := (zn_eq (by omega) (by omega)).mp h0
      have q1 : x / 10 % 100 = y / 10 % 100 := (zn_eq (by omega) (by omega)).mp h1
      have q2 : x % 10 = y % 10 := (zn_eq (by omega) (by omega)).mp h2
      congr 1
      omega
theorem zm216 {s : zS} {A B : List zN} {i j : Nat} (hPA : zPm 0 s A) (hPB : zPm 1 s B) (hA : zSm A) (hB : zSm B) (hi : i < A.length) (hj : j < B.length) : zf216 179 (nI i) (nI j) s = some (if (zno A i).2.2.2 = (zno B j).2.2.2 then 1 else 0, s) := by
  have hA4 := hA.2.1
  have hB4 := hB.2.1
  have ofA := zof_le hi
  have ofB := zof_le hj
  have hA3 := hA.2.2
  have hB3 := hB.2.2
  obtain ⟨l1, hl1⟩ : ∃ l1, l1 = (zno A i).2.2.2 := ⟨_, rfl⟩
  obtain ⟨l2, hl2⟩ : ∃ l2, l2 = (zno B j).2.2.2 := ⟨_, rfl⟩
  have n1 := hPA.2.2.2.2.2 i hi
  have n2 := hPB.2.2.2.2.2 j hj
  rw [show 100 * 0 + i = i by omega] at n1
  have hz1 : s 200 i = nI l1.length := by rw [hl1]; exact n1.2.2.2.2
  have hz2 : s 200 (100 + j) = nI l2.length := by rw [hl2]; exact n2.2.2.2.2
  have ho1 : s 199 i = nI (zof A i) := n1.2.2.2.1
  have ho2 : s 199 (100 + j) = nI (zof B j) := n2.2.2.2.1
  rw [← hl1] at ofA
  rw [← hl2] at ofB
  -- once unlike, always
  have bad : ∀ n k, zf216_27 179 (n + 1) (nI i) (nI j) 0 (nI k) s = some (0, s) := by
    intro n k
    rw [zf216_27, show zrf 179 27 = 200 from rfl, zal_n (by show i < 400; omega), hz1]
    split
    · exact zrb0
    · rw [if_pos rfl]; exact zrb0
  have l : ∀ m n k, l1.length = l2.length → k + m = l1.length → m + 1 < n → zf216_27 179 n (nI i) (nI j) 1 (nI k) s = some (if l1.drop k = l2.drop k then 1 else 0, s) := by
    intro m
    induction m with
    | zero =>
      intro n k hll hk hn
      obtain ⟨n, rfl⟩ : ∃ n', n = n' + 1 := ⟨n - 1, by omega⟩
      rw [zf216_27, show zrf 179 27 = 200 from rfl, zal_n (by show i < 400; omega), hz1, if_pos ((zn_le (by omega) (by omega)).mpr (by omega)), zrb1, List.drop_eq_nil_of_le (by omega), List.drop_eq_nil_of_le (by omega), if_pos rfl]
    | succ m ih =>
      intro n k hll hk hn
      obtain ⟨n, rfl⟩ : ∃ n', n = n' + 2 := ⟨n - 2, by omega⟩
      have e1 := zm_let hPA hi (k := k) (by rw [← hl1]; omega)
      have e2 := zm_let hPB hj (k := k) (by rw [← hl2]; omega)
      rw [← hl1, show 700 * 0 + (zof A i + k) = zof A i + k by omega] at e1
      rw [← hl2, show 700 * 1 + (zof B j + k) = 700 + zof B j + k by omega] at e2
      rw [show n + 2 = (n + 1) + 1 by omega, zf216_27, show zrf 179 27 = 200 from rfl, zal_n (by show i < 400; omega), hz1, if_neg (fun w => by have := (zn_le (by omega) (by omega)).mp w; omega), if_neg (show ¬ (1 : Int32) = 0 by decide), show zrf 179 26 = 199 from rfl, show zrf 179 29 = 202 from rfl, zal_n (by show i < 400; omega), ho1, zn_add, zal_n (by show _ < 2800; omega), e1, show (100 : Int32) + nI j = nI (100 + j) by rw [zn_lit 100, zn_add], zal_n (by show 100 + j < 400; omega), ho2, show (700 : Int32) + nI (zof B j) = nI (700 + zof B j) by rw [zn_lit 700, zn_add], zn_add, zal_n (by show _ < 2800; omega), e2, zgetD_drop (l := l1) (by omega), zgetD_drop (l := l2) (by omega)]
      by_cases g : l1.getD k (-1) = l2.getD k (-1)
      · rw [if_neg (fun q => q g), zn_a1, ih (n + 1) (k + 1) hll (by omega) (by omega), g]
        by_cases w : l1.drop (k + 1) = l2.drop (k + 1)
        · rw [if_pos w, if_pos (by rw [w])]
        · rw [if_neg w, if_neg (fun z => w (List.cons.inj z).2)]
      · rw [if_pos g, zn_a1, bad, if_neg (fun z => g (List.cons.inj z).1)]
  obtain ⟨M, hM⟩ : ∃ M, zfz = M + 1 := ⟨9999, zfz_e⟩
  unfold zf216
  rw [show zrf 179 27 = 200 from rfl, zal_n (by show i < 400; omega), show (100 : Int32) + nI j = nI (100 + j) by rw [zn_lit 100, zn_add], zal_n (by show 100 + j < 400; omega), hz1, hz2, ← hl1, ← hl2]
  by_cases g : l1.length = l2.length
  · rw [if_neg (fun q => q (by rw [g]))]
    have := l l1.length zfz 0 g (Nat.zero_add _) (by rw [zfz_e]; omega)
    rw [List.drop_zero, List.drop_zero] at this
    exact this
  · rw [if_pos (fun q => g ((zn_eq (by omega) (by omega)).mp q)), hM]
    have := bad M 0
    rw [if_neg (fun q => g (by rw [q]))]
    exact this
theorem zm215 {s : zS} {A B : List zN} {i j : Nat} (hPA : zPm 0 s A) (hPB : zPm 1 s B) (hA : zSm A) (hB : zSm B) (hi : i < A.length) (hj : j < B.length) : zf215 179 (nI i) (nI j) s = some (nI (zcg1 A B i j), s) := by
  have hA4 := hA.2.1
  have hB4 := hB.2.1
  have bad : ∀ m n w, w + m = 3 → m < n → zf215_16 179 n (nI i) (nI j) 0 (nI w) s = some (1, s) := by
    intro m
    induction m with
    | zero =>
      intro n w hw hn
      obtain ⟨n, rfl⟩ : ∃ n', n = n' + 1 := ⟨n - 1, by omega⟩
      rw [zf215_16, if_pos ((zn_geL (k := 3) (by omega) (by decide)).mpr (by omega)), if_pos rfl]
    | succ m ih =>
      intro n w hw hn
      obtain ⟨n, rfl⟩ : ∃ n', n = n' + 1 := ⟨n - 1, by omega⟩
      rw [zf215_16, if_neg (fun q => by have := (zn_geL (k := 3) (by omega) (by decide)).mp q; omega), if_pos rfl, zn_a1]
      exact ih n (w + 1) (by omega) (by omega)
  have n1 := (hPA.2.2.2.2.2 i hi).2.2.1
  have n2 := (hPB.2.2.2.2.2 j hj).2.2.1
  have l : ∀ m n w, w + m = 3 → m < n → (∀ u, u < w → zl3 (zno A i).2.2.1 u = zl3 (zno B j).2.2.1 u) → zf215_16 179 n (nI i) (nI j) 1 (nI w) s = some (if (zno A i).2.2.1 = (zno B j).2.2.1 then 0 else 1, s) := by
    intro m
    induction m with
    | zero =>
      intro n w hw hn h
      obtain ⟨n, rfl⟩ : ∃ n', n = n' + 1 := ⟨n - 1, by omega⟩
      have := zl3_inj (zlk_b (hA.1 i hi).2.2.1) (zlk_b (hB.1 j hj).2.2.1) (fun u hu => h u (by omega))
      rw [zf215_16, if_pos ((zn_geL (k := 3) (by omega) (by decide)).mpr (by omega)), if_neg (show ¬ (1 : Int32) = 0 by decide), if_pos this]
    | succ m ih =>
      intro n w hw hn h
      obtain ⟨n, rfl⟩ : ∃ n', n = n' + 1 := ⟨n - 1, by omega⟩
      have e1 : s 198 (3 * i + w) = zl3 (zno A i).2.2.1 w := by
        have := n1 w (by omega)
        rw [show 3 * (100 * 0 + i) + w = 3 * i + w by omega] at this
        exact this
      have e2 : s 198 (300 + 3 * j + w) = zl3 (zno B j).2.2.1 w := by
        have := n2 w (by omega)
        rw [show 3 * (100 * 1 + j) + w = 300 + 3 * j + w by omega] at this
        exact this
      rw [zf215_16, if_neg (fun q => by have := (zn_geL (k := 3) (by omega) (by decide)).mp q; omega), if_neg (show ¬ (1 : Int32) = 0 by decide), show zrf 179 25 = 198 from rfl, show ((3 : Int32) * nI i) + nI w = nI (3 * i + w) by rw [zn_lit 3, zn_mul, zn_add], zal_n (by show _ < 1200; omega), e1, show ((300 : Int32) + 3 * nI j) + nI w = nI (300 + 3 * j + w) by rw [zn_lit 300, zn_lit 3, zn_mul, zn_add, zn_add], zal_n (by show _ < 1200; omega), e2]
      by_cases g : zl3 (zno A i).2.2.1 w = zl3 (zno B j).2.2.1 w
      · rw [if_neg (fun q => q g), zn_a1]
        exact ih n (w + 1) (by omega) (by omega) (fun u hu => by
          by_cases q : u = w
          · rw [q]; exact g
          · exact h u (by omega))
      · rw [if_pos g, zn_a1, bad m n (w + 1) (by omega) (by omega), if_neg (fun q => g (by rw [q]))]
  unfold zf215 zcg1
  rw [zm216 hPA hPB hA hB hi hj, zbi_e]
  by_cases g : (zno A i).2.2.2 = (zno B j).2.2.2
  · rw [if_pos g, if_pos g, if_pos (show ¬ (1 : Int32) = 0 by decide)]
    have := l 3 zfz 0 rfl (by rw [zfz_e]; decide) (fun u hu => absurd hu (Nat.not_lt_zero _))
    have e : zf215_16 179 zfz (nI i) (nI j) 1 0 s = some (if (zno A i).2.2.1 = (zno B j).2.2.1 then 0 else 1, s) := this
    rw [e]
    by_cases w : (zno A i).2.2.1 = (zno B j).2.2.1
    · rw [if_pos w, if_pos w]; rfl
    · rw [if_neg w, if_neg w]; rfl
  · rw [if_neg g, if_neg g, if_neg (fun q => q rfl)]
    rfl
