/-! compare, the class's rows and weights (link). -/
set_option maxRecDepth 100000
set_option linter.unusedVariables false
/-- one less -/
def zdn : Nat → Int32
  | 0 => -1
  | k + 1 => nI k
theorem zdn_s (k : Nat) : nI k + (-1) = zdn k := by
  cases k with
  | zero => rfl
  | succ k =>
    show nI (k + 1) + (-1) = nI k
    rw [← zn_s1 k, Int32.sub_eq_add_neg]
theorem zdn_m (k : Nat) : nI k - 1 = zdn k := by
  rw [← zdn_s, Int32.sub_eq_add_neg]
theorem zdn_0 : zdn 0 < 0 := by decide
theorem zdn_1 {k : Nat} (h : k < 2147483648) : ¬ zdn (k + 1) < 0 := zn_nn h
/-- the first of a row, or the end -/
def zhd (l : List Nat) : Nat := match l with
  | [] => 40
  | x :: _ => x
/-- what stands behind i in its row, and with i -/
def znx (D : List zN) (i : Nat) : List Nat := match zab D i with
  | some a => zrw D a (i + 1)
  | none => []
def zsx (D : List zN) (i : Nat) : List Nat := if i < D.length then i :: znx D i else []
theorem zsx_40 {D : List zN} (h : D.length ≤ 40) : zsx D 40 = [] := by
  unfold zsx
  rw [if_neg (by omega)]
theorem zsx_h {D : List zN} {a k : Nat} (h : D.length ≤ 40) : zsx D (zhd (zrw D a k)) = zrw D a k := by
  cases hl : zrw D a k with
  | nil => exact zsx_40 h
  | cons c l =>
    obtain ⟨a1, a2, a3, a4⟩ := zrw_s' hl
    show zsx D c = _
    unfold zsx znx
    rw [if_pos a3, a4, a1]
theorem zsx_n {D : List zN} {i : Nat} (h : D.length ≤ 40) : zsx D (zhd (znx D i)) = znx D i := by
  unfold znx
  split
  · exact zsx_h h
  · exact zsx_40 h
theorem zhd_le {D : List zN} {a k : Nat} (h : D.length ≤ 40) : zhd (zrw D a k) ≤ 40 := by
  cases hl : zrw D a k with
  | nil => exact Nat.le_refl _
  | cons c l => have := (zrw_s' hl).2.2.1; show c ≤ 40; omega
theorem zhd_x {D : List zN} {i : Nat} (h : D.length ≤ 40) : zhd (znx D i) ≤ 40 := by
  unfold znx
  split
  · exact zhd_le h
  · exact Nat.le_refl _
def zTq (t q : Nat) : Prop := (t = 70 ∧ q = 4) ∨ (t = 75 ∧ q = 12)
theorem zTq_e {t q : Nat} (h : zTq t q) : zQq q ∧ zrf t 0 = q ∧ zrf t 1 = t + 1 ∧ zrf t 2 = t + 2 ∧ zrf t 3 = t + 3 ∧ zrf t 4 = t + 4 ∧ zca (t + 1) = 40 ∧ zca (t + 2) = 40 ∧ zca (t + 3) = 40 ∧ zca (t + 4) = 41 ∧ zca (q + 1) = 40 ∧ q + 7 < t := by
  rcases h with ⟨rfl, rfl⟩ | ⟨rfl, rfl⟩
  · exact ⟨zQ4, rfl, rfl, rfl, rfl, rfl, rfl, rfl, rfl, rfl, rfl, by decide⟩
  · exact ⟨zQ12, rfl, rfl, rfl, rfl, rfl, rfl, rfl, rfl, rfl, rfl, by decide⟩
/-- the tree at t is that of D -/
def zLn (t : Nat) (s : zS) (D : List zN) : Prop := s (t + 4) 40 = nI 0 ∧ ∀ n, n < D.length → s (t + 1) n = nI (zhd (zkb D n)) ∧ s (t + 2) n = nI (zhd (znx D n)) ∧ s (t + 3) n = nI (zW D (zf1 D) n) ∧ s (t + 4) n = nI ((zsx D n).map (zW D (zf1 D))).sum
theorem z95_70 {t q : Nat} {D : List zN} (ht : zTq t q) (hW : zWf D) (h40 : D.length ≤ 40) : ∀ k n (s : zS), k ≤ D.length → k < n → zPc q s D → s (t + 4) 40 = nI 0 → (∀ a, a < D.length → s (t + 1) a = nI (zhd (zrw D a k)) ∧ s (t + 3) a = nI (zf1 D a + zG D (zf1 D) k a)) → (∀ x, x < k → s (t + 2) x = nI 40) → (∀ x, k ≤ x → x < D.length → s (t + 2) x = nI (zhd (znx D x)) ∧ s (t + 4) x = nI ((zsx D x).map (zW D (zf1 D))).sum) →
    ∃ s', zf95_70 t n (zdn k) s = some s' ∧ zLn t s' D ∧ ∀ p, p < t + 1 ∨ t + 4 < p → s' p = s p := by
  obtain ⟨hQ, r0, r1, r2, r3, r4, c1, c2, c3, c4, c5, hqt⟩ := zTq_e ht
  obtain ⟨u0, u1, u2, u3, u4, u5, u6, u7, u8, u9, u10, u11, u12⟩ := zQq_e hQ
  intro k
  induction k with
  | zero =>
    intro n s hk hn hP h40' hF hN hX
    obtain ⟨n, rfl⟩ : ∃ n', n = n' + 1 := ⟨n - 1, by omega⟩
    refine ⟨s, ?_, ⟨h40', fun x hx => ?_⟩, fun _ _ => rfl⟩
    · rw [zf95_70, if_pos zdn_0]
    · obtain ⟨a1, a2⟩ := hF x hx
      obtain ⟨b1, b2⟩ := hX x (Nat.zero_le _) hx
      rw [zrw_c hW (x + 1) 0 (by omega)] at a1
      refine ⟨a1, b1, ?_, b2⟩
      rw [a2, zW_e]
      unfold zG
      rw [zrw_c hW (x + 1) 0 (by omega)]
  | succ k ih =>
    intro n s hk hn hP h40' hF hN hX
    obtain ⟨n, rfl⟩ : ∃ n', n = n' + 1 := ⟨n - 1, by omega⟩
    have hkl : k < D.length := by omega
    have hab : s (q + 2) k = zoi (zab D k) := (hP.2.2.2 k hkl).2.1
    have wk : zf1 D k + zG D (zf1 D) (k + 1) k = zW D (zf1 D) k := by rw [zW_e]; rfl
    rw [zf95_70, if_neg (zdn_1 (by omega)), r0, u1, show zdn (k + 1) = nI k from rfl, zal_n (by rw [u7, c5]; omega), hab]
    rcases (hW k hkl).2.1 with ⟨w1, w2, _⟩ | ⟨a, w1, w2, w3⟩
    · rw [w2, if_pos (show zoi none = -1 from rfl)]
      subst w1
      have hn0 := hN 0 (by omega)
      have e : zsx D 0 = [0] := by unfold zsx znx; rw [if_pos hkl, w2]
      obtain ⟨s1, hs1⟩ : ∃ s1, s1 = zw s (t + 4) 0 (nI (zW D (zf1 D) 0 + 0)) := ⟨_, rfl⟩
      have f1 : ∀ p, p ≠ t + 4 → s1 p = s p := fun p hp => by rw [hs1, zw_ne hp]
      obtain ⟨s', d1, d2, d3⟩ := ih n s1 (by omega) (by omega) (zPc_f hQ hP (fun p h1 h2 => f1 p (by omega))) (by rw [hs1, zw_o (Or.inr (by decide))]; exact h40') (fun a ha => by
        rw [f1 (t + 1) (by omega), f1 (t + 3) (by omega)]
        have z1 : zrw D a 0 = zrw D a 1 := by rw [zrw_e hkl, w2, if_neg (by simp)]
        have z2 : zG D (zf1 D) 0 a = zG D (zf1 D) 1 a := by unfold zG; rw [z1]
        rw [z1, z2]
        exact hF a ha) (fun x hx => absurd hx (Nat.not_lt_zero _)) (fun x h1 h2 => by
        rw [f1 (t + 2) (by omega)]
        by_cases g : x = 0
        · subst g
          refine ⟨?_, ?_⟩
          · rw [hn0]
            unfold znx
            rw [w2]
            rfl
          · rw [hs1, zw_s, e]
            rfl
        · rw [hs1, zw_o (Or.inr g)]
          exact hX x (by omega) h2)
      refine ⟨s', ?_, d2, fun p hp => by rw [d3 p hp, f1 p (by omega)]⟩
      unfold zf95_123
      rw [r2, r3, r4, zal_n (by rw [c3]; omega), zal_n (by rw [c2]; omega), hn0, zal_n (by rw [c4]; decide), h40', (hF 0 hkl).2, wk, zn_add, zas_n (by rw [c4]; omega), ← hs1, zdn_s]
      exact d1
    · rw [w2, show zoi (some a) = nI a from rfl, if_neg (zn_nm (by omega)), r1, r2, r3, zal_n (by rw [c1]; omega), (hF a (by omega)).1, zas_n (by rw [c2]; omega)]
      have hnx : znx D k = zrw D a (k + 1) := by unfold znx; rw [w2]
      obtain ⟨s1, hs1⟩ : ∃ s1, s1 = zw (zw s (t + 2) k (nI (zhd (zrw D a (k + 1))))) (t + 1) a (nI k) := ⟨_, rfl⟩
      have f1 : ∀ p, p ≠ t + 1 → p ≠ t + 2 → s1 p = s p := fun p h1 h2 => by rw [hs1, zw_ne h1, zw_ne h2]
      rw [zas_n (by rw [c1]; omega), ← hs1, zal_n (by rw [c3]; omega), zal_n (by rw [c3]; omega), f1 (t + 3) (by omega) (by omega), (hF a (by omega)).2, (hF k hkl).2, wk, zn_add, zas_n (by rw [c3]; omega)]
      obtain ⟨s2, hs2⟩ : ∃ s2, s2 = zw s1 (t + 3) a (nI (zf1 D a + zG D (zf1 D) (k + 1) a + zW D (zf1 D) k)) := ⟨_, rfl⟩
      have f2 : ∀ p, p ≠ t + 1 → p ≠ t + 2 → p ≠ t + 3 → s2 p = s p := fun p h1 h2 h3 => by rw [hs2, zw_ne h3, f1 p h1 h2]
      rw [← hs2]
      have n2 : s2 (t + 2) k = nI (zhd (znx D k)) := by rw [hs2, zw_ne (by omega), hs1, zw_ne (by omega), zw_s, hnx]
      have w2k : s2 (t + 3) k = nI (zW D (zf1 D) k) := by rw [hs2, zw_o (Or.inr (by omega)), f1 (t + 3) (by omega) (by omega), (hF k hkl).2, wk]
      have hsum : s2 (t + 4) (zhd (znx D k)) = nI ((znx D k).map (zW D (zf1 D))).sum := by
        rw [f2 (t + 4) (by omega) (by omega) (by omega), hnx]
        cases hl : zrw D a (k + 1) with
        | nil => exact h40'
        | cons c l =>
          obtain ⟨q1, q2, q3, q4⟩ := zrw_s' hl
          have := (hX c (by omega) q3).2
          show s (t + 4) c = _
          rw [this]
          unfold zsx znx
          rw [if_pos q3, q4, q1]
      have hxk := zhd_x (D := D) (i := k) h40
      obtain ⟨s3, hs3⟩ : ∃ s3, s3 = zw s2 (t + 4) k (nI (zW D (zf1 D) k + ((znx D k).map (zW D (zf1 D))).sum)) := ⟨_, rfl⟩
      have f3 : ∀ p, p < t + 1 ∨ t + 4 < p → s3 p = s p := fun p hp => by rw [hs3, zw_ne (by omega), f2 p (by omega) (by omega) (by omega)]
      obtain ⟨s', d1, d2, d3⟩ := ih n s3 (by omega) (by omega) (zPc_f hQ hP (fun p h1 h2 => f3 p (by omega))) (by rw [hs3, zw_o (Or.inr (by omega)), f2 (t + 4) (by omega) (by omega) (by omega)]; exact h40') (fun b hb => by
        have z1 : zrw D b k = if b = a then k :: zrw D b (k + 1) else zrw D b (k + 1) := by
          rw [zrw_e hkl, w2]
          by_cases g : b = a
          · rw [if_pos (by rw [g]), if_pos g]
          · rw [if_neg (fun z => g (Option.some.inj z).symm), if_neg g]
        have z2 : zG D (zf1 D) k b = (if b = a then zW D (zf1 D) k else 0) + zG D (zf1 D) (k + 1) b := by
          rw [zG_e hkl, w2]
          by_cases g : b = a
          · rw [if_pos (by rw [g]), if_pos g]
          · rw [if_neg (fun z => g (Option.some.inj z).symm), if_neg g]
        rw [z1, z2, hs3, zw_ne (by omega), zw_ne (by omega), hs2, zw_ne (q := t + 1) (by omega)]
        by_cases g : b = a
        · subst g
          rw [if_pos rfl, if_pos rfl, hs1, zw_s, zw_s]
          refine ⟨rfl, ?_⟩
          congr 1
          omega
        · rw [if_neg g, if_neg g, zw_o (Or.inr g), hs1, zw_o (Or.inr g), zw_ne (q := t + 1) (by omega), zw_ne (q := t + 3) (by omega), zw_ne (q := t + 3) (by omega), Nat.zero_add]
          exact hF b hb) (fun x hx => by
        rw [hs3, zw_ne (by omega), hs2, zw_ne (by omega), hs1, zw_ne (by omega), zw_o (Or.inr (by omega))]
        exact hN x (by omega)) (fun x h1 h2 => by
        by_cases g : x = k
        · subst g
          refine ⟨?_, ?_⟩
          · rw [hs3, zw_ne (by omega)]; exact n2
          · rw [hs3, zw_s]
            unfold zsx
            rw [if_pos h2, List.map_cons, List.sum_cons]
        · rw [hs3, zw_ne (q := t + 2) (by omega), zw_o (Or.inr g), f2 (t + 4) (by omega) (by omega) (by omega), hs2, zw_ne (by omega), hs1, zw_ne (by omega), zw_o (Or.inr g)]
          exact hX x (by omega) h2)
      refine ⟨s', ?_, d2, fun p hp => by rw [d3 p hp, f3 p hp]⟩
      unfold zf95_123
      rw [r2, r3, r4, zal_n (by rw [c3]; omega), zal_n (by rw [c2]; omega), n2, zal_n (by rw [c4]; omega), hsum, w2k, zn_add, zas_n (by rw [c4]; omega), ← hs3, zdn_s]
      exact d1
/-- link -/
theorem z95 {t q : Nat} {s : zS} {D : List zN} (ht : zTq t q) (hP : zPc q s D) (hW : zWf D) : ∃ s', zf95 t s = some s' ∧ zLn t s' D ∧ ∀ p, p < t + 1 ∨ t + 4 < p → s' p = s p := by
  obtain ⟨hQ, r0, r1, r2, r3, r4, c1, c2, c3, c4, c5, hqt⟩ := zTq_e ht
  obtain ⟨u0, u1, u2, u3, u4, u5, u6, u7, u8, u9, u10, u11, u12⟩ := zQq_e hQ
  have h40 : D.length ≤ 40 := by have := hP.2.1; rw [c5] at this; exact this
  have l : ∀ m n k (s : zS), k + m = D.length → m < n → zPc q s D → (∀ x, x < k → s (t + 1) x = nI 40 ∧ s (t + 2) x = nI 40 ∧ s (t + 3) x = nI (zf1 D x)) → ∃ s', zf95_2 t n (nI k) s = some s' ∧ zLn t s' D ∧ ∀ p, p < t + 1 ∨ t + 4 < p → s' p = s p := by
    intro m
    induction m with
    | zero =>
      intro n k s hk hn hP h
      obtain ⟨n, rfl⟩ : ∃ n', n = n' + 1 := ⟨n - 1, by omega⟩
      obtain ⟨s1, hs1⟩ : ∃ s1, s1 = zw s (t + 4) 40 0 := ⟨_, rfl⟩
      have f1 : ∀ p, p ≠ t + 4 → s1 p = s p := fun p hp => by rw [hs1, zw_ne hp]
      obtain ⟨s', d1, d2, d3⟩ := z95_70 ht hW h40 D.length zfz s1 (Nat.le_refl _) (by rw [zfz_e]; omega) (zPc_f hQ hP (fun p h1 h2 => f1 p (by omega))) (by rw [hs1, zw_s]; rfl) (fun a ha => by
        rw [f1 _ (by omega), f1 _ (by omega)]
        obtain ⟨q1, q2, q3⟩ := h a (by omega)
        have z : zrw D a D.length = [] := zrw_n (Nat.le_refl _)
        unfold zG
        rw [z]
        exact ⟨q1, q3⟩) (fun x hx => by rw [f1 _ (by omega)]; exact (h x (by omega)).2.1) (fun x h1 h2 => by omega)
      refine ⟨s', ?_, d2, fun p hp => by rw [d3 p hp, f1 p (by omega)]⟩
      have e40 : zas s (t + 4) 40 0 = fun (c : zS → Option zS) => c (zw s (t + 4) 40 0) := by funext c; exact zas_n (j := 40) (by rw [c4]; decide)
      rw [zf95_2, r0, zgf_e, hP.1, if_pos ((zn_le (by omega) (by omega)).mpr (by omega)), r4, e40]
      dsimp only
      rw [← hs1, zgf_e, f1 q (by omega), hP.1, zdn_m]
      exact d1
    | succ m ih =>
      intro n k s hk hn hP h
      obtain ⟨n, rfl⟩ : ∃ n', n = n' + 1 := ⟨n - 1, by omega⟩
      have hkl : k < D.length := by omega
      obtain ⟨s1, hs1⟩ : ∃ s1, s1 = zw (zw s (t + 1) k 40) (t + 2) k 40 := ⟨_, rfl⟩
      obtain ⟨s2, hs2⟩ : ∃ s2, s2 = zw s1 (t + 3) k (nI (1 + (zno D k).2.2.2.length)) := ⟨_, rfl⟩
      have f2 : ∀ p, p ≠ t + 1 → p ≠ t + 2 → p ≠ t + 3 → s2 p = s p := fun p h1 h2 h3 => by rw [hs2, zw_ne h3, hs1, zw_ne h2, zw_ne h1]
      have hz : s1 (q + 5) k = nI (zno D k).2.2.2.length := by rw [hs1, zw_ne (by omega), zw_ne (by omega)]; exact (hP.2.2.2 k hkl).2.2.2.2
      obtain ⟨s', d1, d2, d3⟩ := ih n (k + 1) s2 (by omega) (by omega) (zPc_f hQ hP (fun p h1 h2 => f2 p (by omega) (by omega) (by omega))) (fun x hx => by
        by_cases g : x = k
        · subst g
          refine ⟨?_, ?_, ?_⟩
          · rw [hs2, zw_ne (by omega), hs1, zw_ne (by omega), zw_s]; rfl
          · rw [hs2, zw_ne (by omega), hs1, zw_s]; rfl
          · rw [hs2, zw_s]; rfl
        · rw [hs2, zw_ne (q := t + 1) (by omega), zw_ne (q := t + 2) (by omega), zw_o (Or.inr g), hs1, zw_ne (q := t + 1) (by omega), zw_o (Or.inr g), zw_o (Or.inr g), zw_ne (q := t + 2) (by omega), zw_ne (q := t + 3) (by omega), zw_ne (q := t + 3) (by omega)]
          exact h x (by omega))
      refine ⟨s', ?_, d2, fun p hp => by rw [d3 p hp, f2 p (by omega) (by omega) (by omega)]⟩
      rw [zf95_2, r0, zgf_e, hP.1, if_neg (fun w => by have := (zn_le (by omega) (by omega)).mp w; omega), r1, r2, r3, u4, zas_n (by rw [c1]; omega), zas_n (by rw [c2]; omega), ← hs1, zal_n (by rw [u10, c5]; omega), hz, show (1 : Int32) + nI (zno D k).2.2.2.length = nI (1 + (zno D k).2.2.2.length) by rw [zn_lit 1, zn_add], zas_n (by rw [c3]; omega), ← hs2, zn_a1]
      exact d1
  unfold zf95
  exact l D.length zfz 0 s (Nat.zero_add _) (by rw [zfz_e]; omega) hP (fun x hx => absurd hx (Nat.not_lt_zero _))
