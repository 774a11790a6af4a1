/-! read, the contents on the class's side: follow, unpack. -/
set_option maxRecDepth 100000
set_option linter.unusedVariables false
theorem z36_d {a n f p : Nat} {s : zS} {T : List Int32} (h : zRow 1 s T) (hp : p ≤ f + 3) (hf : f < 3000) : zf36_16 a 1 (n + 1) (nI f) (nI p) s = if zdg (T.getD p (-1)) = true then zf36_16 a 1 n (nI f) (nI (p + 1)) s else some (0, s) := by
  rw [zf36_16, if_neg (fun e => by rw [zn_lit 3, zn_add] at e; have := (zn_lt (by omega) (by omega)).mp e; omega), z18 h (by omega)]
  simp only [zbi]
  rw [z29]
  simp only
  rw [zb_if, zn_a1]
  rfl
theorem zn_s48 {x : Int32} (h : zdg x = true) : x - 48 = nI (zdv x) := by
  obtain ⟨e1, e2⟩ := zdv_e h
  have : nI (48 + zdv x) - nI 48 = nI (zdv x) := by rw [zn_sub (by omega)]; congr 1; omega
  rw [← e1] at this
  exact this
theorem zn_s10 {c : Nat} {x : Int32} (h : zdg x = true) : ((10 * nI c) + x) - 48 = nI (10 * c + zdv x) := by
  obtain ⟨e1, e2⟩ := zdv_e h
  have := zn_dig (c := c) (v := zdv x)
  rw [← e1] at this
  exact this
theorem zs36 {a : Nat} (hA : zA a) {s : zS} {T C : List Int32} {e at' : Nat} (h : zRow 1 s T) (he : s a 4 = nI e) (he2 : e < 5000) (ha : at' < 3000) (hC : zRow (a + 1) s C) :
    (zrfc T e at' C.length = none → zf36 a 1 (nI at') s = some (0, s)) ∧
    (∀ back t, zrfc T e at' C.length = some (back, t) → ∃ s' C', zf36 a 1 (nI at') s = some (1, s') ∧ zRow (a + 1) s' C' ∧ (C.length + t ≤ 300 → C' = zcp back t C ∧ s' (a + 1) 2 = s (a + 1) 2) ∧ (300 < C.length + t → s' (a + 1) 2 = 1) ∧ (∀ q, q ≠ a + 1 → q ≠ a + 2 → s' q = s q)) := by
  obtain ⟨w1, w2, w3, w4, w5, w6, w7, w8, w9, w10⟩ := zA_e hA
  have hl := zRow_lt hC
  obtain ⟨M, hz⟩ : ∃ M, zfz = M + 10 := ⟨9990, zfz_e⟩
  have e0 : zf36 a 1 (nI at') s = if at' + 3 < e then zf36_16 a 1 zfz (nI at') (nI (at' + 1)) s else some (0, s) := by
    unfold zf36
    simp only [zgf, he]
    rw [zn_lit 3, zn_add, zn_a1]
    by_cases g0 : at' + 3 < e
    · rw [if_pos g0, if_pos ((zn_lt (by omega) (by omega)).mpr g0)]
    · rw [if_neg g0, if_neg (fun q => g0 ((zn_lt (by omega) (by omega)).mp q))]
      rfl
  rw [e0]
  unfold zrfc
  by_cases g0 : at' + 3 < e
  rotate_left
  · rw [if_neg g0, if_neg (fun q => g0 q.1)]
    exact ⟨fun _ => rfl, fun _ _ q => (by cases q)⟩
  rw [if_pos g0, hz, z36_d h (by omega) (by omega)]
  by_cases g1 : zdg (T.getD (at' + 1) (-1)) = true
  rotate_left
  · rw [if_neg g1, if_neg (fun q => g1 q.2.1)]
    exact ⟨fun _ => rfl, fun _ _ q => (by cases q)⟩
  rw [if_pos g1, z36_d h (by omega) (by omega)]
  by_cases g2 : zdg (T.getD (at' + 2) (-1)) = true
  rotate_left
  · rw [if_neg g2, if_neg (fun q => g2 q.2.2.1)]
    exact ⟨fun _ => rfl, fun _ _ q => (by cases q)⟩
  rw [if_pos g2, z36_d h (by omega) (by omega)]
  by_cases g3 : zdg (T.getD (at' + 3) (-1)) = true
  rotate_left
  · rw [if_neg g3, if_neg (fun q => g3 q.2.2.2.1)]
    exact ⟨fun _ => rfl, fun _ _ q => (by cases q)⟩
  rw [if_pos g3]
  have v1 := (zdv_e g1).2
  have v2 := (zdv_e g2).2
  have v3 := (zdv_e g3).2
  have e1 : ((10 * (T.getD (at' + 1) (-1) - 48)) + T.getD (at' + 2) (-1)) - 48 = nI (10 * zdv (T.getD (at' + 1) (-1)) + zdv (T.getD (at' + 2) (-1))) := by
    rw [zn_s48 g1, zn_s10 g2]
  have e3 : (T.getD (at' + 3) (-1) - 48) + 5 = nI (0 + (zdv (T.getD (at' + 3) (-1)) + 5)) := by
    rw [zn_s48 g3, zn_lit 5, zn_add, Nat.zero_add]
  have q2 : nI at' + 2 = nI (at' + 2) := by rw [zn_lit 2, zn_add]
  have q3 : nI at' + 3 = nI (at' + 3) := by rw [zn_lit 3, zn_add]
  have e4 : zf36_16 a 1 (M + 7) (nI at') (nI (at' + 1 + 1 + 1 + 1)) s = if 10 * zdv (T.getD (at' + 1) (-1)) + zdv (T.getD (at' + 2) (-1)) ≠ 0 ∧ 10 * zdv (T.getD (at' + 1) (-1)) + zdv (T.getD (at' + 2) (-1)) ≤ C.length then zf36_101 a 1 zfz (nI (10 * zdv (T.getD (at' + 1) (-1)) + zdv (T.getD (at' + 2) (-1)))) (nI (0 + (zdv (T.getD (at' + 3) (-1)) + 5))) (nI 0) s else some (0, s) := by
    have hC1 := hC.1
    rw [zf36_16, q3, if_pos ((zn_lt (by omega) (by omega)).mpr (by omega)), zn_a1, q2, z18 h (by omega)]
    simp only [zbi]
    rw [z18 h (by omega)]
    simp only
    rw [e1, w1]
    simp only [zgf, hC1]
    rw [z18 h (by omega)]
    simp only
    rw [e3]
    have hbk : 10 * zdv (T.getD (at' + 1) (-1)) + zdv (T.getD (at' + 2) (-1)) ≤ 99 := by omega
    generalize 10 * zdv (T.getD (at' + 1) (-1)) + zdv (T.getD (at' + 2) (-1)) = bk at *
    by_cases g4 : bk = 0
    · rw [if_pos (by rw [g4]; rfl), if_neg (fun q => q.1 g4)]
      rfl
    · rw [if_neg (show ¬ nI bk = 0 from fun q => g4 ((zn_eq (b := 0) (by omega) (by decide)).mp (q.trans z0e)))]
      by_cases g5 : bk ≤ C.length
      · rw [if_pos ((zn_le (by omega) (by omega)).mpr g5), if_pos ⟨g4, g5⟩]
        exact congrArg (fun z => zf36_101 a 1 zfz (nI bk) (nI (0 + (zdv (T.getD (at' + 3) (-1)) + 5))) z s) z0e
      · rw [if_neg (fun q => g5 ((zn_le (by omega) (by omega)).mp q)), if_neg (fun q => g5 q.2)]
        rfl
  rw [e4]
  have hbk : 10 * zdv (T.getD (at' + 1) (-1)) + zdv (T.getD (at' + 2) (-1)) ≤ 99 := by omega
  generalize 10 * zdv (T.getD (at' + 1) (-1)) + zdv (T.getD (at' + 2) (-1)) = bk at *
  by_cases g4 : bk ≠ 0 ∧ bk ≤ C.length
  rotate_left
  · rw [if_neg g4, if_neg (fun q => g4 q.2.2.2.2)]
    exact ⟨fun _ => rfl, fun _ _ q => (by cases q)⟩
  rw [if_pos g4, if_pos ⟨g0, g1, g2, g3, g4⟩]
  refine ⟨fun q => (by cases q), fun back t q => ?_⟩
  cases q
  obtain ⟨s', C', i1, i2, i3, i4, i5, i6⟩ := z36_l hA bk (zdv (T.getD (at' + 3) (-1)) + 5) 0 zfz s C (by rw [zfz_e]; omega) (by omega) hC (by omega) g4.2
  exact ⟨s', C', i1, i2, i3, i4, i6⟩
/-- unpack -/
theorem zs35_l {a : Nat} (hA : zA a) {T : List Int32} {b : Bool} {e : Nat} (he2 : e < 2000) : ∀ m at' n (s : zS) (C : List Int32), m < n → e ≤ at' + m → at' < 2500 → zRow 1 s T → s a 4 = nI e → s a 2 = (if b = true then 1 else 0) → zRow (a + 1) s C → s (a + 1) 2 = 0 →
    (∀ p, zup T b e m at' C = .inl p → ∃ s', zf35_12 a 1 n (nI at') s = some (nI p, s')) ∧
    (∀ C', zup T b e m at' C = .inr C' → ∃ s', zf35_12 a 1 n (nI at') s = some (-1, s') ∧ zRow (a + 1) s' C') := by
  obtain ⟨w1, w2, w3, w4, w5, w6, w7, w8, w9, w10⟩ := zA_e hA
  intro m
  induction m with
  | zero =>
    intro at' n s C hn hm ha hT he hb hC ho
    obtain ⟨n, rfl⟩ : ∃ n', n = n' + 1 := ⟨n - 1, by omega⟩
    rw [zf35_12]
    simp only [zgf, he]
    rw [if_pos ((zn_le (by omega) (by omega)).mpr (by omega))]
    refine ⟨fun p hp => (by cases hp), fun C' hC' => ?_⟩
    cases hC'
    exact ⟨s, rfl, hC⟩
  | succ m ih =>
    intro at' n s C hn hm ha hT he hb hC ho
    obtain ⟨n, rfl⟩ : ∃ n', n = n' + 1 := ⟨n - 1, by omega⟩
    have h3 := hC.2.1
    rw [w2, w3] at h3
    rw [zf35_12, zup]
    simp only [zgf, he, hb]
    by_cases g0 : e ≤ at'
    · rw [if_pos ((zn_le (by omega) (by omega)).mpr g0), if_pos g0]
      refine ⟨fun p hp => (by cases hp), fun C' hC' => ?_⟩
      cases hC'
      exact ⟨s, rfl, hC⟩
    · rw [if_neg (fun q => g0 ((zn_le (by omega) (by omega)).mp q)), if_neg g0, zb_if0, z18 hT (by omega)]
      simp only [zbi]
      have e56 : zf35_56 a 1 (zf35_12 a 1 n) (nI at') (nI at') s = if C.length + 1 ≤ 300 then zf35_12 a 1 n (nI (at' + 1)) (zw (zw s (zrf (a + 1) 0) C.length (T.getD at' (-1))) (a + 1) 1 (nI (C.length + 1))) else some (nI at', zw s (a + 1) 2 1) := by
        unfold zf35_56
        rw [z18 hT (by omega)]
        simp only [zbi]
        rw [w1]
        by_cases hf : C.length + 1 ≤ 300
        · obtain ⟨p1, p2⟩ := z13 (c := T.getD at' (-1)) hC (by rw [w2]; omega) (by rw [w2, w3]; omega)
          rw [p1, if_pos hf]
          simp only [zbv]
          unfold zf35_68
          simp only [zgf]
          rw [w1, zw_o (Or.inr (by decide)), zw_ne (by rw [w2]; omega), ho, if_pos rfl, zn_a1]
        · rw [z13_full hC (by rw [w2, w3]; omega), if_neg hf]
          simp only [zbv]
          unfold zf35_68
          simp only [zgf]
          rw [w1, zw_s, if_neg (by decide)]
      have st : ∀ t : zS, (∀ q, q ≠ a + 1 → q ≠ a + 2 → t q = s q) → zRow 1 t T ∧ t a 4 = nI e ∧ t a 2 = (if b = true then 1 else 0) := by
        intro t ht
        refine ⟨zRow_fr (ht 1 (by omega) (by omega)) (ht 2 (by omega) (by omega)) hT, ?_, ?_⟩
        · rw [ht a (by omega) (by omega)]
          exact he
        · rw [ht a (by omega) (by omega)]
          exact hb
      have plain : (∀ p, (if C.length + 1 ≤ 300 then zup T b e m (at' + 1) (C ++ [T.getD at' (-1)]) else .inl at') = .inl p → ∃ s', zf35_56 a 1 (zf35_12 a 1 n) (nI at') (nI at') s = some (nI p, s')) ∧ (∀ C', (if C.length + 1 ≤ 300 then zup T b e m (at' + 1) (C ++ [T.getD at' (-1)]) else .inl at') = .inr C' → ∃ s', zf35_56 a 1 (zf35_12 a 1 n) (nI at') (nI at') s = some (-1, s') ∧ zRow (a + 1) s' C') := by
        rw [e56]
        by_cases hf : C.length + 1 ≤ 300
        · rw [if_pos hf, if_pos hf]
          obtain ⟨p1, p2⟩ := z13 (c := T.getD at' (-1)) hC (by rw [w2]; omega) (by rw [w2, w3]; omega)
          obtain ⟨t1, t2, t3⟩ := st (zw (zw s (zrf (a + 1) 0) C.length (T.getD at' (-1))) (a + 1) 1 (nI (C.length + 1))) (fun q q1 q2 => by rw [zw_ne q1, zw_ne (by rw [w2]; exact q2)])
          exact ih (at' + 1) n _ _ (by omega) (by omega) (by omega) t1 t2 t3 p2 (by rw [zw_o (Or.inr (by decide)), zw_ne (by rw [w2]; omega)]; exact ho)
        · rw [if_neg hf, if_neg hf]
          refine ⟨fun p hp => ?_, fun C' hC' => (by cases hC')⟩
          cases hp
          exact ⟨_, rfl⟩
      cases b with
      | false =>
        rw [if_neg (show ¬ (false = true ∧ T.getD at' (-1) = 126) from fun q => by cases q.1), if_neg (show ¬ (false = true) by decide)]
        exact plain
      | true =>
        rw [if_pos (show true = true from rfl)]
        by_cases g1 : T.getD at' (-1) = 126
        rotate_left
        · rw [if_pos g1, if_neg (show ¬ (true = true ∧ T.getD at' (-1) = 126) from fun q => g1 q.2)]
          exact plain
        rw [if_neg (show ¬ ¬ T.getD at' (-1) = 126 from fun q => q g1), if_pos (show true = true ∧ T.getD at' (-1) = 126 from ⟨rfl, g1⟩)]
        obtain ⟨f1, f2⟩ := zs36 hA (e := e) (at' := at') hT he (by omega) (by omega) hC
        cases g2 : zrfc T e at' C.length with
        | none =>
          rw [f1 g2]
          simp only
          refine ⟨fun p hp => ?_, fun C' hC' => (by cases hC')⟩
          cases hp
          exact ⟨_, rfl⟩
        | some bt =>
          obtain ⟨bk, t⟩ := bt
          obtain ⟨s', C', i1, i2, i3, i4, i5⟩ := f2 bk t g2
          rw [i1]
          simp only
          rw [if_pos (show ¬ (1 : Int32) = 0 by decide)]
          unfold zf35_68
          simp only [zgf]
          rw [w1]
          by_cases hf : C.length + t ≤ 300
          · obtain ⟨j1, j2⟩ := i3 hf
            subst j1
            rw [if_pos hf, j2, ho, if_pos rfl]
            have q4 : nI at' + 3 + 1 = nI (at' + 4) := by rw [zn_lit 3, zn_add, zn_a1]
            rw [q4]
            obtain ⟨t1, t2, t3⟩ := st s' i5
            exact ih (at' + 4) n s' _ (by omega) (by omega) (by omega) t1 t2 t3 i2 (j2.trans ho)
          · rw [if_neg hf, i4 (by omega), if_neg (by decide)]
            refine ⟨fun p hp => ?_, fun C' hC' => (by cases hC')⟩
            cases hp
            exact ⟨_, rfl⟩
theorem zs35 {a : Nat} (hA : zA a) {s : zS} {T : List Int32} {b : Bool} {d e : Nat} (he2 : e < 2000) (hd : d < 2000) (hT : zRow 1 s T) (hp : zPt s a b d e) :
    (∀ p, zup T b e e d [] = .inl p → ∃ s', zf35 a 1 s = some (nI p, s')) ∧
    (∀ C', zup T b e e d [] = .inr C' → ∃ s', zf35 a 1 s = some (-1, s') ∧ zRow (a + 1) s' C') := by
  obtain ⟨w1, w2, w3, w4, w5, w6, w7, w8, w9, w10⟩ := zA_e hA
  obtain ⟨p1, p2, p3⟩ := hp
  have e15 : zf15 (a + 1) s = some (zw (zw s (a + 1) 1 0) (a + 1) 2 0) := rfl
  unfold zf35
  rw [w1, e15]
  simp only [zbv, zgf]
  rw [zw_ne (by omega), zw_ne (by omega), p2]
  refine zs35_l hA he2 e d zfz _ [] (by rw [zfz_e]; omega) (by omega) (by omega) ?_ ?_ ?_ ?_ ?_
  · exact zRow_w (zRow_w hT (Or.inl (by omega)) (by show 2 ≠ a + 1; omega)) (Or.inl (by omega)) (by show 2 ≠ a + 1; omega)
  · rw [zw_ne (by omega), zw_ne (by omega)]
    exact p3
  · rw [zw_ne (by omega), zw_ne (by omega)]
    exact p1
  · refine ⟨?_, Nat.zero_le _, fun j hj => absurd hj (Nat.not_lt_zero _)⟩
    rw [zw_o (Or.inr (by decide)), zw_s]
    rfl
  · rw [zw_s]
