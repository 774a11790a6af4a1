/-! read, the contents on the model's side: reference, unpack. -/
set_option maxRecDepth 100000
set_option linter.unusedVariables false
theorem zn_leL {a k : Nat} (ha : a < 2147483648) (hk : k < 2147483648) : nI a ≤ (OfNat.ofNat k : Int32) ↔ a ≤ k := zn_le ha hk
theorem zn_geL {a k : Nat} (ha : a < 2147483648) (hk : k < 2147483648) : (OfNat.ofNat k : Int32) ≤ nI a ↔ k ≤ a := zn_le hk ha
theorem zn_ltL {a k : Nat} (ha : a < 2147483648) (hk : k < 2147483648) : nI a < (OfNat.ofNat k : Int32) ↔ a < k := zn_lt ha hk
theorem zn_gtL {a k : Nat} (ha : a < 2147483648) (hk : k < 2147483648) : (OfNat.ofNat k : Int32) < nI a ↔ k < a := zn_lt hk ha
theorem zn_eqL {a k : Nat} (ha : a < 2147483648) (hk : k < 2147483648) : nI a = (OfNat.ofNat k : Int32) ↔ a = k := zn_eq ha hk
/-- the model's content p -/
def zMc (p : Nat) (s : zS) (C : List Int32) : Prop := C.length ≤ 300 ∧ ∀ j, j < C.length → s 184 (300 * p + j) = C.getD j (-1)
/-- what unpacking the content p may change -/
def zFu (p : Nat) (s s' : zS) : Prop := (∀ q, q ≠ 184 → q ≠ 185 → s' q = s q) ∧ (∀ j, j < 300 * p ∨ 300 * p + 300 ≤ j → s' 184 j = s 184 j) ∧ ∀ j, j ≠ p → s' 185 j = s 185 j
theorem zFu_r {p : Nat} {s : zS} : zFu p s s := ⟨fun _ _ _ => rfl, fun _ _ => rfl, fun _ _ => rfl⟩
theorem zFu_t {p : Nat} {s s1 s2 : zS} (h1 : zFu p s s1) (h2 : zFu p s1 s2) : zFu p s s2 :=
  ⟨fun q a b => (h2.1 q a b).trans (h1.1 q a b), fun j a => (h2.2.1 j a).trans (h1.2.1 j a), fun j a => (h2.2.2 j a).trans (h1.2.2 j a)⟩
theorem zFu_w {p j : Nat} {x : Int32} {s : zS} (hj : j < 300) : zFu p s (zw s 184 (300 * p + j) x) :=
  ⟨fun q a b => zw_ne a, fun k a => zw_o (Or.inr (by omega)), fun k a => zw_o (Or.inl (by decide))⟩
theorem zMc_w {p : Nat} {x : Int32} {s : zS} {C : List Int32} (h : zMc p s C) (hl : C.length < 300) : zMc p (zw s 184 (300 * p + C.length) x) (C ++ [x]) := by
  refine ⟨by rw [List.length_append, List.length_singleton]; omega, fun j hj => ?_⟩
  rw [List.length_append, List.length_singleton] at hj
  by_cases e : j = C.length
  · subst e
    rw [zw_s, zgetD_last]
  · rw [zw_o (Or.inr (by omega)), h.2 j (by omega), zgetD_app (by omega)]
theorem zMt_at {s : zS} {T : List Int32} {i : Nat} {R : Type} {c : Int32 → Option R} (h : zMtx s T) (hi : i < T.length) : zal s 180 (nI i) c = c (T.getD i (-1)) := by
  have hl := h.2.1
  rw [zal_n (by show i < 480; omega), h.2.2 i hi]
theorem zn_300 (p j : Nat) : (300 : Int32) * nI p + nI j = nI (300 * p + j) := by
  rw [zn_lit 300, zn_mul, zn_add]
/-- a reference's letters, one after the other -/
theorem zm_116r {k24 : Int32 → Int32 → Int32 → Int32 → zS → Option (Int32 × zS)} {p e at' back tt : Nat} (hp : p < 2) (x6 : Int32) (h6 : x6 - x6 / 1000 * 1000 = nI back) : ∀ m i n (s : zS) (C : List Int32), m < n → i + m = tt → tt < 100 → zMc p s C → 1 ≤ back → back ≤ C.length → C.length + m ≤ 300 →
    ∃ s', zf160_116 179 k24 n (nI p) (nI e) (nI C.length) (nI at') 1 x6 (nI tt) (nI i) s = k24 (nI p) (nI e) (nI (C.length + m)) (nI (at' + 4)) s' ∧ zMc p s' (zcp back m C) ∧ zFu p s s' := by
  intro m
  induction m with
  | zero =>
    intro i n s C hn hi ht hC h1 h2 h3
    obtain ⟨n, rfl⟩ : ∃ n', n = n' + 1 := ⟨n - 1, by omega⟩
    refine ⟨s, ?_, hC, zFu_r⟩
    rw [zf160_116, if_pos ((zn_le (by omega) (by omega)).mpr (by omega)), if_neg (by decide), zn_lit 4, zn_add, Nat.add_zero C.length]
  | succ m ih =>
    intro i n s C hn hi ht hC h1 h2 h3
    obtain ⟨n, rfl⟩ : ∃ n', n = n' + 1 := ⟨n - 1, by omega⟩
    rw [zf160_116, if_neg (fun q => by have := (zn_le (by omega) (by omega)).mp q; omega), if_neg (by decide), h6, show zrf 179 7 = 184 from rfl, zn_300]
    rw [zn_sub (by omega), zal_n (by show _ < 600; omega), zas_n (by show _ < 600; omega), zn_a1, zn_a1]
    have e1 : s 184 (300 * p + C.length - back) = C.getD (C.length - back) (-1) := by
      rw [show 300 * p + C.length - back = 300 * p + (C.length - back) by omega]
      exact hC.2 _ (by omega)
    rw [e1]
    obtain ⟨s', i1, i2, i3⟩ := ih (i + 1) n _ _ (by omega) (by omega) ht (zMc_w (x := C.getD (C.length - back) (-1)) hC (by omega)) h1 (by rw [List.length_append]; omega) (by rw [List.length_append, List.length_singleton]; omega)
    rw [List.length_append, List.length_singleton] at i1
    refine ⟨s', ?_, i2, zFu_t (zFu_w (by omega)) i3⟩
    rw [i1, show C.length + 1 + m = C.length + (m + 1) by omega]
theorem zm_161 {e at' n : Nat} {s : zS} {T : List Int32} (h : zMtx s T) (he : e ≤ T.length) (ha : at' < e) (hn : n ≤ 300) : zf161 179 (nI at') (nI e) (nI n) s = some ((match zrfc T e at' n with | none => 0 | some (bk, t) => nI (bk + 1000 * t)), s) := by
  have hl := h.2.1
  have q1 : nI at' + 1 = nI (at' + 1) := zn_a1 _
  have q2 : nI at' + 2 = nI (at' + 2) := by rw [zn_lit 2, zn_add]
  have q3 : nI at' + 3 = nI (at' + 3) := by rw [zn_lit 3, zn_add]
  unfold zf161 zrfc
  rw [q1, q2, q3, show zrf 179 1 = 180 from rfl]
  by_cases g0 : at' + 3 < e
  rotate_left
  · rw [if_pos ((zn_le (by omega) (by omega)).mpr (by omega)), if_neg (fun q => g0 q.1)]
  rw [if_neg (fun q => by have := (zn_le (by omega) (by omega)).mp q; omega), zMt_at h (by omega), z156]
  simp only [zbi]
  rw [zb_if0]
  by_cases g1 : zdg (T.getD (at' + 1) (-1)) = true
  rotate_left
  · rw [if_neg g1, if_neg (fun q => g1 q.2.1)]
  rw [if_pos g1, zMt_at h (by omega), z156]
  simp only
  rw [zb_if0]
  by_cases g2 : zdg (T.getD (at' + 2) (-1)) = true
  rotate_left
  · rw [if_neg g2, if_neg (fun q => g2 q.2.2.1)]
  rw [if_pos g2, zMt_at h (by omega), z156]
  simp only
  rw [zb_if]
  by_cases g3 : zdg (T.getD (at' + 3) (-1)) = true
  rotate_left
  · rw [if_neg g3, if_neg (fun q => g3 q.2.2.2.1)]
  rw [if_pos g3, zMt_at h (by omega), zMt_at h (by omega), zMt_at h (by omega)]
  have v1 := (zdv_e g1).2
  have v2 := (zdv_e g2).2
  have v3 := (zdv_e g3).2
  have e1 : ((10 * (T.getD (at' + 1) (-1) - 48)) + T.getD (at' + 2) (-1)) - 48 = nI (10 * zdv (T.getD (at' + 1) (-1)) + zdv (T.getD (at' + 2) (-1))) := by
    rw [zn_s48 g1, zn_s10 g2]
  have e3 : (T.getD (at' + 3) (-1) - 48) + 5 = nI (zdv (T.getD (at' + 3) (-1)) + 5) := by
    rw [zn_s48 g3, zn_lit 5, zn_add]
  rw [e1, e3, zn_lit 1000, zn_mul, zn_add]
  have hbk : 10 * zdv (T.getD (at' + 1) (-1)) + zdv (T.getD (at' + 2) (-1)) ≤ 99 := by omega
  generalize 10 * zdv (T.getD (at' + 1) (-1)) + zdv (T.getD (at' + 2) (-1)) = bk at *
  by_cases g4 : bk = 0
  · rw [if_pos (by rw [g4]; rfl), if_neg (fun q => q.2.2.2.2.1 g4)]
  · rw [if_neg (show ¬ nI bk = 0 from fun q => g4 ((zn_eq (b := 0) (by omega) (by decide)).mp (q.trans z0e)))]
    by_cases g5 : bk ≤ n
    · rw [if_pos ((zn_le (by omega) (by omega)).mpr g5), if_pos ⟨g0, g1, g2, g3, g4, g5⟩]
    · rw [if_neg (fun q => g5 ((zn_le (by omega) (by omega)).mp q)), if_neg (fun q => g5 q.2.2.2.2.2)]
theorem zrfc_b {T : List Int32} {e at' n bk t : Nat} (h : zrfc T e at' n = some (bk, t)) : 1 ≤ bk ∧ bk ≤ 99 ∧ bk ≤ n ∧ 5 ≤ t ∧ t ≤ 14 ∧ at' + 3 < e := by
  unfold zrfc at h
  split at h
  · next g =>
    cases h
    have v1 := (zdv_e g.2.1).2
    have v2 := (zdv_e g.2.2.1).2
    have v3 := (zdv_e g.2.2.2.1).2
    exact ⟨by omega, by omega, g.2.2.2.2.2, by omega, by omega, g.1⟩
  · cases h
theorem zrk_d : ∀ bk, bk < 100 → ∀ t, t < 15 → (nI (bk + 1000 * t) / 1000 = nI t ∧ nI (bk + 1000 * t) - nI (bk + 1000 * t) / 1000 * 1000 = nI bk) := by decide +kernel
theorem zm160_l {T : List Int32} {b : Bool} {e p : Nat} (hp : p < 2) (he : e ≤ T.length) : ∀ m at' n (s : zS) (C : List Int32), m < n → e ≤ at' + m → zMtx s T → s 181 p = (if b = true then 1 else 0) → zMc p s C → at' < 2000 →
    (∀ q, zup T b e m at' C = .inl q → ∃ s', zf160_24 179 n (nI p) (nI e) (nI C.length) (nI at') s = some (nI q, s') ∧ zFu p s s') ∧
    (∀ C', zup T b e m at' C = .inr C' → ∃ s', zf160_24 179 n (nI p) (nI e) (nI C.length) (nI at') s = some (-1, s') ∧ zFu p s s' ∧ zMc p s' C' ∧ s' 185 p = nI C'.length) := by
  have fin : ∀ (s : zS) (C : List Int32), zMc p s C → zFu p s (zw s 185 p (nI C.length)) ∧ zMc p (zw s 185 p (nI C.length)) C ∧ (zw s 185 p (nI C.length)) 185 p = nI C.length := by
    intro s C hC
    refine ⟨⟨fun q a b => zw_ne b, fun j a => zw_o (Or.inl (by decide)), fun j a => zw_o (Or.inr a)⟩, ⟨hC.1, fun j hj => ?_⟩, zw_s⟩
    rw [zw_ne (by decide)]
    exact hC.2 j hj
  intro m
  induction m with
  | zero =>
    intro at' n s C hn hm hT hb hC ha
    have hl := hT.2.1
    obtain ⟨n, rfl⟩ : ∃ n', n = n' + 1 := ⟨n - 1, by omega⟩
    rw [zf160_24, if_pos ((zn_le (by omega) (by omega)).mpr (by omega)), show zrf 179 8 = 185 from rfl, zas_n (by show p < 2; omega)]
    refine ⟨fun q hq => (by cases hq), fun C' hC' => ?_⟩
    cases hC'
    obtain ⟨f1, f2, f3⟩ := fin s C hC
    exact ⟨_, rfl, f1, f2, f3⟩
  | succ m ih =>
    intro at' n s C hn hm hT hb hC ha
    have hl := hT.2.1
    have hC1 := hC.1
    obtain ⟨n, rfl⟩ : ∃ n', n = n' + 1 := ⟨n - 1, by omega⟩
    by_cases g0 : e ≤ at'
    · rw [zf160_24, zup, if_pos ((zn_le (by omega) (by omega)).mpr (by omega)), show zrf 179 8 = 185 from rfl, zas_n (by show p < 2; omega), if_pos g0]
      refine ⟨fun q hq => (by cases hq), fun C' hC' => ?_⟩
      cases hC'
      obtain ⟨f1, f2, f3⟩ := fin s C hC
      exact ⟨_, rfl, f1, f2, f3⟩
    · have step : ∀ s', zFu p s s' → zMtx s' T ∧ s' 181 p = (if b = true then 1 else 0) := by
        intro s' hs
        refine ⟨zMtx_fr (hs.1 179 (by decide) (by decide)) (hs.1 180 (by decide) (by decide)) hT, ?_⟩
        rw [hs.1 181 (by decide) (by decide)]
        exact hb
      have e57 : zf160_57 179 (zf160_24 179 n) (nI p) (nI e) (nI C.length) (nI at') 0 s = if C.length + 1 ≤ 300 then zf160_24 179 n (nI p) (nI e) (nI (C.length + 1)) (nI (at' + 1)) (zw s 184 (300 * p + C.length) (T.getD at' (-1))) else some (nI at', s) := by
        obtain ⟨M, hz⟩ : ∃ M, zfz = M + 2 := ⟨9998, zfz_e⟩
        unfold zf160_57
        rw [if_pos rfl]
        unfold zf160_76
        rw [if_pos rfl]
        unfold zf160_93
        rw [if_neg (by decide), zn_a1]
        by_cases hf : C.length + 1 ≤ 300
        · rw [if_pos ((zn_leL (k := 300) (by omega) (by decide)).mpr hf), if_pos hf, hz, zf160_116, if_neg (by decide), if_pos rfl, show zrf 179 1 = 180 from rfl, zMt_at hT (by omega), show zrf 179 7 = 184 from rfl, zn_300, zas_n (by show _ < 600; omega), zn_a1, zf160_116, if_pos (by decide), if_pos rfl, zn_a1]
        · rw [if_neg (fun q => hf ((zn_leL (k := 300) (by omega) (by decide)).mp q)), if_neg hf]
      have plain : (∀ q, (if C.length + 1 ≤ 300 then zup T b e m (at' + 1) (C ++ [T.getD at' (-1)]) else .inl at') = .inl q → ∃ s', zf160_57 179 (zf160_24 179 n) (nI p) (nI e) (nI C.length) (nI at') 0 s = some (nI q, s') ∧ zFu p s s') ∧ (∀ C', (if C.length + 1 ≤ 300 then zup T b e m (at' + 1) (C ++ [T.getD at' (-1)]) else .inl at') = .inr C' → ∃ s', zf160_57 179 (zf160_24 179 n) (nI p) (nI e) (nI C.length) (nI at') 0 s = some (-1, s') ∧ zFu p s s' ∧ zMc p s' C' ∧ s' 185 p = nI C'.length) := by
        rw [e57]
        by_cases hf : C.length + 1 ≤ 300
        · rw [if_pos hf, if_pos hf]
          have w1 : zFu p s (zw s 184 (300 * p + C.length) (T.getD at' (-1))) := zFu_w (by omega)
          obtain ⟨t1, t2⟩ := step _ w1
          obtain ⟨i1, i2⟩ := ih (at' + 1) n _ _ (by omega) (by omega) t1 t2 (zMc_w (x := T.getD at' (-1)) hC (by omega)) (by omega)
          rw [List.length_append, List.length_singleton] at i1 i2
          refine ⟨fun q hq => ?_, fun C' hC' => ?_⟩
          · obtain ⟨s', j1, j2⟩ := i1 q hq
            exact ⟨s', j1, zFu_t w1 j2⟩
          · obtain ⟨s', j1, j2, j3, j4⟩ := i2 C' hC'
            exact ⟨s', j1, zFu_t w1 j2, j3, j4⟩
        · rw [if_neg hf, if_neg hf]
          refine ⟨fun q hq => ?_, fun C' hC' => (by cases hC')⟩
          cases hq
          exact ⟨_, rfl, zFu_r⟩
      have e24 : zf160_24 179 (n + 1) (nI p) (nI e) (nI C.length) (nI at') s = if b = true ∧ T.getD at' (-1) = 126 then zf160_57 179 (zf160_24 179 n) (nI p) (nI e) (nI C.length) (nI at') 1 s else zf160_57 179 (zf160_24 179 n) (nI p) (nI e) (nI C.length) (nI at') 0 s := by
        rw [zf160_24, if_neg (fun q => g0 ((zn_le (by omega) (by omega)).mp q)), show zrf 179 4 = 181 from rfl, zal_n (by show p < 2; omega), hb]
        cases b with
        | false => rw [if_pos (by decide), if_neg (fun q => by cases q.1)]
        | true =>
          rw [if_neg (by decide), show zrf 179 1 = 180 from rfl, zMt_at hT (by omega)]
          by_cases g1 : T.getD at' (-1) = 126
          · rw [if_neg (fun q => q g1), if_pos ⟨rfl, g1⟩]
          · rw [if_pos g1, if_neg (fun q => g1 q.2)]
      rw [e24, zup, if_neg g0]
      by_cases g1 : b = true ∧ T.getD at' (-1) = 126
      rotate_left
      · rw [if_neg g1, if_neg g1]
        exact plain
      rw [if_pos g1, if_pos g1]
      have e57b : zf160_57 179 (zf160_24 179 n) (nI p) (nI e) (nI C.length) (nI at') 1 s = (match zrfc T e at' C.length with | none => some (nI at', s) | some (bk, t) => if C.length + t ≤ 300 then zf160_116 179 (zf160_24 179 n) zfz (nI p) (nI e) (nI C.length) (nI at') 1 (nI (bk + 1000 * t)) (nI t) (nI 0) s else some (nI at', s)) := by
        unfold zf160_57
        rw [if_neg (by decide), zm_161 hT he (by omega) hC.1]
        simp only [zbi]
        unfold zf160_76
        rw [if_neg (by decide)]
        cases g2 : zrfc T e at' C.length with
        | none => rfl
        | some bt =>
          obtain ⟨bk, t⟩ := bt
          have hb2 := zrfc_b g2
          simp only
          rw [(zrk_d bk (by omega) t (by omega)).1]
          unfold zf160_93
          rw [if_neg (show ¬ nI t = 0 from fun q => by have := (zn_eq (b := 0) (by omega) (by decide)).mp (q.trans z0e); omega), zn_add]
          by_cases hf : C.length + t ≤ 300
          · rw [if_pos ((zn_leL (k := 300) (by omega) (by decide)).mpr hf), if_pos hf]
            exact congrArg (fun z => zf160_116 179 (zf160_24 179 n) zfz (nI p) (nI e) (nI C.length) (nI at') 1 (nI (bk + 1000 * t)) (nI t) z s) z0e
          · rw [if_neg (fun q => hf ((zn_leL (k := 300) (by omega) (by decide)).mp q)), if_neg hf]
      rw [e57b]
      cases g2 : zrfc T e at' C.length with
      | none =>
        simp only
        refine ⟨fun q hq => ?_, fun C' hC' => (by cases hC')⟩
        cases hq
        exact ⟨_, rfl, zFu_r⟩
      | some bt =>
        obtain ⟨bk, t⟩ := bt
        have hb2 := zrfc_b g2
        simp only
        by_cases hf : C.length + t ≤ 300
        · rw [if_pos hf, if_pos hf]
          obtain ⟨s1, a1, a2, a3⟩ := zm_116r (k24 := zf160_24 179 n) (e := e) (at' := at') hp (nI (bk + 1000 * t)) (zrk_d bk (by omega) t (by omega)).2 t 0 zfz s C (by rw [zfz_e]; omega) (Nat.zero_add t) (by omega) hC (by omega) (by omega) hf
          rw [a1]
          obtain ⟨t1, t2⟩ := step _ a3
          have hlen := zcp_len bk t C
          obtain ⟨i1, i2⟩ := ih (at' + 4) n s1 (zcp bk t C) (by omega) (by omega) t1 t2 a2 (by omega)
          rw [hlen] at i1 i2
          refine ⟨fun q hq => ?_, fun C' hC' => ?_⟩
          · obtain ⟨s', j1, j2⟩ := i1 q hq
            exact ⟨s', j1, zFu_t a3 j2⟩
          · obtain ⟨s', j1, j2, j3, j4⟩ := i2 C' hC'
            exact ⟨s', j1, zFu_t a3 j2, j3, j4⟩
        · rw [if_neg hf, if_neg hf]
          refine ⟨fun q hq => ?_, fun C' hC' => (by cases hC')⟩
          cases hq
          exact ⟨_, rfl, zFu_r⟩
theorem zm160 {s : zS} {T : List Int32} {b : Bool} {p d c : Nat} (hp : p < 2) (h : zMtx s T) (h1 : s 181 p = (if b = true then 1 else 0)) (h2 : s 182 p = nI d) (h3 : s 183 p = nI c) (hdc : d + c ≤ T.length) :
    (∀ q, zup T b (d + c) (d + c) d [] = .inl q → ∃ s', zf160 179 (nI p) s = some (nI q, s') ∧ zFu p s s') ∧
    (∀ C', zup T b (d + c) (d + c) d [] = .inr C' → ∃ s', zf160 179 (nI p) s = some (-1, s') ∧ zFu p s s' ∧ zMc p s' C' ∧ s' 185 p = nI C'.length) := by
  have hl := h.2.1
  have e0 : zf160 179 (nI p) s = zf160_24 179 zfz (nI p) (nI (d + c)) (nI ([] : List Int32).length) (nI d) s := by
    unfold zf160
    rw [show zrf 179 5 = 182 from rfl, show zrf 179 6 = 183 from rfl, zal_n (by show p < 2; omega), zal_n (by show p < 2; omega), zal_n (by show p < 2; omega), h2, h3, zn_add]
    rfl
  rw [e0]
  exact zm160_l hp hdc (d + c) d zfz s [] (by rw [zfz_e]; omega) (by omega) h h1 ⟨Nat.zero_le _, fun j hj => absurd hj (Nat.not_lt_zero _)⟩ (by omega)
