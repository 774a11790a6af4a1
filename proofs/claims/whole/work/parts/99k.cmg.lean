/-! compare, the model's script (goOn), and both together. -/
set_option maxRecDepth 100000
set_option linter.unusedVariables false
theorem zgo_0 {A B : List zN} {i j v : Nat} {l1 l2 : List Nat} (hcc : zcc A B i j = some v) : zgo A B (i :: l1) (j :: l2) = 0 ↔ zRR A B (i :: l1) (j :: l2) = v + zRR A B l1 l2 := by
  unfold zgo
  dsimp only
  rw [hcc]
  constructor
  · intro q
    split at q
    · next w => have := Option.some.inj w.1; omega
    · split at q <;> cases q
  · intro q
    rw [if_pos ⟨by congr 1; omega, by omega⟩]
theorem zgo_n {A B : List zN} {i j : Nat} {l1 l2 : List Nat} (hcc : zcc A B i j = none) : ¬ zgo A B (i :: l1) (j :: l2) = 0 := by
  unfold zgo
  dsimp only
  rw [hcc]
  rw [if_neg (fun q => by cases q.1)]
  split <;> decide
theorem zgo_1 {A B : List zN} {i : Nat} {m1 l2 : List Nat} (g0 : ¬ zgo A B (i :: m1) l2 = 0) : zgo A B (i :: m1) l2 = 1 ↔ zRR A B (i :: m1) l2 = zW A (zf1 A) i + zRR A B m1 l2 := by
  cases l2 with
  | nil =>
    constructor
    · intro _; unfold zRR; rw [zR_cn]
    · intro _; rfl
  | cons j m2 =>
    unfold zgo at g0 ⊢
    dsimp only at g0 ⊢
    by_cases q : zcc A B i j = some (zRR A B (i :: m1) (j :: m2) - zRR A B m1 m2) ∧ zRR A B m1 m2 ≤ zRR A B (i :: m1) (j :: m2)
    · rw [if_pos q] at g0; exact absurd rfl g0
    · rw [if_neg q]
      constructor
      · intro w
        split at w
        · assumption
        · cases w
      · intro w; rw [if_pos w]
/-- the model's script is L -/
def zScM (s : zS) (L : List zSp) : Prop := s 179 32 = nI L.length ∧ L.length ≤ 80 ∧ ∀ k, k < L.length → s 204 k = zoi (zsL L k).1 ∧ s 205 k = zoi (zsL L k).2.1 ∧ s 206 k = zoi (zsL L k).2.2.1 ∧ s 207 k = zoi (zsL L k).2.2.2
def zFg (s s' : zS) : Prop := (∀ p, p ≠ 179 → p < 204 ∨ (207 < p ∧ p < 210) ∨ 216 < p → s' p = s p) ∧ ∀ f, f ≠ 32 → f ≠ 41 → f ≠ 42 → s' 179 f = s 179 f
theorem zFg_t {s s1 s2 : zS} (h1 : zFg s s1) (h2 : zFg s1 s2) : zFg s s2 := ⟨fun p a b => (h2.1 p a b).trans (h1.1 p a b), fun f a b c => (h2.2 f a b c).trans (h1.2 f a b c)⟩
def zF8 (s s' : zS) : Prop := (∀ p, p ≠ 179 → p < 204 ∨ 207 < p → s' p = s p) ∧ ∀ f, f ≠ 32 → s' 179 f = s 179 f
theorem zF8_g {s s' : zS} (h : zF8 s s') : zFg s s' := ⟨fun p a b => h.1 p a (by omega), fun f a b c => h.2 f a⟩
theorem zF8_t {s s1 s2 : zS} (h1 : zF8 s s1) (h2 : zF8 s1 s2) : zF8 s s2 := ⟨fun p a b => (h2.1 p a b).trans (h1.1 p a b), fun f a => (h2.2 f a).trans (h1.2 f a)⟩
theorem zScM_f {s s' : zS} {L : List zSp} (h : zScM s L) (h1 : ∀ p, 204 ≤ p → p ≤ 207 → s' p = s p) (h2 : s' 179 32 = s 179 32) : zScM s' L := by
  unfold zScM
  rw [h2, h1 204 (by decide) (by decide), h1 205 (by decide) (by decide), h1 206 (by decide) (by decide), h1 207 (by decide) (by decide)]
  exact h
theorem zm218 {s : zS} {L : List zSp} {x : zSp} (h : zScM s L) (hl : L.length < 80) : ∃ s', zf218 179 (zoi x.1) (zoi x.2.1) (zoi x.2.2.1) (zoi x.2.2.2) s = some s' ∧ zScM s' (L ++ [x]) ∧ zF8 s s' := by
  obtain ⟨h1, h2, h3⟩ := h
  obtain ⟨s1, hs1⟩ : ∃ s1, s1 = zw (zw (zw (zw s 204 L.length (zoi x.1)) 205 L.length (zoi x.2.1)) 206 L.length (zoi x.2.2.1)) 207 L.length (zoi x.2.2.2) := ⟨_, rfl⟩
  have k179 : s1 179 = s 179 := by rw [hs1, zw_ne (by decide), zw_ne (by decide), zw_ne (by decide), zw_ne (by decide)]
  refine ⟨zw s1 179 32 (nI (L.length + 1)), ?_, ⟨?_, ?_, fun k hk => ?_⟩, fun p a b => ?_, fun f hf => ?_⟩
  · unfold zf218
    rw [show zrf 179 33 = 204 from rfl, show zrf 179 34 = 205 from rfl, show zrf 179 35 = 206 from rfl, show zrf 179 36 = 207 from rfl, zgf_e, h1, zas_n (by show L.length < 120; omega), zgf_e, zw_ne (q := 179) (by decide), h1, zas_n (by show L.length < 120; omega), zgf_e, zw_ne (q := 179) (by decide), zw_ne (q := 179) (by decide), h1, zas_n (by show L.length < 120; omega), zgf_e, zw_ne (q := 179) (by decide), zw_ne (q := 179) (by decide), zw_ne (q := 179) (by decide), h1, zas_n (by show L.length < 120; omega), ← hs1, zgf_e, k179, h1, zn_a1, zpf_e]
  · rw [zw_s, List.length_append, List.length_singleton]
  · rw [List.length_append, List.length_singleton]; omega
  · rw [List.length_append, List.length_singleton] at hk
    rw [zw_ne (q := 204) (by decide), zw_ne (q := 205) (by decide), zw_ne (q := 206) (by decide), zw_ne (q := 207) (by decide), hs1]
    by_cases g : k = L.length
    · subst g
      rw [zsL_r]
      refine ⟨?_, ?_, ?_, ?_⟩
      · rw [zw_ne (by decide), zw_ne (by decide), zw_ne (by decide), zw_s]
      · rw [zw_ne (by decide), zw_ne (by decide), zw_s]
      · rw [zw_ne (by decide), zw_s]
      · rw [zw_s]
    · have hk' : k < L.length := by omega
      rw [zsL_l hk']
      obtain ⟨a1, a2, a3, a4⟩ := h3 k hk'
      refine ⟨?_, ?_, ?_, ?_⟩
      · rw [zw_o (Or.inl (by decide)), zw_o (Or.inl (by decide)), zw_o (Or.inl (by decide)), zw_o (Or.inr g)]; exact a1
      · rw [zw_o (Or.inl (by decide)), zw_o (Or.inl (by decide)), zw_o (Or.inr g), zw_o (Or.inl (by decide))]; exact a2
      · rw [zw_o (Or.inl (by decide)), zw_o (Or.inr g), zw_o (Or.inl (by decide)), zw_o (Or.inl (by decide))]; exact a3
      · rw [zw_o (Or.inr g), zw_o (Or.inl (by decide)), zw_o (Or.inl (by decide)), zw_o (Or.inl (by decide))]; exact a4
  · rw [zw_ne a, hs1, zw_ne (by omega), zw_ne (by omega), zw_ne (by omega), zw_ne (by omega)]
  · rw [zw_o (Or.inr hf), k179]
theorem zm217 {s : zS} {A B : List zN} {t i j : Nat} {L : List zSp} (hPA : zPm 0 s A) (hPB : zPm 1 s B) (hA : zSm A) (hB : zSm B) (hi : i < A.length) (hj : j < B.length) (ht : t < 16) (hL : zScM s L) (hl : L.length < 80) :
    ∃ s', zf217 179 (nI t) (nI i) (nI j) s = some s' ∧ zScM s' (L ++ zcs A B i j) ∧ s' 213 t = nI i ∧ s' 214 t = nI j ∧ s' 215 t = nI 0 ∧ s' 216 t = nI 0 ∧ (∀ k, k ≠ t → s' 213 k = s 213 k ∧ s' 214 k = s 214 k ∧ s' 215 k = s 215 k ∧ s' 216 k = s 216 k) ∧ (∀ p, p ≠ 179 → p < 204 ∨ (207 < p ∧ p < 213) ∨ 216 < p → s' p = s p) ∧ ∀ f, f ≠ 32 → s' 179 f = s 179 f := by
  obtain ⟨s1, hs1⟩ : ∃ s1, s1 = zw (zw (zw (zw s 213 t (nI i)) 214 t (nI j)) 215 t 0) 216 t 0 := ⟨_, rfl⟩
  have f1 : ∀ p, p < 213 ∨ 216 < p → s1 p = s p := fun p hp => by rw [hs1, zw_ne (by omega), zw_ne (by omega), zw_ne (by omega), zw_ne (by omega)]
  have v1 : s1 213 t = nI i ∧ s1 214 t = nI j ∧ s1 215 t = nI 0 ∧ s1 216 t = nI 0 := by
    rw [hs1]
    refine ⟨?_, ?_, ?_, ?_⟩
    · rw [zw_o (Or.inl (by decide)), zw_o (Or.inl (by decide)), zw_o (Or.inl (by decide)), zw_s]
    · rw [zw_o (Or.inl (by decide)), zw_o (Or.inl (by decide)), zw_s]
    · rw [zw_o (Or.inl (by decide)), zw_s]; rfl
    · rw [zw_s]; rfl
  have o1 : ∀ k, k ≠ t → s1 213 k = s 213 k ∧ s1 214 k = s 214 k ∧ s1 215 k = s 215 k ∧ s1 216 k = s 216 k := by
    intro k hk
    rw [hs1]
    refine ⟨?_, ?_, ?_, ?_⟩ <;> rw [zw_o (Or.inr hk), zw_o (Or.inr hk), zw_o (Or.inr hk), zw_o (Or.inr hk)]
  have e0 : zf217 179 (nI t) (nI i) (nI j) s = if nI (zcg1 A B i j) ≤ 0 then some s1 else zbv (zf218 179 (nI i) (nI j) (-1) (-1) s1) (fun s8 => some s8) := by
    unfold zf217
    rw [show zrf 179 44 = 213 from rfl, show zrf 179 45 = 214 from rfl, show zrf 179 46 = 215 from rfl, show zrf 179 47 = 216 from rfl, zas_n (by show t < 16; omega), zas_n (by show t < 16; omega), zas_n (by show t < 16; omega), zas_n (by show t < 16; omega), ← hs1, zm215 (zPm_e hPA (fun p a b => f1 p (by omega))) (zPm_e hPB (fun p a b => f1 p (by omega))) hA hB hi hj, zbi_e]
  have hb := zcg1_le (A := A) (B := B) (i := i) (j := j)
  have L1 : zScM s1 L := zScM_f hL (fun p a b => f1 p (by omega)) (by rw [f1 179 (by omega)])
  rw [e0]
  unfold zcs
  by_cases g : zcg1 A B i j = 0
  · rw [if_pos (show nI (zcg1 A B i j) ≤ 0 by rw [g]; decide), if_pos g, List.append_nil]
    exact ⟨s1, rfl, L1, v1.1, v1.2.1, v1.2.2.1, v1.2.2.2, o1, fun p a b => f1 p (by omega), fun f hf => by rw [f1 179 (by omega)]⟩
  · rw [if_neg (show ¬ nI (zcg1 A B i j) ≤ 0 from fun q => by have := (zn_le (a := zcg1 A B i j) (b := 0) (by omega) (by decide)).mp q; omega), if_neg g]
    obtain ⟨s2, a1, a2, a3⟩ := zm218 (x := (some i, some j, none, none)) L1 hl
    have a1' : zf218 179 (nI i) (nI j) (-1) (-1) s1 = some s2 := a1
    refine ⟨s2, by rw [a1', zbv_e], a2, ?_, ?_, ?_, ?_, fun k hk => ?_, fun p a b => by rw [a3.1 p a (by omega), f1 p (by omega)], fun f hf => by rw [a3.2 f hf, f1 179 (by omega)]⟩
    · rw [a3.1 213 (by decide) (by omega)]; exact v1.1
    · rw [a3.1 214 (by decide) (by omega)]; exact v1.2.1
    · rw [a3.1 215 (by decide) (by omega)]; exact v1.2.2.1
    · rw [a3.1 216 (by decide) (by omega)]; exact v1.2.2.2
    · rw [a3.1 213 (by decide) (by omega), a3.1 214 (by decide) (by omega), a3.1 215 (by decide) (by omega), a3.1 216 (by decide) (by omega)]
      exact o1 k hk
theorem zok4_d {A B : List zN} {dp : Nat → Nat} (hd : ∀ j a, zab A j = some a → dp j = dp a + 1) : ∀ st a b l1 l2, zok4 A B ((a, b, l1, l2) :: st) → dp a = dp 0 + st.length := by
  intro st
  induction st with
  | nil => intro a b l1 l2 h; rw [h.1]; rfl
  | cons f st ih =>
    intro a b l1 l2 h
    obtain ⟨a', b', l1', l2'⟩ := f
    have h1 := ih a' b' l1' l2' h.2.2.2.2.2.2
    have h2 := hd a a' h.1
    rw [List.length_cons]
    omega
/-- what goOn's walk keeps -/
def zGs (s : zS) (A B : List zN) (a b : Nat) : Prop := zLy s A B a b ∧ ∀ x y, x ≤ (zkb A a).length → y ≤ (zkb B b).length → zEl2 s A B (zkb A a) (zkb B b) x y
theorem zGs_f {s s' : zS} {A B : List zN} {a b : Nat} (h : zGs s A B a b) (hf : zF8 s s') : zGs s' A B a b := by
  obtain ⟨⟨a1, a2, a3, a4⟩, h2⟩ := h
  refine ⟨⟨zMm_f a1 (fun p hp => hf.1 p (by omega) (by omega)), ?_, ?_, fun x y hx hy v hv => ?_⟩, fun x y hx hy => ?_⟩
  · unfold zRa
    rw [hf.2 41 (by decide), hf.1 210 (by decide) (by omega)]
    exact a2
  · unfold zRb
    rw [hf.2 42 (by decide), hf.1 211 (by decide) (by omega)]
    exact a3
  · rw [hf.1 209 (by decide) (by omega)]
    exact a4 x y hx hy v hv
  · unfold zEl2
    rw [hf.1 212 (by decide) (by omega)]
    exact h2 x y hx hy
theorem zdrop_row {D : List zN} {a i : Nat} : ∃ k, (zkb D a).drop i = zrw D a k := by
  induction i with
  | zero => exact ⟨a + 1, rfl⟩
  | succ i ih =>
    obtain ⟨k, hk⟩ := ih
    have e : (zkb D a).drop (i + 1) = ((zkb D a).drop i).tail := by rw [List.tail_drop]
    cases hl : zrw D a k with
    | nil => exact ⟨k, by rw [e, hk, hl]; rfl⟩
    | cons c l => exact ⟨c + 1, by rw [e, hk, hl]; exact (zrw_s' hl).1⟩
/-- what goOn does -/
def zGo (A B : List zN) (a b : Nat) (st : List zF4) (n : Nat) (L R : List zSp) (s s' : zS) (r : Int32) : Prop :=
  (r = 0 ∧ ∃ n' L', R = zwk A B n' st L' ∧ n' < n ∧ zmu A B st < n' ∧ L'.length + zmu A B st ≤ 80 ∧ zScM s' L' ∧ zF8 s s') ∨
  (r = 1 ∧ ∃ n' L' x y i' j', R = zwk A B n' ((x, y, zkb A x, zkb B y) :: (a, b, (zkb A a).drop i', (zkb B b).drop j') :: st) L' ∧ n' < n ∧ zmu A B ((x, y, zkb A x, zkb B y) :: (a, b, (zkb A a).drop i', (zkb B b).drop j') :: st) < n' ∧ L'.length + zmu A B ((x, y, zkb A x, zkb B y) :: (a, b, (zkb A a).drop i', (zkb B b).drop j') :: st) ≤ 80 ∧ zok4 A B ((x, y, zkb A x, zkb B y) :: (a, b, (zkb A a).drop i', (zkb B b).drop j') :: st) ∧ i' ≤ (zkb A a).length ∧ j' ≤ (zkb B b).length ∧ zScM s' L' ∧
    s' 213 (st.length + 1) = nI x ∧ s' 214 (st.length + 1) = nI y ∧ s' 215 (st.length + 1) = nI 0 ∧ s' 216 (st.length + 1) = nI 0 ∧ s' 213 st.length = s 213 st.length ∧ s' 214 st.length = s 214 st.length ∧ s' 215 st.length = nI i' ∧ s' 216 st.length = nI j' ∧ (∀ k, k < st.length → s' 213 k = s 213 k ∧ s' 214 k = s 214 k ∧ s' 215 k = s 215 k ∧ s' 216 k = s 216 k) ∧ (∀ p, p ≠ 179 → p < 204 ∨ (207 < p ∧ p < 213) ∨ 216 < p → s' p = s p) ∧ ∀ f, f ≠ 32 → s' 179 f = s 179 f)
theorem zGo_w {A B : List zN} {a b : Nat} {st : List zF4} {n : Nat} {L R L1 : List zSp} {s s1 s' : zS} {r : Int32} (h : zGo A B a b st n L1 R s1 s' r) (hf : zF8 s s1) : zGo A B a b st (n + 1) L R s s' r := by
  rcases h with ⟨h0, n', L', h1, h2, h3, h4, h5, h6⟩ | ⟨h0, n', L', x, y, i', j', h1, h2, h3, h4, h5, h6, h7, h8, h9, h10, h11, h12, h13, h14, h15, h16, h17, h18, h19⟩
  · exact Or.inl ⟨h0, n', L', h1, by omega, h3, h4, h5, zF8_t hf h6⟩
  · refine Or.inr ⟨h0, n', L', x, y, i', j', h1, by omega, h3, h4, h5, h6, h7, h8, h9, h10, h11, h12, ?_, ?_, h15, h16, fun k hk => ?_, fun p u v => ?_, fun f hf' => ?_⟩
    · rw [h13, hf.1 213 (by decide) (by omega)]
    · rw [h14, hf.1 214 (by decide) (by omega)]
    · rw [(h17 k hk).1, (h17 k hk).2.1, (h17 k hk).2.2.1, (h17 k hk).2.2.2, hf.1 213 (by decide) (by omega), hf.1 214 (by decide) (by omega), hf.1 215 (by decide) (by omega), hf.1 216 (by decide) (by omega)]
      exact ⟨rfl, rfl, rfl, rfl⟩
    · rw [h18 p u v, hf.1 p u (by omega)]
    · rw [h19 f hf', hf.2 f hf']
theorem zm219_33 {A B : List zN} {a b : Nat} {st : List zF4} (hA : zSm A) (hB : zSm B) (hdA : zWd A) (ha : a < A.length) (hb : b < B.length) : ∀ n i j L (s : zS) f, i ≤ (zkb A a).length → j ≤ (zkb B b).length → zok4 A B ((a, b, (zkb A a).drop i, (zkb B b).drop j) :: st) → zmu A B ((a, b, (zkb A a).drop i, (zkb B b).drop j) :: st) < n → L.length + zmu A B ((a, b, (zkb A a).drop i, (zkb B b).drop j) :: st) ≤ 80 → zmu A B ((a, b, (zkb A a).drop i, (zkb B b).drop j) :: st) < f → zScM s L → zGs s A B a b →
    ∃ r s', zf219_33 179 f (nI st.length) (nI a) (nI i) (nI j) s = some (r, s') ∧ zGo A B a b st n L (zwk A B n ((a, b, (zkb A a).drop i, (zkb B b).drop j) :: st) L) s s' r := by
  have hA4 := hA.2.1
  have hB4 := hB.2.1
  have la := zkb_len (a := a) hA4
  have lb := zkb_len (a := b) hB4
  obtain ⟨dp, hdp, hd9⟩ := hdA
  intro n
  induction n with
  | zero => intro i j L s f _ _ _ h; omega
  | succ n ih =>
    intro i j L s f hi hj ho hm hL hf hS hG
    obtain ⟨f, rfl⟩ : ∃ f', f = f' + 1 := ⟨f - 1, by omega⟩
    have hst : st.length ≤ 9 := by
      have := zok4_d hdp st a b _ _ ho
      have := hd9 a
      omega
    have e212 := hG.2 i j hi hj
    unfold zEl2 at e212
    have bR := zRR_r hA hB (a := a) (b := b) hi hj
    rw [zwk, zf219_33, zgf_e, hG.1.2.1.1]
    -- a turn
    have turn : ¬ ((zkb A a).drop i = [] ∧ (zkb B b).drop j = []) → ∃ r s', zf219_50 179 (zf219_33 179 f) (nI st.length) (nI a) (nI i) (nI j) s = some (r, s') ∧ zGo A B a b st (n + 1) L (if zgo A B ((zkb A a).drop i) ((zkb B b).drop j) = 0 then zwk A B n ((zhd ((zkb A a).drop i), zhd ((zkb B b).drop j), zkb A (zhd ((zkb A a).drop i)), zkb B (zhd ((zkb B b).drop j))) :: (a, b, ((zkb A a).drop i).tail, ((zkb B b).drop j).tail) :: st) (L ++ zcs A B (zhd ((zkb A a).drop i)) (zhd ((zkb B b).drop j))) else if zgo A B ((zkb A a).drop i) ((zkb B b).drop j) = 1 then zwk A B n ((a, b, ((zkb A a).drop i).tail, (zkb B b).drop j) :: st) (L ++ [(some (zhd ((zkb A a).drop i)), none, none, none)]) else zwk A B n ((a, b, (zkb A a).drop i, ((zkb B b).drop j).tail) :: st) (L ++ [(none, some (zhd ((zkb B b).drop j)), some a, ((zkb A a).drop i).head?)])) s s' r := by
      intro hne
      unfold zf219_50
      rw [show zrf 179 43 = 212 from rfl, zn_41, zal_n (by show _ < 1681; omega), e212]
      have e214 := zm214 hG.1 hA hB hi hj
      -- put in
      have ins : j < (zkb B b).length → ∃ r s', zf219_219 179 (zf219_33 179 f) (nI st.length) (nI a) (nI i) (nI j) s = some (r, s') ∧ zGo A B a b st (n + 1) L (zwk A B n ((a, b, (zkb A a).drop i, ((zkb B b).drop j).tail) :: st) (L ++ [(none, some (zhd ((zkb B b).drop j)), some a, ((zkb A a).drop i).head?)])) s s' r := by
        intro g2
        have ed := zdropN g2
        obtain ⟨y, hy⟩ : ∃ y, y = (zkb B b).getD j 0 := ⟨_, rfl⟩
        rw [← hy] at ed
        have hw := zW1_e (D := B) (i := y)
        rw [zmu, ed, List.map_cons, List.sum_cons] at hm hL hf
        have hhead : zoi (((zkb A a).drop i).head?) = if i < (zkb A a).length then nI ((zkb A a).getD i 0) else -1 := by
          by_cases g1 : i < (zkb A a).length
          · rw [if_pos g1, zdropN g1]; rfl
          · rw [if_neg g1, List.drop_eq_nil_of_le (by omega)]; rfl
        obtain ⟨s1, c1, c2, c3⟩ := zm218 (x := (none, some y, some a, ((zkb A a).drop i).head?)) hS (by omega)
        have c1' : zf218 179 (-1) (nI y) (nI a) (zoi (((zkb A a).drop i).head?)) s = some s1 := c1
        obtain ⟨r, s', d1, d2⟩ := ih i (j + 1) (L ++ [(none, some y, some a, ((zkb A a).drop i).head?)]) s1 f hi (by omega) (zok4_r ho zdrop_row zdrop_row) (by rw [zmu]; omega) (by rw [zmu, List.length_append, List.length_singleton]; omega) (by rw [zmu]; omega) c2 (zGs_f hG c3)
        refine ⟨r, s', ?_, ?_⟩
        · unfold zf219_219
          rw [show zrf 179 40 = 211 from rfl, zal_n (by show j < 40; omega), hG.1.2.2.1.2 j g2, ← hy, zgf_e, hG.1.2.1.1]
          rw [hhead] at c1'
          by_cases g1 : i < (zkb A a).length
          · rw [if_pos g1] at c1'
            rw [if_neg (fun q => by have := (zn_le (by omega) (by omega)).mp q; omega), show zrf 179 39 = 210 from rfl, zal_n (by show i < 40; omega), hG.1.2.1.2 i g1]
            unfold zf219_247
            rw [c1', zbv_e, zn_a1]
            exact d1
          · rw [if_neg g1] at c1'
            rw [if_pos ((zn_le (by omega) (by omega)).mpr (by omega))]
            unfold zf219_247
            rw [c1', zbv_e, zn_a1]
            exact d1
        · rw [ed]
          show zGo A B a b st (n + 1) L (zwk A B n ((a, b, (zkb A a).drop i, (zkb B b).drop (j + 1)) :: st) (L ++ [(none, some y, some a, ((zkb A a).drop i).head?)])) s s' r
          exact zGo_w d2 c3
      -- take out, or put in
      have rest : ¬ zgo A B ((zkb A a).drop i) ((zkb B b).drop j) = 0 → ∃ r s', zf219_160 179 (zf219_33 179 f) (nI st.length) (nI a) (nI i) (nI j) (nI (zRR A B ((zkb A a).drop i) ((zkb B b).drop j))) s = some (r, s') ∧ zGo A B a b st (n + 1) L (if zgo A B ((zkb A a).drop i) ((zkb B b).drop j) = 1 then zwk A B n ((a, b, ((zkb A a).drop i).tail, (zkb B b).drop j) :: st) (L ++ [(some (zhd ((zkb A a).drop i)), none, none, none)]) else zwk A B n ((a, b, (zkb A a).drop i, ((zkb B b).drop j).tail) :: st) (L ++ [(none, some (zhd ((zkb B b).drop j)), some a, ((zkb A a).drop i).head?)])) s s' r := by
        intro g0
        unfold zf219_160
        rw [zgf_e, hG.1.2.1.1]
        by_cases g1 : i < (zkb A a).length
        · have ed := zdropN g1
          have m1 := zkb_m.mp (zgetN_m g1)
          have wb := zW_b hA m1.2.1
          have bR1 := zRR_r hA hB (a := a) (b := b) (i := i + 1) (by omega) hj
          have e1 := hG.2 (i + 1) j (by omega) hj
          unfold zEl2 at e1
          obtain ⟨x, hx⟩ : ∃ x, x = (zkb A a).getD i 0 := ⟨_, rfl⟩
          rw [← hx] at ed wb m1
          rw [if_neg (fun q => by have := (zn_le (by omega) (by omega)).mp q; omega), show zrf 179 39 = 210 from rfl, show zrf 179 37 = 208 from rfl, show zrf 179 43 = 212 from rfl, zal_n (by show i < 40; omega), hG.1.2.1.2 i g1, ← hx, zal_n (by show x < 200; omega), hG.1.1.2.2.1 x m1.2.1, zn_41a, zal_n (by show _ < 1681; omega), e1, zn_add]
          rw [ed] at g0
          have eg := zgo_1 g0
          rw [← ed] at eg
          by_cases gg : zgo A B ((zkb A a).drop i) ((zkb B b).drop j) = 1
          · have := eg.mp gg
            rw [if_pos gg, if_neg (fun q => q (by rw [this]))]
            have hw := zW1_e (D := A) (i := x)
            rw [zmu, ed, List.map_cons, List.sum_cons] at hm hL hf
            obtain ⟨s1, c1, c2, c3⟩ := zm218 (x := (some x, none, none, none)) hS (by omega)
            have c1' : zf218 179 (nI x) (-1) (-1) (-1) s = some s1 := c1
            obtain ⟨r, s', d1, d2⟩ := ih (i + 1) j (L ++ [(some x, none, none, none)]) s1 f (by omega) hj (zok4_r ho zdrop_row zdrop_row) (by rw [zmu]; omega) (by rw [zmu, List.length_append, List.length_singleton]; omega) (by rw [zmu]; omega) c2 (zGs_f hG c3)
            refine ⟨r, s', ?_, ?_⟩
            · rw [zal_n (by show i < 40; omega), hG.1.2.1.2 i g1, ← hx, c1', zbv_e, zn_a1]
              exact d1
            · rw [ed]
              show zGo A B a b st (n + 1) L (zwk A B n ((a, b, (zkb A a).drop (i + 1), (zkb B b).drop j) :: st) (L ++ [(some x, none, none, none)])) s s' r
              exact zGo_w d2 c3
          · rw [if_neg gg, if_pos (fun q => gg (eg.mpr ((zn_eq (by omega) (by omega)).mp q.symm)))]
            have g2 : j < (zkb B b).length := by
              refine Nat.lt_of_not_le (fun q => gg ?_)
              rw [ed, List.drop_eq_nil_of_le q]
              rfl
            exact ins g2
        · have hd : (zkb A a).drop i = [] := List.drop_eq_nil_of_le (by omega)
          have gg : ¬ zgo A B ((zkb A a).drop i) ((zkb B b).drop j) = 1 := by rw [hd]; unfold zgo; simp
          rw [if_pos ((zn_le (by omega) (by omega)).mpr (by omega)), if_neg gg]
          have g2 : j < (zkb B b).length := Nat.lt_of_not_le (fun q => hne ⟨hd, List.drop_eq_nil_of_le q⟩)
          exact ins g2
      by_cases gp : i < (zkb A a).length ∧ j < (zkb B b).length ∧ (zno A ((zkb A a).getD i 0)).1 = (zno B ((zkb B b).getD j 0)).1
      · obtain ⟨g1, g2, g3⟩ := id gp
        rw [if_pos gp] at e214
        have ed1 := zdropN g1
        have ed2 := zdropN g2
        have m1 := zkb_m.mp (zgetN_m g1)
        have m2 := zkb_m.mp (zgetN_m g2)
        have mm1 := zgetN_m g1
        have mm2 := zgetN_m g2
        have r1 := hG.1.2.1.2 i g1
        have r2 := hG.1.2.2.1.2 j g2
        have bR1 := zRR_r hA hB (a := a) (b := b) (i := i + 1) (j := j + 1) (by omega) (by omega)
        have e1 := hG.2 (i + 1) (j + 1) (by omega) (by omega)
        unfold zEl2 at e1
        obtain ⟨x, hx⟩ : ∃ x, x = (zkb A a).getD i 0 := ⟨_, rfl⟩
        obtain ⟨y, hy⟩ : ∃ y, y = (zkb B b).getD j 0 := ⟨_, rfl⟩
        rw [← hx] at ed1 m1 g3 r1 mm1
        rw [← hy] at ed2 m2 g3 r2 mm2
        have hcc : zcc A B x y = some (zcg1 A B x y + zRR A B (zkb A x) (zkb B y)) := by rw [zcc_e m1.2.1, if_pos g3]
        obtain ⟨v, hv⟩ : ∃ v, v = zcg1 A B x y + zRR A B (zkb A x) (zkb B y) := ⟨_, rfl⟩
        rw [← hv] at hcc
        have vb := zcc_b hA hB m1.2.1 hcc
        have ev := hG.1.2.2.2 x y mm1 mm2 v hcc
        have eg := zgo_0 (l1 := (zkb A a).drop (i + 1)) (l2 := (zkb B b).drop (j + 1)) hcc
        rw [← ed1, ← ed2] at eg
        rw [e214, zbi_e, if_neg (show ¬ (1 : Int32) = 0 by decide), show zrf 179 39 = 210 from rfl, show zrf 179 40 = 211 from rfl, show zrf 179 38 = 209 from rfl, zal_n (by show i < 40; omega), r1, zal_n (by show j < 40; omega), r2, show ((40 : Int32) * nI x) + nI y = nI (40 * x + y) by rw [zn_lit 40, zn_mul, zn_add], zal_n (by show _ < 1600; omega), ev, zn_41a, zn_a1 (41 * (i + 1) + j), show 41 * (i + 1) + j + 1 = 41 * (i + 1) + (j + 1) by omega, zal_n (by show _ < 1681; omega), e1, zn_add]
        by_cases gg : zgo A B ((zkb A a).drop i) ((zkb B b).drop j) = 0
        · have hR := eg.mp gg
          rw [if_neg (fun q => q (by rw [hR])), if_pos gg, zn_a1, zn_a1, show zrf 179 46 = 215 from rfl, show zrf 179 47 = 216 from rfl, zas_n (by show st.length < 16; omega), zas_n (by show st.length < 16; omega)]
          obtain ⟨s1, hs1⟩ : ∃ s1, s1 = zw (zw s 215 st.length (nI (i + 1))) 216 st.length (nI (j + 1)) := ⟨_, rfl⟩
          have f1 : ∀ p, p < 215 ∨ 216 < p → s1 p = s p := fun p hp => by rw [hs1, zw_ne (by omega), zw_ne (by omega)]
          rw [← hs1, zal_n (by show i < 40; omega), zal_n (by show j < 40; omega), f1 210 (by omega), f1 211 (by omega), r1, r2, zn_a1]
          have hwa := zW1_e (D := A) (i := x)
          have hwb := zW1_e (D := B) (i := y)
          have ho' : zok4 A B ((x, y, zkb A x, zkb B y) :: (a, b, (zkb A a).drop (i + 1), (zkb B b).drop (j + 1)) :: st) := by
            refine zok4_p ?_
            rw [← ed1, ← ed2]
            exact ho
          have hst' : st.length + 1 ≤ 9 := by
            have := zok4_d hdp _ x y _ _ ho'
            have := hd9 x
            rw [List.length_cons] at *
            omega
          rw [zmu, ed1, ed2, List.map_cons, List.sum_cons, List.map_cons, List.sum_cons] at hm hL hf
          obtain ⟨s2, c1, c2, c3, c4, c5, c6, c7, c8, c9⟩ := zm217 (t := st.length + 1) (i := x) (j := y) (zPm_e hG.1.1.1 (fun p q w => f1 p (by omega))) (zPm_e hG.1.1.2.1 (fun p q w => f1 p (by omega))) hA hB m1.2.1 m2.2.1 (by omega) (zScM_f hS (fun p q w => f1 p (by omega)) (by rw [f1 179 (by omega)])) (by omega)
          have hlen : (zcs A B x y).length ≤ 1 := by
            unfold zcs
            split
            · exact Nat.zero_le _
            · exact Nat.le_refl _
          have oT := c7 st.length (by omega)
          refine ⟨1, s2, by rw [c1, zbv_e, zrb1], Or.inr ⟨rfl, n, L ++ zcs A B x y, x, y, i + 1, j + 1, ?_, Nat.lt_succ_self _, ?_, ?_, ho', by omega, by omega, c2, c3, c4, c5, c6, ?_, ?_, ?_, ?_, fun k hk => ?_, fun p u w => ?_, fun f hf' => ?_⟩⟩
          · rw [ed1, ed2]; rfl
          · rw [zmu, zmu]; omega
          · rw [zmu, zmu, List.length_append]; omega
          · rw [oT.1, f1 213 (by omega)]
          · rw [oT.2.1, f1 214 (by omega)]
          · rw [oT.2.2.1, hs1, zw_o (Or.inl (by decide)), zw_s]
          · rw [oT.2.2.2, hs1, zw_s]
          · have := c7 k (by omega)
            rw [this.1, this.2.1, this.2.2.1, this.2.2.2, f1 213 (by omega), f1 214 (by omega), hs1]
            refine ⟨rfl, rfl, ?_, ?_⟩
            · rw [zw_o (Or.inl (by decide)), zw_o (Or.inr (by omega))]
            · rw [zw_o (Or.inr (by omega)), zw_o (Or.inl (by decide))]
          · rw [c8 p u w, f1 p (by omega)]
          · rw [c9 f hf', f1 179 (by omega)]
        · rw [if_pos (fun q => gg (eg.mpr ((zn_eq (by omega) (by omega)).mp q.symm))), if_neg gg]
          exact rest gg
      · rw [if_neg gp] at e214
        rw [e214, zbi_e, if_pos rfl]
        have gg : ¬ zgo A B ((zkb A a).drop i) ((zkb B b).drop j) = 0 := by
          by_cases g1 : i < (zkb A a).length
          · rw [zdropN g1]
            by_cases g2 : j < (zkb B b).length
            · rw [zdropN g2]
              have m1 := zkb_m.mp (zgetN_m g1)
              refine zgo_n ?_
              rw [zcc_e m1.2.1, if_neg (fun q => gp ⟨g1, g2, q⟩)]
            · rw [List.drop_eq_nil_of_le (show (zkb B b).length ≤ j by omega)]
              unfold zgo
              simp
          · rw [List.drop_eq_nil_of_le (show (zkb A a).length ≤ i by omega)]
            unfold zgo
            simp
        rw [if_neg gg]
        exact rest gg
    by_cases g1 : i < (zkb A a).length
    · have hne : ¬ ((zkb A a).drop i = [] ∧ (zkb B b).drop j = []) := fun q => by rw [zdropN g1] at q; cases q.1
      rw [if_pos ((zn_lt (by omega) (by omega)).mpr g1), if_neg hne]
      exact turn hne
    · rw [if_neg (fun q => g1 ((zn_lt (by omega) (by omega)).mp q)), zgf_e, hG.1.2.2.1.1]
      by_cases g2 : j < (zkb B b).length
      · have hne : ¬ ((zkb A a).drop i = [] ∧ (zkb B b).drop j = []) := fun q => by rw [zdropN g2] at q; cases q.2
        rw [if_neg (fun q => by have := (zn_le (by omega) (by omega)).mp q; omega), if_neg hne]
        exact turn hne
      · have h1 : (zkb A a).drop i = [] := List.drop_eq_nil_of_le (by omega)
        have h2 : (zkb B b).drop j = [] := List.drop_eq_nil_of_le (by omega)
        rw [if_pos ((zn_le (by omega) (by omega)).mpr (by omega)), if_pos ⟨h1, h2⟩]
        rw [zmu] at hm hL
        exact ⟨0, s, zrb0, Or.inl ⟨rfl, n, L, rfl, Nat.lt_succ_self _, by omega, by omega, hS, fun _ _ _ => rfl, fun _ _ => rfl⟩⟩
def zSk4 (s : zS) (A B : List zN) : List zF4 → Prop
  | [] => True
  | (a, b, l1, l2) :: st => s 213 st.length = nI a ∧ s 214 st.length = nI b ∧ (∃ i j, s 215 st.length = nI i ∧ s 216 st.length = nI j ∧ i ≤ (zkb A a).length ∧ j ≤ (zkb B b).length ∧ l1 = (zkb A a).drop i ∧ l2 = (zkb B b).drop j) ∧ zSk4 s A B st
theorem zSk4_f {s s' : zS} {A B : List zN} : ∀ st, (∀ k, k < st.length → s' 213 k = s 213 k ∧ s' 214 k = s 214 k ∧ s' 215 k = s 215 k ∧ s' 216 k = s 216 k) → zSk4 s A B st → zSk4 s' A B st := by
  intro st
  induction st with
  | nil => intro _ _; trivial
  | cons f st ih =>
    intro h1 h
    obtain ⟨a, b, l1, l2⟩ := f
    obtain ⟨q1, q2, q3, q4⟩ := h1 st.length (Nat.lt_succ_self _)
    unfold zSk4 at h ⊢
    rw [q1, q2, q3, q4]
    exact ⟨h.1, h.2.1, h.2.2.1, ih (fun k hk => h1 k (by rw [List.length_cons]; omega)) h.2.2.2⟩
theorem zm210_l {A B : List zN} (hA : zSm A) (hB : zSm B) (hdA : zWd A) (hA0 : 0 < A.length) (hB0 : 0 < B.length) : ∀ n st L (s : zS) f, (st = [] ∨ zok4 A B st) → zmu A B st < n → L.length + zmu A B st ≤ 80 → n ≤ f → zSk4 s A B st → zScM s L → zMm s A B → (∀ x y, x < A.length → y < B.length → zEm s A B x y) →
    ∃ s', zf210_69 179 f (zdn st.length) s = some (s 209 0, s') ∧ zScM s' (zwk A B n st L) ∧ zFg s s' := by
  have hA4 := hA.2.1
  have hB4 := hB.2.1
  intro n
  induction n using Nat.strongRecOn with
  | ind n ih =>
    intro st L s f ho hm hL hf hK hS hM hE
    obtain ⟨f, rfl⟩ : ∃ f', f = f' + 1 := ⟨f - 1, by omega⟩
    cases st with
    | nil =>
      refine ⟨s, ?_, ?_, fun _ _ _ => rfl, fun _ _ _ _ => rfl⟩
      · have q0 : ∀ (c : Int32 → Option (Int32 × zS)), zal s 209 0 c = c (s 209 0) := fun c => zal_n (j := 0) (by decide)
        rw [zf210_69, show zdn ([] : List zF4).length = zdn 0 from rfl, if_pos zdn_0, show zrf 179 38 = 209 from rfl, q0]
      · cases n <;> exact hS
    | cons fr st =>
      obtain ⟨a, b, l1, l2⟩ := fr
      have ho : zok4 A B ((a, b, l1, l2) :: st) := by
        rcases ho with q | q
        · cases q
        · exact q
      obtain ⟨ha, hb, _, _⟩ := zok4_t ho
      have hst : st.length ≤ 9 := by
        obtain ⟨dp, h1, h2⟩ := hdA
        have := zok4_d h1 st a b _ _ ho
        have := h2 a
        omega
      obtain ⟨k1, k2, ⟨i, j, k3, k4, k5, k6, k7, k8⟩, k9⟩ := hK
      subst k7
      subst k8
      obtain ⟨s1, a1, a2, a3, a4⟩ := zm213 hA hB hM ha hb (fun x y hx hy => hE x y (zkb_m.mp hx).2.1 (zkb_m.mp hy).2.1)
      obtain ⟨r, s2, b1, b2⟩ := zm219_33 (st := st) hA hB hdA ha hb n i j L s1 zfz k5 k6 ho hm hL (by rw [zfz_e]; omega) (zScM_f hS (fun p q w => a4.1 p (by omega) (by omega)) (a4.2 32 (by decide) (by decide))) ⟨a2, a3⟩
      have e219 : zf219 179 (nI st.length) s = some (r, s2) := by
        unfold zf219
        rw [show zrf 179 44 = 213 from rfl, show zrf 179 45 = 214 from rfl, show zrf 179 46 = 215 from rfl, show zrf 179 47 = 216 from rfl, zal_n (by show st.length < 16; omega), zal_n (by show st.length < 16; omega), k1, k2, a1, zbv_e, zal_n (by show st.length < 16; omega), zal_n (by show st.length < 16; omega), a4.1 215 (by decide) (by omega), a4.1 216 (by decide) (by omega), k3, k4]
        exact b1
      have Fg1 : zFg s s1 := ⟨fun p u w => a4.1 p u (by omega), fun f u v w => a4.2 f v w⟩
      rw [zf210_69, show zdn ((a, b, (zkb A a).drop i, (zkb B b).drop j) :: st).length = nI st.length from rfl, if_neg (zn_nn (by omega)), e219, zbi_e]
      rcases b2 with ⟨h0, n', L', h1, h2, h3, h4, h5, h6⟩ | ⟨h0, n', L', x, y, i', j', h1, h2, h3, h4, h5, h6, h7, h8, h9, h10, h11, h12, h13, h14, h15, h16, h17, h18, h19⟩
      · subst h0
        have F2 : zFg s s2 := zFg_t Fg1 (zF8_g h6)
        obtain ⟨s', c1, c2, c3⟩ := ih n' h2 st L' s2 f (by
          cases st with
          | nil => exact Or.inl rfl
          | cons g st => exact Or.inr ho.2.2.2.2.2.2) h3 h4 (by omega) (zSk4_f st (fun k hk => by
            rw [h6.1 213 (by decide) (by omega), h6.1 214 (by decide) (by omega), h6.1 215 (by decide) (by omega), h6.1 216 (by decide) (by omega), a4.1 213 (by decide) (by omega), a4.1 214 (by decide) (by omega), a4.1 215 (by decide) (by omega), a4.1 216 (by decide) (by omega)]
            exact ⟨rfl, rfl, rfl, rfl⟩) k9) h5 (zMm_f hM (fun p hp => F2.1 p (by omega) (by omega))) (fun x y hx hy v hv => by rw [F2.1 209 (by decide) (by omega)]; exact hE x y hx hy v hv)
        refine ⟨s', ?_, by rw [h1]; exact c2, zFg_t F2 c3⟩
        rw [if_pos rfl, zdn_m, c1, F2.1 209 (by decide) (by omega)]
      · subst h0
        have F2 : zFg s s2 := zFg_t Fg1 ⟨fun p u w => h18 p u (by omega), fun f u v w => h19 f u⟩
        obtain ⟨s', c1, c2, c3⟩ := ih n' h2 ((x, y, zkb A x, zkb B y) :: (a, b, (zkb A a).drop i', (zkb B b).drop j') :: st) L' s2 f (Or.inr h5) h3 h4 (by omega) (by
          refine ⟨h9, h10, ⟨0, 0, h11, h12, Nat.zero_le _, Nat.zero_le _, rfl, rfl⟩, ?_, ?_, ⟨i', j', h15, h16, h6, h7, rfl, rfl⟩, zSk4_f st (fun k hk => ?_) k9⟩
          · rw [h13, a4.1 213 (by decide) (by omega)]; exact k1
          · rw [h14, a4.1 214 (by decide) (by omega)]; exact k2
          · have := h17 k hk
            rw [this.1, this.2.1, this.2.2.1, this.2.2.2, a4.1 213 (by decide) (by omega), a4.1 214 (by decide) (by omega), a4.1 215 (by decide) (by omega), a4.1 216 (by decide) (by omega)]
            exact ⟨rfl, rfl, rfl, rfl⟩) h8 (zMm_f hM (fun p hp => F2.1 p (by omega) (by omega))) (fun x y hx hy v hv => by rw [F2.1 209 (by decide) (by omega)]; exact hE x y hx hy v hv)
        refine ⟨s', ?_, by rw [h1]; exact c2, zFg_t F2 c3⟩
        rw [if_neg (show ¬ (1 : Int32) = 0 by decide), zn_a1]
        rw [F2.1 209 (by decide) (by omega)] at c1
        exact c1
/-- compare of the model -/
theorem zm210 {s : zS} {A B : List zN} (hPA : zPm 0 s A) (hPB : zPm 1 s B) (hA : zSm A) (hB : zSm B) (hdA : zWd A) (hA0 : 0 < A.length) (hB0 : 0 < B.length) :
    ∃ s' v, zcc A B 0 0 = some v ∧ zf210 179 s = some (nI v, s') ∧ zScM s' (zscr A B) ∧ s' 179 31 = 1 ∧ s' 179 0 = 0 ∧ (∀ p, p ≠ 179 → p < 204 ∨ 216 < p → s' p = s p) ∧ ∀ f, f ≠ 0 → f ≠ 31 → f ≠ 32 → f ≠ 41 → f ≠ 42 → s' 179 f = s 179 f := by
  have hA4 := hA.2.1
  have hB4 := hB.2.1
  obtain ⟨s1, hs1⟩ : ∃ s1, s1 = zw s 179 0 0 := ⟨_, rfl⟩
  have f1 : ∀ p, p ≠ 179 → s1 p = s p := fun p hp => by rw [hs1, zw_ne hp]
  obtain ⟨s2, a1, a2, a3, a4⟩ := zm211 (i := 0) (by decide) (zPm_e hPA (fun p h1 h2 => f1 p (by omega))) hA
  obtain ⟨s3, b1, b2, b3, b4⟩ := zm211 (i := 1) (s := s2) (by decide) (zPm_e hPB (fun p h1 h2 => by rw [a3 p (by omega), f1 p (by omega)])) hB
  have M3 : zMm s3 A B := by
    refine ⟨zPm_e hPA (fun p h1 h2 => by rw [b3 p (by omega), a3 p (by omega), f1 p (by omega)]), zPm_e hPB (fun p h1 h2 => by rw [b3 p (by omega), a3 p (by omega), f1 p (by omega)]), fun n hn => ?_, fun n hn => b2 n hn⟩
    rw [b4 n (by omega)]
    have := a2 n hn
    rw [show 100 * 0 + n = n by omega] at this
    exact this
  obtain ⟨s4, c1, c2, c3, c4⟩ := zm212 hA hB M3
  obtain ⟨s5, hs5⟩ : ∃ s5, s5 = zw (zw s4 179 32 0) 179 31 1 := ⟨_, rfl⟩
  have f5 : ∀ p, p ≠ 179 → s5 p = s4 p := fun p hp => by rw [hs5, zw_ne hp, zw_ne hp]
  have M5 : zMm s5 A B := zMm_f M3 (fun p hp => by rw [f5 p (by omega), c3 p (by omega) (by omega)])
  have S5 : zScM s5 [] := ⟨by rw [hs5, zw_o (Or.inr (by decide)), zw_s]; rfl, by decide, fun k hk => absurd hk (Nat.not_lt_zero _)⟩
  obtain ⟨s6, d1, d2, d3, d4, d5, d6, d7, d8, d9⟩ := zm217 (t := 0) (i := 0) (j := 0) M5.1 M5.2.1 hA hB hA0 hB0 (by decide) S5 (by decide)
  rw [List.nil_append] at d2
  have hl : (zcs A B 0 0).length ≤ 1 := by
    unfold zcs
    split
    · exact Nat.zero_le _
    · exact Nat.le_refl _
  have m1 := zW1_0 hA.1 hA0
  have m2 := zW1_0 hB.1 hB0
  rw [zW1_e] at m1 m2
  have hmu : zmu A B [(0, 0, zkb A 0, zkb B 0)] ≤ 79 := by
    rw [zmu, zmu]
    omega
  have E6 : ∀ x y, x < A.length → y < B.length → zEm s6 A B x y := fun x y hx hy v hv => by rw [d8 209 (by decide) (by omega), f5 209 (by decide)]; exact c2 x y hx hy v hv
  obtain ⟨s7, e1, e2, e3⟩ := zm210_l hA hB hdA hA0 hB0 100 [(0, 0, zkb A 0, zkb B 0)] (zcs A B 0 0) s6 zfz (Or.inr ⟨rfl, rfl, hA0, hB0, ⟨_, rfl⟩, ⟨_, rfl⟩⟩) (by omega) (by omega) (by rw [zfz_e]; decide) ⟨d3, d4, ⟨0, 0, d5, d6, Nat.zero_le _, Nat.zero_le _, rfl, rfl⟩, trivial⟩ d2 (zMm_f M5 (fun p hp => d8 p (by omega) (by omega))) E6
  have hk0 : (zno A 0).1 = (zno B 0).1 := by
    rcases (hA.1 0 hA0).2.1 with ⟨_, _, w⟩ | ⟨x, w, _⟩
    · rcases (hB.1 0 hB0).2.1 with ⟨_, _, w'⟩ | ⟨x, w', _⟩
      · rw [w, w']
      · omega
    · omega
  have hcc : zcc A B 0 0 = some (zcg1 A B 0 0 + zRR A B (zkb A 0) (zkb B 0)) := by rw [zcc_e hA0, if_pos hk0]
  have k179 : ∀ f, f ≠ 32 → f ≠ 41 → f ≠ 42 → s7 179 f = s5 179 f := fun f u v w => by rw [e3.2 f u v w, d9 f u]
  refine ⟨s7, _, hcc, ?_, e2, ?_, ?_, fun p u w => ?_, fun f u v w x y => ?_⟩
  · have q0 : ∀ (c : Int32 → Option (Int32 × zS)), zal s 195 0 c = c (s 195 0) := fun c => zal_n (j := 0) (by decide)
    have q1 : ∀ (c : Int32 → Option (Int32 × zS)), zal s 195 1 c = c (s 195 1) := fun c => zal_n (j := 1) (by decide)
    have a1' : zf211 179 0 s1 = some s2 := a1
    have b1' : zf211 179 1 s2 = some s3 := b1
    have d1' : zf217 179 0 0 0 s5 = some s6 := d1
    have e1' : zf210_69 179 zfz 0 s6 = some (s6 209 0, s7) := e1
    unfold zf210
    rw [show zrf 179 22 = 195 from rfl, q0, hPA.1, if_neg (show ¬ nI A.length = 0 from fun q => by have := (zn_eq (a := A.length) (b := 0) (by omega) (by decide)).mp q; omega), q1, hPB.1, if_pos (show ¬ nI B.length = 0 from fun q => by have := (zn_eq (a := B.length) (b := 0) (by omega) (by decide)).mp q; omega)]
    unfold zf210_24
    rw [zpf_e, zgf_e, zw_s, if_pos (show (0 : Int32) ≤ 0 by decide), ← hs1, a1', zbv_e, b1', zbv_e, c1, zbv_e, zpf_e, zpb_1, ← hs5, d1', zbv_e, e1', show s6 209 0 = _ from E6 0 0 hA0 hB0 _ hcc]
  · rw [k179 31 (by decide) (by decide) (by decide), hs5, zw_s]
  · rw [k179 0 (by decide) (by decide) (by decide), hs5, zw_o (Or.inr (by decide)), zw_o (Or.inr (by decide)), c4 0 (by decide) (by decide), b3 179 (by decide), a3 179 (by decide), hs1, zw_s]
  · rw [e3.1 p u (by omega), d8 p u (by omega), f5 p u, c3 p u (by omega), b3 p (by omega), a3 p (by omega), f1 p u]
  · rw [k179 f w x y, hs5, zw_o (Or.inr v), zw_o (Or.inr w), c4 f x y, b3 179 (by decide), a3 179 (by decide), hs1, zw_o (Or.inr u)]
