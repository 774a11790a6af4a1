/-! read, the text's faults on the model's side. -/
set_option maxRecDepth 100000
set_option linter.unusedVariables false
/-- what telling the text's faults may change -/
def zFt (s s' : zS) : Prop := (∀ q, q ≠ 179 → q < 181 ∨ 191 < q → s' q = s q) ∧ ∀ f, f ≠ 3 → f < 15 ∨ 18 < f → s' 179 f = s 179 f
theorem zFt_t {s s1 s2 : zS} (h1 : zFt s s1) (h2 : zFt s1 s2) : zFt s s2 := ⟨fun q a b => (h2.1 q a b).trans (h1.1 q a b), fun f a b => (h2.2 f a b).trans (h1.2 f a b)⟩
theorem zFt_z {p : Nat} {s s' : zS} (h : zFz p s s') : zFt s s' := ⟨fun q a b => h.1 q a (by omega), fun f a b => h.2.1 f b⟩
theorem zFt_u {p : Nat} {s s' : zS} (h : zFu p s s') : zFt s s' := ⟨fun q a b => h.1 q (by omega) (by omega), fun f a b => by rw [h.1 179 (by decide) (by decide)]⟩
theorem zFt_3 {x : Int32} {s : zS} : zFt s (zw s 179 3 x) := ⟨fun q a b => zw_ne a, fun f a b => zw_o (Or.inr a)⟩
theorem zFt_o {s s' : zS} (h : ∀ q, q ≠ 181 → q ≠ 182 → q ≠ 183 → s' q = s q) : zFt s s' := ⟨fun q a b => h q (by omega) (by omega) (by omega), fun f a b => by rw [h 179 (by decide) (by decide) (by decide)]⟩
theorem zMtx_t {s s' : zS} {T : List Int32} (h : zFt s s') (hM : zMtx s T) : zMtx s' T := by
  unfold zMtx
  rw [h.2 2 (by decide) (by decide), h.1 180 (by decide) (by decide)]
  exact hM
theorem z158 {x y : Int32} {s : zS} : zf158 179 x y s = some (x, zw s 179 3 y) := rfl
theorem znn {f : Nat} (h : f < 2147483648) : ¬ nI f < 0 := zn_nn h
theorem zup_b {T : List Int32} {b : Bool} {e : Nat} : ∀ m at' C f, zup T b e m at' C = .inl f → f < e := by
  intro m
  induction m with
  | zero => intro at' C0 f h; cases h
  | succ m ih =>
    intro at' C0 f h
    rw [zup] at h
    split at h
    · cases h
    · split at h
      · split at h
        · cases h; omega
        · split at h
          · exact ih _ _ _ h
          · cases h; omega
      · split at h
        · exact ih _ _ _ h
        · cases h; omega
theorem zm159 {p d c : Nat} {b : Bool} {s : zS} {T : List Int32} (hp : p < 2) (h : zMtx s T) (hL : zLt T) (h1 : s 181 p = (if b = true then 1 else 0)) (h2 : s 182 p = nI d) (h3 : s 183 p = nI c) (hdc : d + c + 4 ≤ T.length) (hx : ∀ k, k < 4 → zhx (T.getD (d + c + k) (-1)) = true) :
    (∀ f, zup T b (d + c) (d + c) d [] = .inl f → ∃ s' s'', zf159 179 (nI p) s = some (2, s') ∧ s' = zw s'' 179 3 (nI f) ∧ zFu p s s'') ∧
    (∀ C, zup T b (d + c) (d + c) d [] = .inr C → (zcO T (d + c) (zcr 65535 C) = true → ∃ s', zf159 179 (nI p) s = some (0, s') ∧ zFu p s s' ∧ zMs p s' C) ∧ (zcO T (d + c) (zcr 65535 C) = false → ∃ s' s'', zf159 179 (nI p) s = some (3, s') ∧ s' = zw s'' 179 3 (nI (d + c)) ∧ zFu p s s'')) := by
  have hT := h.2.1
  obtain ⟨u1, u2⟩ := zm160 hp h h1 h2 h3 (by omega)
  refine ⟨fun f hf => ?_, fun C hC => ?_⟩
  · obtain ⟨s1, v1, v2⟩ := u1 f hf
    have hf2 := zup_b _ _ _ _ hf
    refine ⟨_, s1, ?_, rfl, v2⟩
    unfold zf159
    rw [v1, zbi_e, if_neg (znn (by omega)), z158]
    rfl
  · obtain ⟨s1, v1, v2, v3, v4⟩ := u2 C hC
    obtain ⟨l1, l2⟩ := zup_lt (b := b) hL (by omega : d + c ≤ T.length) (d + c) d [] C (fun c hc => absurd hc List.not_mem_nil) hC
    have hM1 : zMtx s1 T := zMtx_fr (v2.1 179 (by decide) (by decide)) (v2.1 180 (by decide) (by decide)) h
    have a2 : s1 182 p = nI d := by rw [v2.1 182 (by decide) (by decide)]; exact h2
    have a3 : s1 183 p = nI c := by rw [v2.1 183 (by decide) (by decide)]; exact h3
    have e162 := zm162 hp hM1 v3 v4 l1 a2 a3 hdc hx
    have e0 : zf159 179 (nI p) s = if zcO T (d + c) (zcr 65535 C) = true then some (0, s1) else some (3, zw s1 179 3 (nI (d + c))) := by
      unfold zf159
      rw [v1, zbi_e, if_pos (by decide), e162, zbi_e, zb_if0, show zrf 179 5 = 182 from rfl, show zrf 179 6 = 183 from rfl, zal_n (by show p < 2; omega), zal_n (by show p < 2; omega), a2, a3, zn_add, z158]
      rfl
    rw [e0]
    refine ⟨fun g => ?_, fun g => ?_⟩
    · rw [if_pos g]
      exact ⟨s1, rfl, v2, v3, v4⟩
    · rw [if_neg (by rw [g]; decide)]
      exact ⟨_, s1, rfl, rfl, v2⟩
theorem zm153 {s : zS} {T : List Int32} (h : zMtx s T) (hL : zLt T) :
    (∀ k p, ztf T = .inl (k, p) → ∃ s', zf153 179 s = some (nI k, s') ∧ s' 179 3 = nI p ∧ zFt s s') ∧
    (∀ C C' X X', ztf T = .inr (C, C', X, X') → ∃ s', zf153 179 s = some (0, s') ∧ zFt s s' ∧ s' 179 3 = s 179 3 ∧ zMs 0 s' C ∧ zMs 1 s' C' ∧ zMz 0 s' X.1 X.2 ∧ zMz 1 s' X'.1 X'.2) := by
  have hT2 := h.2.1
  obtain ⟨M, hz⟩ : ∃ M, zfz = M + 10 := ⟨9990, zfz_e⟩
  obtain ⟨a1, a2⟩ := zm154a h
  -- a fault that there is
  have ex : ∀ (k : Nat) (j : Int32) (t : zS) (n : Nat), k ≠ 0 → k < 100 → zf153_38 179 (n + 1) (nI k) j t = some (nI k, t) := by
    intro k j t n h1 h2
    rw [zf153_38]
    by_cases g : (2 : Int32) ≤ j
    · rw [if_pos g]
    · rw [if_neg g, if_pos (show ¬ nI k = 0 from fun q => h1 ((zn_eqL (k := 0) (by omega) (by decide)).mp q))]
  unfold ztf
  cases ho : zol T with
  | inl p =>
    obtain ⟨s1, b1, b2⟩ := a1 p ho
    have hp := zol_p ho hT2
    refine ⟨fun k q hh => ?_, fun _ _ _ _ hh => (by cases hh)⟩
    cases hh
    refine ⟨zw s1 179 3 (nI p), ?_, zw_s, zFt_t (zFt_o b2) zFt_3⟩
    unfold zf153
    rw [b1, zbi_e, if_neg (znn (by omega)), z158]
    rfl
  | inr x =>
    obtain ⟨b, c, b', c'⟩ := x
    obtain ⟨s1, b1, b2, c1, c2, c3, d1, d2, d3⟩ := a2 b c b' c' ho
    have hsc : (5 + c + 4 ≤ T.length ∧ ∀ k, k < 4 → zhx (T.getD (5 + c + k) (-1)) = true) ∧ (5 + c + 4 + 5 + c' + 4 ≤ T.length ∧ ∀ k, k < 4 → zhx (T.getD (5 + c + 4 + 5 + c' + k) (-1)) = true) := by
      unfold zol at ho
      split at ho
      · cases ho
      · next b0 c0 e1 =>
        split at ho
        · cases ho
        · next b1' c1' e2 =>
          split at ho
          · cases ho
          · cases ho
            have g1 := zsc_c e1
            have g2 := zsc_c e2
            rw [Nat.zero_add] at g1
            exact ⟨⟨g1.2.1, g1.2.2⟩, ⟨g2.2.1, g2.2.2⟩⟩
    obtain ⟨⟨hl1, hx1⟩, hl2, hx2⟩ := hsc
    have t1 : zFt s s1 := zFt_o b2
    have m1 : zMtx s1 T := zMtx_t t1 h
    have e0 : zf153 179 s = zbi (zf159 179 (nI 0) s1) fun v3 s4 => if ¬ v3 = 0 then zf153_38 179 zfz v3 0 s4 else zbi (zf159 179 (nI 1) s4) fun v5 s6 => zf153_38 179 zfz v5 0 s6 := by
      unfold zf153
      rw [b1, zbi_e, if_pos (by decide)]
      rfl
    rw [e0]
    obtain ⟨u1, u2⟩ := zm159 (p := 0) (by decide) m1 hL c1 c2 c3 hl1 hx1
    have ifz : ∀ (k : Nat) (A B : Option (Int32 × zS)), k ≠ 0 → k < 100 → (if ¬ nI k = 0 then A else B) = A := fun k A B h1 h2 => if_pos (fun q => h1 ((zn_eqL (k := 0) (by omega) (by decide)).mp q))
    simp only
    cases hu : zup T b (5 + c) (5 + c) 5 [] with
    | inl f =>
      obtain ⟨s3, s3', v1, v2, v3⟩ := u1 f hu
      refine ⟨fun k q hh => ?_, fun _ _ _ _ hh => (by cases hh)⟩
      cases hh
      refine ⟨s3, ?_, by rw [v2, zw_s], ?_⟩
      · rw [v1, zbi_e, hz]
        exact (ifz 2 _ _ (by decide) (by decide)).trans (ex 2 0 s3 _ (by decide) (by decide))
      · rw [v2]
        exact zFt_t t1 (zFt_t (zFt_u v3) zFt_3)
    | inr C =>
      obtain ⟨u3, u4⟩ := u2 C hu
      simp only
      cases hk : zcO T (5 + c) (zcr 65535 C) with
      | false =>
        obtain ⟨s3, s3', v1, v2, v3⟩ := u4 hk
        rw [if_neg (by decide)]
        refine ⟨fun k q hh => ?_, fun _ _ _ _ hh => (by cases hh)⟩
        cases hh
        refine ⟨s3, ?_, by rw [v2, zw_s], ?_⟩
        · rw [v1, zbi_e, hz]
          exact (ifz 3 _ _ (by decide) (by decide)).trans (ex 3 0 s3 _ (by decide) (by decide))
        · rw [v2]
          exact zFt_t t1 (zFt_t (zFt_u v3) zFt_3)
      | true =>
        rw [if_pos rfl]
        obtain ⟨s3, v1, v2, v3⟩ := u3 hk
        have t3 : zFt s s3 := zFt_t t1 (zFt_u v2)
        have m3 : zMtx s3 T := zMtx_t (zFt_u v2) m1
        rw [v1, zbi_e, if_neg (show ¬ ¬ (0 : Int32) = 0 from fun q => q rfl)]
        obtain ⟨w1, w2⟩ := zm159 (p := 1) (b := b') (d := 5 + c + 4 + 5) (c := c') (by decide) m3 hL (by rw [v2.1 181 (by decide) (by decide)]; exact d1) (by rw [v2.1 182 (by decide) (by decide)]; exact d2) (by rw [v2.1 183 (by decide) (by decide)]; exact d3) hl2 hx2
        cases hu' : zup T b' (5 + c + 4 + 5 + c') (5 + c + 4 + 5 + c') (5 + c + 4 + 5) [] with
        | inl f =>
          obtain ⟨s4, s4', x1, x2, x3⟩ := w1 f hu'
          refine ⟨fun k q hh => ?_, fun _ _ _ _ hh => (by cases hh)⟩
          cases hh
          refine ⟨s4, ?_, by rw [x2, zw_s], ?_⟩
          · rw [x1, zbi_e, hz]
            exact ex 2 0 s4 _ (by decide) (by decide)
          · rw [x2]
            exact zFt_t t3 (zFt_t (zFt_u x3) zFt_3)
        | inr C' =>
          obtain ⟨w3, w4⟩ := w2 C' hu'
          simp only
          cases hk' : zcO T (5 + c + 4 + 5 + c') (zcr 65535 C') with
          | false =>
            obtain ⟨s4, s4', x1, x2, x3⟩ := w4 hk'
            rw [if_neg (by decide)]
            refine ⟨fun k q hh => ?_, fun _ _ _ _ hh => (by cases hh)⟩
            cases hh
            refine ⟨s4, ?_, by rw [x2, zw_s], ?_⟩
            · rw [x1, zbi_e, hz]
              exact ex 3 0 s4 _ (by decide) (by decide)
            · rw [x2]
              exact zFt_t t3 (zFt_t (zFt_u x3) zFt_3)
          | true =>
            rw [if_pos rfl]
            obtain ⟨s4, x1, x2, x3⟩ := w3 hk'
            have t4 : zFt s s4 := zFt_t t3 (zFt_u x2)
            have ms0 : zMs 0 s4 C := by
              refine ⟨⟨v3.1.1, fun j hj => ?_⟩, ?_⟩
              · have := v3.1.1
                rw [x2.2.1 (300 * 0 + j) (Or.inl (by omega))]
                exact v3.1.2 j hj
              · rw [x2.2.2 0 (by decide)]
                exact v3.2
            rw [x1, zbi_e, hz]
            -- the scans
            have st : ∀ (j : Nat) (t : zS) (n : Nat), j < 2 → zf153_38 179 (n + 1) 0 (nI j) t = zbi (zf164 179 (nI j) t) fun v1 s2 => if v1 < 0 then zf153_38 179 n 0 (nI (j + 1)) s2 else zbi (zf158 179 4 ((1000 * nI j) + v1) s2) fun v3 s4 => zf153_38 179 n v3 (nI (j + 1)) s4 := by
              intro j t n hj
              rw [zf153_38, if_neg (fun q => by have := (zn_geL (k := 2) (by omega) (by decide)).mp q; omega), if_neg (show ¬ ¬ (0 : Int32) = 0 from fun q => q rfl), zn_a1]
            have e38 : zf153_38 179 (M + 10) 0 0 s4 = zf153_38 179 (M + 10) 0 (nI 0) s4 := rfl
            rw [e38, st 0 s4 _ (by decide)]
            obtain ⟨y1, y2⟩ := zm164 (p := 0) (by decide) ms0
            cases hp1 : zpar C 400 0 [] [] [] with
            | inl f =>
              obtain ⟨s5, z1, z2⟩ := y1 f hp1
              have hf := zpar_b _ _ _ _ _ _ (Nat.zero_le _) hp1
              have hc3 := v3.1.1
              refine ⟨fun k q hh => ?_, fun _ _ _ _ hh => (by cases hh)⟩
              cases hh
              refine ⟨zw s5 179 3 (nI f), ?_, zw_s, zFt_t t4 (zFt_t (zFt_z z2) zFt_3)⟩
              rw [z1, zbi_e, if_neg (znn (by omega)), zn_lit 1000, zn_mul, zn_add, z158, zbi_e, show 1000 * 0 + f = f by omega]
              exact ex 4 _ _ _ (by decide) (by decide)
            | inr X =>
              obtain ⟨s5, z1, z2, z3⟩ := y2 X.1 X.2 hp1
              have ms1 : zMs 1 s5 C' := zMs_z z2 x3
              have ms0' : zMs 0 s5 C := zMs_z z2 ms0
              rw [z1, zbi_e, if_pos (by decide), st 1 s5 _ (by decide)]
              obtain ⟨y3, y4⟩ := zm164 (p := 1) (by decide) ms1
              simp only
              cases hp2 : zpar C' 400 0 [] [] [] with
              | inl f =>
                obtain ⟨s6, q1, q2⟩ := y3 f hp2
                have hf := zpar_b _ _ _ _ _ _ (Nat.zero_le _) hp2
                have hc3 := x3.1.1
                refine ⟨fun k q hh => ?_, fun _ _ _ _ hh => (by cases hh)⟩
                cases hh
                refine ⟨zw s6 179 3 (nI (1000 + f)), ?_, zw_s, zFt_t t4 (zFt_t (zFt_z z2) (zFt_t (zFt_z q2) zFt_3))⟩
                rw [q1, zbi_e, if_neg (znn (by omega)), zn_lit 1000, zn_mul, zn_add, z158, zbi_e]
                exact ex 4 _ _ _ (by decide) (by decide)
              | inr X' =>
                obtain ⟨s6, q1, q2, q3⟩ := y4 X'.1 X'.2 hp2
                refine ⟨fun k q hh => (by cases hh), fun C1 C1' X1 X1' hh => ?_⟩
                cases hh
                refine ⟨s6, ?_, zFt_t t4 (zFt_t (zFt_z z2) (zFt_z q2)), ?_, zMs_z q2 ms0', zMs_z q2 ms1, ?_, q3⟩
                · rw [q1, zbi_e, if_pos (by decide), zf153_38, if_pos (by decide)]
                · rw [q2.2.1 3 (by decide), z2.2.1 3 (by decide), x2.1 179 (by decide) (by decide), v2.1 179 (by decide) (by decide), b2 179 (by decide) (by decide) (by decide)]
                · refine ⟨⟨?_, z3.1.2.1, fun e he => ?_⟩, fun j hj => ?_⟩
                  · rw [q2.2.2.1 0 (by decide)]
                    exact z3.1.1
                  · have := z3.1.2.1
                    rw [q2.2.2.2.1 187 (by decide) (by decide) (30 * 0 + e) (Or.inl (by omega)), q2.2.2.2.1 188 (by decide) (by decide) (30 * 0 + e) (Or.inl (by omega)), q2.2.2.2.1 189 (by decide) (by decide) (30 * 0 + e) (Or.inl (by omega))]
                    exact z3.1.2.2 e he
                  · rw [q2.2.2.2.2 (300 * 0 + j) (Or.inl (by omega))]
                    exact z3.2 j hj
