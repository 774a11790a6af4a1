/-! read, the package: both sides alike. -/
set_option maxRecDepth 100000
set_option linter.unusedVariables false
theorem zRow_fr {r : Nat} {s s' : zS} {T : List Int32} (h1 : s' r = s r) (h2 : s' (zrf r 0) = s (zrf r 0)) (h : zRow r s T) : zRow r s' T := by
  unfold zRow
  rw [h1, h2]
  exact h
theorem zMtx_fr {s s' : zS} {T : List Int32} (h1 : s' 179 = s 179) (h2 : s' 180 = s 180) (h : zMtx s T) : zMtx s' T := by
  unfold zMtx
  rw [h1, h2]
  exact h
/-- a part of the class's reader: packed, where its data and its check begin -/
def zPt (s : zS) (a : Nat) (b : Bool) (d e : Nat) : Prop := s a 2 = (if b = true then 1 else 0) ∧ s a 3 = nI d ∧ s a 4 = nI e
def zNm (s : zS) : Prop := s 37 0 = 83 ∧ s 40 0 = 67
theorem zsc_p {T : List Int32} {N : Int32} {f p : Nat} (h : zsc T N f = .inl p) : p ≤ f + 4 ∨ p ≤ T.length + 3 := by
  unfold zsc at h
  split at h
  · split at h
    · split at h
      · split at h
        · split at h
          · simp only at h
            split at h
            · split at h
              · split at h
                · split at h
                  · split at h
                    · cases h
                    · cases h; omega
                  · cases h; omega
                · cases h; omega
              · cases h; omega
            · cases h; omega
          · cases h; omega
        · cases h; omega
      · cases h; omega
    · cases h; omega
  · cases h; omega
theorem zol_p {T : List Int32} {p : Nat} (h : zol T = .inl p) (hT : T.length ≤ 480) : p ≤ 3000 := by
  unfold zol at h
  split at h
  · next q e =>
    cases h
    have := zsc_p e
    omega
  · next b c e =>
    have h1 := zsc_c e
    split at h
    · next q e2 =>
      cases h
      have := zsc_p e2
      omega
    · next b' c' e2 =>
      have h2 := zsc_c e2
      split at h
      · cases h; omega
      · cases h
theorem zs27 {s : zS} {T : List Int32} (h : zRow 1 s T) (hN : zNm s) (hT : T.length ≤ 480) :
    (∀ p, zol T = .inl p → ∃ s', zf27 28 1 s = some (nI p, s') ∧ zNm s') ∧
    (∀ b c b' c', zol T = .inr (b, c, b', c') → ∃ s', zf27 28 1 s = some (-1, s') ∧ zNm s' ∧ zPt s' 37 b 5 (5 + c) ∧ zPt s' 40 b' (5 + c + 4 + 5) (5 + c + 4 + 5 + c')) := by
  obtain ⟨a1, a2⟩ := zs28 (a0 := 37) (f := 0) h (by decide) (by decide)
  rw [hN.1] at a1 a2
  have z0 : ∀ s, zf28 37 1 0 s = zf28 37 1 (nI 0) s := fun _ => rfl
  unfold zol zf27
  rw [show zrf 28 2 = 37 from rfl, show zrf 28 3 = 40 from rfl, z0]
  cases e1 : zsc T 83 0 with
  | inl p =>
    obtain ⟨s1, b1, b2⟩ := a1 p e1
    have k40 : s1 40 = s 40 := zf28_fr (q := 40) (by rfl) b1
    refine ⟨fun p' hp => ?_, fun b c b' c' hc => (by cases hc)⟩
    cases hp
    refine ⟨s1, ?_, b2, by rw [k40]; exact hN.2⟩
    have hp2 : p < 2147483648 := by
      have := zsc_p e1
      omega
    rw [b1]
    simp only [zbi]
    rw [if_pos (zn_nm hp2)]
    unfold zf27_31
    rw [if_pos (zn_nm hp2)]
  | inr bc =>
    obtain ⟨b, c⟩ := bc
    obtain ⟨s1, b1, b2, b3, b4, b5⟩ := a2 b c e1
    have h1 := zsc_c e1
    have k1 : s1 1 = s 1 := zf28_fr (q := 1) (by rfl) b1
    have k2 : s1 2 = s 2 := zf28_fr (q := 2) (by rfl) b1
    have k40 : s1 40 = s 40 := zf28_fr (q := 40) (by rfl) b1
    have hr1 : zRow 1 s1 T := zRow_fr k1 k2 h
    obtain ⟨c1, c2⟩ := zs28 (a0 := 40) (f := 5 + c + 4) hr1 (by decide) (by omega)
    have n40 : s1 40 0 = 67 := by rw [k40]; exact hN.2
    rw [n40] at c1 c2
    have e32 : ∀ t : zS, zf32 37 t = some (t 37 4 + 4, t) := fun _ => rfl
    have e32b : ∀ t : zS, zf32 40 t = some (t 40 4 + 4, t) := fun _ => rfl
    have v3 : s1 37 4 + 4 = nI (5 + c + 4) := by
      rw [b5, zn_lit 4, zn_add, Nat.zero_add]
    rw [b1]
    simp only [zbi]
    rw [if_neg (fun q => q trivial), e32]
    simp only
    rw [v3]
    cases e2 : zsc T 67 (5 + c + 4) with
    | inl p =>
      obtain ⟨s2, d1, d2⟩ := c1 p e2
      have l37 : s2 37 = s1 37 := zf28_fr (q := 37) (by rfl) d1
      refine ⟨fun p' hp => ?_, fun b c b' c' hc => (by cases hc)⟩
      cases hp
      have hp2 : p < 2147483648 := by
        have := zsc_p e2
        omega
      refine ⟨s2, ?_, by rw [l37, b2], d2⟩
      rw [d1]
      simp only
      unfold zf27_31
      rw [if_pos (zn_nm hp2)]
    | inr bc =>
      obtain ⟨b', c'⟩ := bc
      obtain ⟨s2, d1, d2, d3, d4, d5⟩ := c2 b' c' e2
      have h2 := zsc_c e2
      have l37 : s2 37 = s1 37 := zf28_fr (q := 37) (by rfl) d1
      have l1 : s2 1 = s1 1 := zf28_fr (q := 1) (by rfl) d1
      have g1 : s2 1 1 = nI T.length := by rw [l1, k1]; exact h.1
      have v4 : s2 40 4 + 4 = nI (5 + c + 4 + 5 + c' + 4) := by
        rw [d5, zn_lit 4, zn_add]
      have e3 : ∀ x, zf27_31 28 1 (-1) s2 = x ↔ (if 5 + c + 4 + 5 + c' + 4 < T.length then some (nI (5 + c + 4 + 5 + c' + 4), s2) else some (-1, s2)) = x := by
        intro x
        unfold zf27_31
        rw [if_neg (fun q => q rfl), show zrf 28 3 = 40 from rfl, e32b]
        simp only [zbi, zgf]
        rw [v4, g1, e32b]
        simp only
        rw [v4]
        by_cases e : 5 + c + 4 + 5 + c' + 4 < T.length
        · rw [if_pos e, if_neg (fun q => by have := (zn_le (by omega) (by omega)).mp q; omega)]
        · rw [if_neg e, if_pos ((zn_le (by omega) (by omega)).mpr (by omega))]
      rw [d1]
      simp only [e3]
      have hNs : zNm s2 := ⟨by rw [l37, b2], d2⟩
      by_cases e : 5 + c + 4 + 5 + c' + 4 < T.length
      · rw [if_pos e, if_pos e]
        refine ⟨fun p' hp => ?_, fun b c b' c' hc => (by cases hc)⟩
        cases hp
        exact ⟨s2, rfl, hNs⟩
      · rw [if_neg e, if_neg e]
        refine ⟨fun p' hp => (by cases hp), fun b2 c2 b3' c3 hc => ?_⟩
        cases hc
        refine ⟨s2, rfl, hNs, ⟨by rw [l37]; exact b3, by rw [l37, b4], by rw [l37, b5]⟩, d3, d4, d5⟩
theorem zm154a {s : zS} {T : List Int32} (h : zMtx s T) :
    (∀ p, zol T = .inl p → ∃ s', zf154 179 s = some (nI p, s') ∧ ∀ q, q ≠ 181 → q ≠ 182 → q ≠ 183 → s' q = s q) ∧
    (∀ b c b' c', zol T = .inr (b, c, b', c') → ∃ s', zf154 179 s = some (-1, s') ∧ (∀ q, q ≠ 181 → q ≠ 182 → q ≠ 183 → s' q = s q) ∧ s' 181 0 = (if b = true then 1 else 0) ∧ s' 182 0 = nI 5 ∧ s' 183 0 = nI c ∧ s' 181 1 = (if b' = true then 1 else 0) ∧ s' 182 1 = nI (5 + c + 4 + 5) ∧ s' 183 1 = nI c') := by
  have hT := h.2.1
  obtain ⟨M, hz⟩ : ∃ M, zfz = M + 10 := ⟨9990, zfz_e⟩
  have e0 : zf154 179 s = zf154_4 179 (M + 10) (nI 0) (nI 0) s := by
    unfold zf154
    rw [hz]
    rfl
  have e1 : zf154_4 179 (M + 10) (nI 0) (nI 0) s = zf154_25 179 (zf154_4 179 (M + 9)) (nI 0) (nI 0) 83 (T.getD 0 (-1)) s := by
    rw [zf154_4, if_neg (by decide), z155 h (by decide)]
    simp only [zbi]
    rw [if_neg (fun q => q rfl)]
  have e2 : ∀ f (t : zS), zMtx t T → f < 2000 → zf154_4 179 (M + 9) (nI f) (nI 1) t = zf154_25 179 (zf154_4 179 (M + 8)) (nI f) (nI 1) 67 (T.getD f (-1)) t := by
    intro f t ht hf
    rw [zf154_4, if_neg (by decide), z155 ht (by omega)]
    simp only [zbi]
    rw [if_pos (by decide)]
  have e3 : ∀ f (t : zS), zMtx t T → f < 4000 → zf154_4 179 (M + 8) (nI f) (nI 2) t = if f < T.length then some (nI f, t) else some (-1, t) := by
    intro f t ht hf
    rw [zf154_4, if_pos (by decide)]
    simp only [zgf, ht.1]
    by_cases e : f < T.length
    · rw [if_pos e, if_neg (fun q => by have := (zn_le (by omega) (by omega)).mp q; omega)]
    · rw [if_neg e, if_pos ((zn_le (by omega) (by omega)).mpr (by omega))]
  rw [e0, e1]
  obtain ⟨a1, a2⟩ := zm154 (k4 := zf154_4 179 (M + 9)) (f := 0) (p := 0) (N := 83) h (by decide) (by decide)
  unfold zol
  cases g1 : zsc T 83 0 with
  | inl p =>
    obtain ⟨s1, b1, b2⟩ := a1 p g1
    refine ⟨fun p' hp => ?_, fun b c b' c' hc => (by cases hc)⟩
    cases hp
    exact ⟨s1, b1, b2⟩
  | inr bc =>
    obtain ⟨b, c⟩ := bc
    obtain ⟨s1, b1, b2, b3, b4, b5, b6⟩ := a2 b c g1
    have h1 := zsc_c g1
    have hm1 : zMtx s1 T := zMtx_fr (b5 179 (by decide) (by decide) (by decide)) (b5 180 (by decide) (by decide) (by decide)) h
    have q1 : nI (0 + 5 + c + 4) = nI (5 + c + 4) := congrArg nI (by omega)
    rw [q1] at b1
    rw [b1, e2 _ _ hm1 (by omega)]
    obtain ⟨c1, c2⟩ := zm154 (k4 := zf154_4 179 (M + 8)) (f := 5 + c + 4) (p := 1) (N := 67) hm1 (by decide) (by omega)
    cases g2 : zsc T 67 (5 + c + 4) with
    | inl p =>
      obtain ⟨s2, d1, d2⟩ := c1 p g2
      simp only [g2]
      refine ⟨fun p' hp => ?_, fun b c b' c' hc => (by cases hc)⟩
      cases hp
      exact ⟨s2, d1, fun q w1 w2 w3 => (d2 q w1 w2 w3).trans (b5 q w1 w2 w3)⟩
    | inr bc =>
      obtain ⟨b', c'⟩ := bc
      obtain ⟨s2, d1, d2, d3, d4, d5, d6⟩ := c2 b' c' g2
      have h2 := zsc_c g2
      have hm2 : zMtx s2 T := zMtx_fr (d5 179 (by decide) (by decide) (by decide)) (d5 180 (by decide) (by decide) (by decide)) hm1
      rw [d1, e3 _ _ hm2 (by omega)]
      have fr : ∀ q, q ≠ 181 → q ≠ 182 → q ≠ 183 → s2 q = s q := fun q w1 w2 w3 => (d5 q w1 w2 w3).trans (b5 q w1 w2 w3)
      simp only [g2]
      by_cases e : 5 + c + 4 + 5 + c' + 4 < T.length
      · rw [if_pos e, if_pos e]
        refine ⟨fun p' hp => ?_, fun b c b' c' hc => (by cases hc)⟩
        cases hp
        exact ⟨s2, rfl, fr⟩
      · rw [if_neg e, if_neg e]
        refine ⟨fun p' hp => (by cases hp), fun b2' c2' b3' c3' hc => ?_⟩
        cases hc
        refine ⟨s2, rfl, fr, by rw [d6 181 0 (by decide), b2], by rw [d6 182 0 (by decide), b3], by rw [d6 183 0 (by decide), b4], d2, d3, d4⟩
