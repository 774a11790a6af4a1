/-! read, both sides together. -/
set_option maxRecDepth 100000
set_option linter.unusedVariables false
theorem zf6_b2 {C : List Int32} {E : List zE} {C' : List Int32} {F : List zE} {S : Nat → Option Nat} (hne : E ≠ []) (h : zf6 C E C' F = .inr S) : zSb E S := by
  have hpos : 0 < E.length := List.length_pos_iff.mpr hne
  unfold zf6 at h
  split at h
  · cases h
  · next S' g =>
    have hS : S' = S := by
      split at h
      · cases h
      · split at h
        · cases h
        · split at h
          · cases h
          · cases h; rfl
    subst hS
    intro n e hn
    rcases (zn1_S _ _ _ _ g).2.1 n e hn with w | w
    · cases w
    · omega
theorem zrd_w {T : List Int32} {D : List zN} (hb : ∀ C C' X X', ztf T = .inr (C, C', X, X') → zEb X.1 ∧ zEb X'.1 ∧ C.length ≤ 300 ∧ C'.length ≤ 300 ∧ zLt C') (h : zrd T = .inr D) : zWf D ∧ zWd D := by
  unfold zrd at h
  cases ht : ztf T with
  | inl f => rw [ht] at h; cases h
  | inr R =>
    obtain ⟨C, C', ⟨E, O⟩, ⟨F, O'⟩⟩ := R
    obtain ⟨c1, c2, c3, c4, c5⟩ := hb _ _ _ _ ht
    obtain ⟨hp, hp'⟩ := ztf_p ht
    rw [ht] at h
    dsimp only at h c1 c2
    cases hf : zff C E O 116 E.length 0 with
    | some f => rw [hf] at h; cases h
    | none =>
      rw [hf] at h
      dsimp only at h
      cases hf' : zff C' F O' 100 F.length 0 with
      | some f => rw [hf'] at h; cases h
      | none =>
        rw [hf'] at h
        dsimp only at h
        cases h6 : zf6 C E C' F with
        | inl f => rw [h6] at h; cases h
        | inr S =>
          rw [h6] at h
          dsimp only at h
          split at h
          · cases h
            obtain ⟨⟨g11, g12, g13, g14, g15, g16, g17, g18⟩, g21, g22, g23, g24, g25, g26, g27, g28, g29, g210, g211, g212, g213⟩ := zGe_of c3 c4 c1 c2 hp hp' hf hf'
            have hSb := zf6_b2 g14 h6
            obtain ⟨dF, hd⟩ := zpar_dp c4 400 0 [] [] [] F O' (fun _ => 0) (fun e he => absurd he (Nat.not_lt_zero _)) (by decide) (fun e he => absurd he List.not_mem_nil) (fun _ => rfl) (by decide) (fun e he => absurd he (Nat.not_lt_zero _)) trivial hp'
            have hw0 : zWi F dF 0 ([], fun _ => none) := ⟨fun e he => absurd he (Nat.not_lt_zero _), fun _ => rfl, fun q => absurd q (Nat.lt_irrefl _), fun j hj => absurd hj (Nat.not_lt_zero _), fun _ => 0, fun j a q => absurd (zab_lt q) (Nat.not_lt_zero _), fun _ => Nat.zero_le _, fun e n he => absurd he (Nat.not_lt_zero _)⟩
            obtain ⟨nx, w1, w2, w3, w4, dp, w5, w6, w7⟩ := zbl_w (LO := fun e => zpk (zLo C E S C' F e)) (fun e => ⟨_, zLo_g g13 hSb e, rfl⟩) c5 g26 g27 g28 g29 g22.1 g25 hd C'.length 0 0 ([], fun _ => none) (Nat.zero_le _) (fun e he => absurd he (Nat.not_lt_zero _)) (fun e _ _ => Nat.zero_le _) hw0
            exact ⟨w4, dp, w5, w6⟩
          · cases h
/-- paper q and document i are D -/
def zDo (q i : Nat) (s : zS) (D : List zN) : Prop := zPc q s D ∧ zPm i s D ∧ zWf D
theorem zDo_f {q i : Nat} {s t : zS} {D : List zN} (hQ : zQq q) (h : zDo q i s D) (h1 : ∀ p, q ≤ p → p ≤ q + 7 → t p = s p) (h2 : zPm i t D) : zDo q i t D := ⟨zPc_f hQ h.1 h1, h2, h.2.2⟩
def zDs (s : zS) (D0 D1 D2 : List zN) : Prop := zDo 4 0 s D0 ∧ zDo 12 1 s D1 ∧ zDo 20 2 s D2 ∧ zWd D0 ∧ zWd D1
/-- the script is as it was -/
def zSk (s t : zS) : Prop := (∀ q, q = 69 ∨ (80 ≤ q ∧ q ≤ 83) ∨ (204 ≤ q ∧ q ≤ 207) → t q = s q) ∧ t 179 31 = s 179 31 ∧ t 179 32 = s 179 32
def zSn (t : zS) : Prop := t 69 0 = 0 ∧ t 69 1 = 0 ∧ t 179 31 = 0
theorem zQ4 : zQq 4 := Or.inl rfl
theorem zQ12 : zQq 12 := Or.inr (Or.inl rfl)
theorem zQ20 : zQq 20 := Or.inr (Or.inr (Or.inl rfl))
theorem zW26_e : (List.range 226).all (fun q => !(decide (q < 28) || decide (68 < q)) || (zW26 28 1 q == false)) = true := by decide +kernel
theorem zW26_d {q : Nat} (hq : q < 226) (h : q < 28 ∨ 68 < q) : zW26 28 1 q = false := by
  have := List.all_eq_true.mp zW26_e q (List.mem_range.mpr hq)
  rcases h with h | h <;> simpa [h] using this
theorem z_read {s : zS} {T : List Int32} {D0 D1 D2 : List zN} (hT : zTxt s T) (hD : zDs s D0 D1 D2) (hp : s 28 1 = s 179 3) (hN : zNm s) (x : Int32) :
    zAH (zf21 0 x s) [0] (zf152 179 x) (fun t => zTxt t T ∧ t 28 1 = t 179 3 ∧ zNm t ∧ ((zDs t D0 D1 D2 ∧ zSk s t) ∨ ∃ D0' D1', zDs t D0' D1' D2 ∧ zSn t)) := by
  obtain ⟨d0, d1, d2, w0, w1⟩ := hD
  by_cases hx : x = 0 ∨ x = 1
  · obtain ⟨i, hi, rfl⟩ : ∃ i, i < 2 ∧ x = nI i := by
      rcases hx with h | h
      · exact ⟨0, by decide, h⟩
      · exact ⟨1, by decide, h⟩
    obtain ⟨a1, a2, a3⟩ := zs26 hT.1 hT.2.2 hT.1.2.1 hN
    have e21 : zf21 0 (nI i) s = zf21_17 0 (nI i) s := by
      unfold zf21
      have : i = 0 ∨ i = 1 := by omega
      rcases this with rfl | rfl
      · rw [if_pos (show nI 0 = 0 from rfl)]
      · rw [if_neg (show ¬ nI 1 = 0 by decide), if_pos (show nI 1 = 1 from rfl)]
    have fr26 : ∀ {v : Int32} {t : zS}, zf26 28 1 s = some (v, t) → ∀ q, q < 226 → q < 28 ∨ 68 < q → t q = s q := fun h q h1 h2 => zf26_fr (zW26_d h1 h2) h
    left
    rw [e21]
    unfold zf21_17
    rw [show zrf 0 2 = 28 from rfl, show zrf 0 0 = 1 from rfl, show zrf 0 1 = 3 from rfl, show zrf 28 0 = 29 from rfl, show zrf 0 3 = 69 from rfl]
    cases hr : zrd T with
    | inl f =>
      obtain ⟨k, p⟩ := f
      obtain ⟨s1, b1, b2, b3, b4, b5⟩ := a1 k p hr
      have fr := fr26 b1
      have m1 : zMtx s1 T := by
        unfold zMtx
        rw [fr 179 (by decide) (by omega), fr 180 (by decide) (by omega)]
        exact hT.2.1
      obtain ⟨s2, c1, c2, c3, c4, c5⟩ := (zm152 (i := i) hi m1 hT.2.2 a3).1 k p hr
      refine ⟨nI k, s1, s2, ?_, c1, c2, ⟨?_, ?_, hT.2.2⟩, ?_, ?_, Or.inl ⟨⟨?_, ?_, ?_, w0, w1⟩, ?_⟩⟩
      · rw [b1, zbi_e, if_pos (show ¬ nI k = 0 from fun q => by have := (zn_eq (a := k) (b := 0) (by omega) (by decide)).mp q; omega)]
      · exact zRow_f hT.1 (by rw [c4.1 1 (by omega), fr 1 (by decide) (by omega)]) (by rw [show zrf 1 0 = 2 from rfl, c4.1 2 (by omega), fr 2 (by decide) (by omega)])
      · unfold zMtx
        rw [c4.1 180 (by omega), c4.2.1 2 (by decide) (by decide) (by decide) (by decide)]
        exact m1
      · rw [c4.1 28 (by omega), b2, c3]
      · exact ⟨by rw [c4.1 37 (by omega)]; exact b3.1, by rw [c4.1 40 (by omega)]; exact b3.2⟩
      · exact zDo_f zQ4 d0 (fun p h1 h2 => by rw [c4.1 p (by omega), fr p (by omega) (by omega)]) (c4.2.2 0 D0 (by decide) (by decide) (zPm_e d0.2.1 (fun p h1 h2 => fr p (by omega) (by omega))))
      · exact zDo_f zQ12 d1 (fun p h1 h2 => by rw [c4.1 p (by omega), fr p (by omega) (by omega)]) (c4.2.2 1 D1 (by decide) (by decide) (zPm_e d1.2.1 (fun p h1 h2 => fr p (by omega) (by omega))))
      · exact zDo_f zQ20 d2 (fun p h1 h2 => by rw [c4.1 p (by omega), fr p (by omega) (by omega)]) (c4.2.2 2 D2 (by decide) (by decide) (zPm_e d2.2.1 (fun p h1 h2 => fr p (by omega) (by omega))))
      · exact ⟨fun q hq => by rw [c4.1 q (by omega), fr q (by omega) (by omega)], by rw [c5, fr 179 (by decide) (by omega)], by rw [c4.2.1 32 (by decide) (by decide) (by decide) (by decide), fr 179 (by decide) (by omega)]⟩
    | inr D =>
      obtain ⟨s1, b1, b2, b3, b4⟩ := a2 D hr
      have fr := fr26 b1
      obtain ⟨wf, wd⟩ := zrd_w a3 hr
      obtain ⟨q, hqi, hQ⟩ : ∃ q, (q = 4 ∧ i = 0 ∨ q = 12 ∧ i = 1) ∧ zQq q := by
        have : i = 0 ∨ i = 1 := by omega
        rcases this with rfl | rfl
        · exact ⟨4, Or.inl ⟨rfl, rfl⟩, zQ4⟩
        · exact ⟨12, Or.inr ⟨rfl, rfl⟩, zQ12⟩
      have hca : zca (q + 1) = 40 ∧ zca (q + 7) = 300 := by rcases hqi with ⟨rfl, _⟩ | ⟨rfl, _⟩ <;> exact ⟨rfl, rfl⟩
      have har : ∀ (c : Nat → Option (am_O × zS × Nat)), zar 3 (nI i) c = c q := by
        intro c
        rcases hqi with ⟨rfl, rfl⟩ | ⟨rfl, rfl⟩ <;> rfl
      obtain ⟨s3, e1, e2, e3⟩ := z79 (q := q) (r := 29) hQ zQ29 (by omega) b4 (by rw [hca.1]; exact b4.2.1) (by rw [hca.2]; exact b4.2.2.1.2.1)
      obtain ⟨s4, hs4⟩ : ∃ s4, s4 = zw (zw s3 69 0 0) 69 1 0 := ⟨_, rfl⟩
      have f4 : ∀ p, p ≠ 69 → s4 p = s3 p := fun p hp => by rw [hs4, zw_ne hp, zw_ne hp]
      have f3 : ∀ p, p < 226 → p < 28 ∨ 68 < p → p ≠ 69 → p < q ∨ q + 7 < p → s4 p = s p := fun p h1 h2 h3 h4 => by rw [f4 p h3, e3 p h4, fr p h1 h2]
      have e81 : zf81 69 s3 = some s4 := by
        unfold zf81
        rw [zpb_0, zpf_e, ← hs4]
      have m1 : zMtx s4 T := by
        unfold zMtx
        rw [f3 179 (by decide) (by omega) (by decide) (by omega), f3 180 (by decide) (by omega) (by decide) (by omega)]
        exact hT.2.1
      obtain ⟨s2, c1, c2, c3, c4, c5, c6⟩ := (zm152 (i := i) hi m1 hT.2.2 a3).2 D hr
      have pc : zPc q s2 D := zPc_f hQ (zPc_f hQ e2 (fun p h1 h2 => f4 p (by omega))) (fun p h1 h2 => c6.1 p (by omega))
      refine ⟨0, s4, s2, ?_, c1, c2, ⟨?_, ?_, hT.2.2⟩, ?_, ?_, Or.inr ?_⟩
      · rw [b1, zbi_e, if_neg (show ¬ ¬ (0 : Int32) = 0 from fun q => q rfl), har, e1, zbv_e, e81, zbv_e]
      · exact zRow_f hT.1 (by rw [c6.1 1 (by omega), f3 1 (by decide) (by omega) (by decide) (by omega)]) (by rw [show zrf 1 0 = 2 from rfl, c6.1 2 (by omega), f3 2 (by decide) (by omega) (by decide) (by omega)])
      · unfold zMtx
        rw [c6.1 180 (by omega), c6.2.1 2 (by decide) (by decide) (by decide) (by decide)]
        exact m1
      · rw [c6.1 28 (by omega), f4 28 (by decide), e3 28 (by omega), b2, c3]
      · exact ⟨by rw [c6.1 37 (by omega), f4 37 (by decide), e3 37 (by omega)]; exact b3.1, by rw [c6.1 40 (by omega), f4 40 (by decide), e3 40 (by omega)]; exact b3.2⟩
      · have sn : zSn s2 := by
          refine ⟨?_, ?_, c4⟩
          · rw [c6.1 69 (by omega), hs4, zw_o (Or.inr (by decide)), zw_s]
          · rw [c6.1 69 (by omega), hs4, zw_s]
        have keep : ∀ r j E, zQq r → (r = 4 ∧ j = 0 ∨ r = 12 ∧ j = 1 ∨ r = 20 ∧ j = 2) → j ≠ i → zDo r j s E → zDo r j s2 E := by
          intro r j E hr hrj hji hE
          have hrq : r + 7 < q ∨ q + 7 < r := by omega
          exact zDo_f hr hE (fun p h1 h2 => by rw [c6.1 p (by omega), f3 p (by omega) (by omega) (by omega) (by omega)]) (c6.2.2 j E hji (by omega) (zPm_e hE.2.1 (fun p h1 h2 => f3 p (by omega) (by omega) (by omega) (by omega))))
        rcases hqi with ⟨rfl, rfl⟩ | ⟨rfl, rfl⟩
        · exact ⟨D, D1, ⟨⟨pc, c5, wf⟩, keep 12 1 D1 zQ12 (by omega) (by omega) d1, keep 20 2 D2 zQ20 (by omega) (by omega) d2, wd, w1⟩, sn⟩
        · exact ⟨D0, D, ⟨keep 4 0 D0 zQ4 (by omega) (by omega) d0, ⟨pc, c5, wf⟩, keep 20 2 D2 zQ20 (by omega) (by omega) d2, w0, wd⟩, sn⟩
  · right
    have h0 : ¬ x = 0 := fun q => hx (Or.inl q)
    have h1 : ¬ x = 1 := fun q => hx (Or.inr q)
    refine ⟨0, 0, 0, s, zw s 179 0 1, rfl, ?_, ?_, by rw [zw_s]; rfl, ⟨?_, ?_, hT.2.2⟩, ?_, ?_, Or.inl ⟨⟨?_, ?_, ?_, w0, w1⟩, ?_⟩⟩
    · unfold zf21
      rw [if_neg h0, if_neg h1]
    · unfold zf152 zf152_15
      rw [if_neg h0, if_pos h1, zpf_e, zgf_e, zw_s, if_neg (show ¬ (1 : Int32) ≤ 0 by decide)]
    · exact zRow_f hT.1 (zw_ne (by decide)) (zw_ne (by decide))
    · unfold zMtx
      rw [zw_ne (q := 180) (by decide), zw_o (Or.inr (by decide))]
      exact hT.2.1
    · rw [zw_ne (by decide), zw_o (Or.inr (by decide))]
      exact hp
    · exact ⟨by rw [zw_ne (by decide)]; exact hN.1, by rw [zw_ne (by decide)]; exact hN.2⟩
    · exact zDo_f zQ4 d0 (fun p h1 h2 => zw_ne (by omega)) (zPm_e d0.2.1 (fun p h1 h2 => zw_ne (by omega)))
    · exact zDo_f zQ12 d1 (fun p h1 h2 => zw_ne (by omega)) (zPm_e d1.2.1 (fun p h1 h2 => zw_ne (by omega)))
    · exact zDo_f zQ20 d2 (fun p h1 h2 => zw_ne (by omega)) (zPm_e d2.2.1 (fun p h1 h2 => zw_ne (by omega)))
    · exact ⟨fun q hq => zw_ne (by omega), zw_o (Or.inr (by decide)), zw_o (Or.inr (by decide))⟩
