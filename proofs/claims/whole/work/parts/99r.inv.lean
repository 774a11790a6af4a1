/-! The invariant, and the calls in it. -/
set_option maxRecDepth 100000
set_option linter.unusedVariables false
def zSi (s : zS) (A B : List zN) : Prop := zSn s ∨ (s 69 0 = 1 ∧ s 179 31 = 1 ∧ zScC s (zscr A B) ∧ zScM s (zscr A B) ∧ 0 < A.length ∧ 0 < B.length)
def zIv (s : zS) : Prop := ∃ T A B D, zTxt s T ∧ zDs s A B D ∧ s 28 1 = s 179 3 ∧ zNm s ∧ zSi s A B
theorem zSi_f {s t : zS} {A B : List zN} (h : zSi s A B) (h1 : zSk s t) : zSi t A B := by
  obtain ⟨k1, k2, k3⟩ := h1
  rcases h with ⟨a, b, c⟩ | ⟨a, b, c, d, e⟩
  · left
    unfold zSn
    rw [k1 69 (by omega), k2]
    exact ⟨a, b, c⟩
  · right
    refine ⟨by rw [k1 69 (by omega)]; exact a, by rw [k2]; exact b, ?_, ?_, e⟩
    · unfold zScC
      rw [k1 69 (by omega), k1 80 (by omega), k1 81 (by omega), k1 82 (by omega), k1 83 (by omega)]
      exact c
    · exact zScM_f d (fun p u w => k1 p (by omega)) k3
theorem zDs_f {s t : zS} {A B D : List zN} (h : zDs s A B D) (h1 : ∀ p, (4 ≤ p ∧ p ≤ 27) ∨ (195 ≤ p ∧ p ≤ 202) → t p = s p) : zDs t A B D := by
  obtain ⟨a, b, c, d⟩ := h
  exact ⟨zDo_f zQ4 a (fun p u w => h1 p (by omega)) (zPm_e a.2.1 (fun p u w => h1 p (by omega))), zDo_f zQ12 b (fun p u w => h1 p (by omega)) (zPm_e b.2.1 (fun p u w => h1 p (by omega))), zDo_f zQ20 c (fun p u w => h1 p (by omega)) (zPm_e c.2.1 (fun p u w => h1 p (by omega))), d⟩
theorem zIv_0 {s : zS} {x : Int32} (h : zIv s) : zIv (zw s 179 0 x) := by
  obtain ⟨T, A, B, D, h1, h2, h3, h4, h5⟩ := h
  have f : ∀ p, p ≠ 179 → zw s 179 0 x p = s p := fun p hp => zw_ne hp
  refine ⟨T, A, B, D, ⟨zRow_f h1.1 (f 1 (by decide)) (f 2 (by decide)), ?_, h1.2.2⟩, zDs_f h2 (fun p hp => f p (by omega)), ?_, ⟨by rw [f 37 (by decide)]; exact h4.1, by rw [f 40 (by decide)]; exact h4.2⟩, zSi_f h5 ⟨fun q hq => f q (by omega), zw_o (Or.inr (by decide)), zw_o (Or.inr (by decide))⟩⟩
  · unfold zMtx
    rw [f 180 (by decide), zw_o (Or.inr (by decide))]
    exact h1.2.1
  · rw [f 28 (by decide), zw_o (Or.inr (by decide))]
    exact h3
theorem zIv_T {s t : zS} (h : zIv s) (ht : zT s t) : zIv t := by
  obtain ⟨x, rfl⟩ := ht
  exact zIv_0 h
theorem zIv_X {s t : zS} {T' : List Int32} (h : zIv s) (hx : zX s t) (hT : zTxt t T') : zIv t := by
  obtain ⟨T, A, B, D, h1, h2, h3, h4, h5⟩ := h
  obtain ⟨x1, x2⟩ := hx
  refine ⟨T', A, B, D, hT, zDs_f h2 (fun p hp => x1 p (by omega) (by omega) (by omega) (by omega)), ?_, ⟨?_, ?_⟩, zSi_f h5 ⟨fun q hq => x1 q (by omega) (by omega) (by omega) (by omega), x2 31 (by decide) (by decide), x2 32 (by decide) (by decide)⟩⟩
  · rw [x1 28 (by decide) (by decide) (by decide) (by decide), x2 3 (by decide) (by decide)]
    exact h3
  · rw [x1 37 (by decide) (by decide) (by decide) (by decide)]; exact h4.1
  · rw [x1 40 (by decide) (by decide) (by decide) (by decide)]; exact h4.2
theorem zDo_pap {q i : Nat} {s : zS} {D : List zN} (hQ : zQ q i) (h : zDo q i s D) : zPap q i s D.length (zlt D).length := by
  obtain ⟨h1, h2, h3⟩ := h
  obtain ⟨r1, r2, r3, r4, r5, r6, r7⟩ := zQ_rf hQ
  obtain ⟨c1, c2, c3, c4, _⟩ := zQ_sh hQ
  obtain ⟨a1, a2, a3, a4⟩ := h1
  obtain ⟨b1, b2, b3, b4, b5, b6⟩ := h2
  refine ⟨a1, b1, a3.1, b3, a2, by have := a3.2.1; rw [r7] at this; exact this, fun j hj => ?_, fun k hk => ?_⟩
  · obtain ⟨u1, u2, u3, u4, u5⟩ := a4 j hj
    obtain ⟨v1, v2, v3, v4, v5⟩ := b6 j hj
    refine ⟨by rw [u1, v1], by rw [u2, v2], ?_, by rw [u4, v4], by rw [u5, v5], zof D j, _, u4, u5, zof_le hj⟩
    have w0 := v3 0 (by decide)
    have w1 := v3 1 (by decide)
    have w2 := v3 2 (by decide)
    rw [Nat.add_zero] at w0
    rw [u3, w0, w1, w2]
    cases ho : (zno D j).2.2.1 with
    | none => exact Or.inl ⟨rfl, rfl, rfl, rfl⟩
    | some l =>
      right
      obtain ⟨L, g1, g2⟩ := (h3 j hj).2.2.1 l ho
      obtain ⟨e1, e2, e3, e4⟩ := id g1
      refine ⟨L 0, L 1, L 2, e1, e2, e3, e4, ?_, ?_, ?_, ?_⟩
      · rw [g2]; exact zl3_pk g1 (by decide)
      · rw [g2]; exact zl3_pk g1 (by decide)
      · rw [g2]; exact zl3_pk g1 (by decide)
      · rw [g2]; rfl
  · rw [b5 k hk]
    have := a3.2.2 k hk
    rw [r7] at this
    exact this
theorem zIv_Ps {s : zS} (h : zIv s) : zPs s := by
  obtain ⟨T, A, B, D, h1, ⟨d0, d1, d2, _⟩, _⟩ := h
  intro q i hQ
  have hQ' := hQ
  rcases hQ with ⟨rfl, rfl⟩ | ⟨rfl, rfl⟩ | ⟨rfl, rfl⟩
  · exact ⟨_, _, zDo_pap hQ' d0⟩
  · exact ⟨_, _, zDo_pap hQ' d1⟩
  · exact ⟨_, _, zDo_pap hQ' d2⟩
theorem zIv_Sc {s : zS} (h : zIv s) : ∃ m, zScr s m := by
  obtain ⟨T, A, B, D, h1, _, _, _, h5⟩ := h
  rcases h5 with ⟨a, b, c⟩ | ⟨a, b, c, d, _⟩
  · exact ⟨0, by decide, b, Or.inl ⟨a, c, rfl⟩, fun k hk => absurd hk (Nat.not_lt_zero _)⟩
  · exact ⟨(zscr A B).length, c.2.1, c.1, Or.inr ⟨a, b, d.1⟩, fun k hk => ⟨by rw [(c.2.2 k hk).1, (d.2.2 k hk).1], by rw [(c.2.2 k hk).2.1, (d.2.2 k hk).2.1]⟩⟩
theorem zAH_m {c : Option (am_O × zS × Nat)} {ex : List Nat} {m : zS → Option (Int32 × zS)} {Q Q' : zS → Prop} (h : zAH c ex m Q) (hq : ∀ t, Q t → Q' t) : zAH c ex m Q' := by
  rcases h with ⟨r, s1, s2, a, b, e, d⟩ | ⟨j, k, b', s1, s2, a, b, e, f, d⟩
  · exact Or.inl ⟨r, s1, s2, a, b, e, hq _ d⟩
  · exact Or.inr ⟨j, k, b', s1, s2, a, b, e, f, hq _ d⟩
theorem zA2_m {c : Option (Int32 × zS)} {m : zS → Option (Int32 × zS)} {Q Q' : zS → Prop} (h : zA2 c m Q) (hq : ∀ t, Q t → Q' t) : zA2 c m Q' := by
  obtain ⟨r, s1, s2, a, b, d⟩ := h
  exact ⟨r, s1, s2, a, b, hq _ d⟩
theorem i_read {s : zS} (h : zIv s) (x : Int32) : zAH (zf21 0 x s) [0] (zf152 179 x) zIv := by
  obtain ⟨T, A, B, D, h1, h2, h3, h4, h5⟩ := h
  refine zAH_m (z_read h1 h2 h3 h4 x) (fun t ht => ?_)
  obtain ⟨t1, t2, t3, t4⟩ := ht
  rcases t4 with ⟨a, b⟩ | ⟨A', B', a, b⟩
  · exact ⟨T, A, B, D, t1, a, t2, t3, zSi_f h5 b⟩
  · exact ⟨T, A', B', D, t1, a, t2, t3, Or.inl b⟩
theorem i_compare {s : zS} (h : zIv s) : zAH (zf92 0 s) [2] (zf210 179) zIv := by
  have h0 := h
  obtain ⟨T, A, B, D, h1, h2, h3, h4, h5⟩ := h
  obtain ⟨d0, d1, d2, w0, w1⟩ := h2
  have hA := zSm_c (Or.inl rfl) d0.1 d0.2.2
  have hB := zSm_c (Or.inr rfl) d1.1 d1.2.2
  have a0 : ∀ (c : Nat → Option (am_O × zS × Nat)), zar 3 0 c = c 4 := fun c => zar_n (j := 0) (by decide)
  have a1 : ∀ (c : Nat → Option (am_O × zS × Nat)), zar 3 1 c = c 12 := fun c => zar_n (j := 1) (by decide)
  have q0 : ∀ (c : Int32 → Option (Int32 × zS)), zal s 195 0 c = c (s 195 0) := fun c => zal_n (j := 0) (by decide)
  have q1 : ∀ (c : Int32 → Option (Int32 × zS)), zal s 195 1 c = c (s 195 1) := fun c => zal_n (j := 1) (by decide)
  have hA4 := hA.2.1
  have hB4 := hB.2.1
  have e24 : zf210_24 179 1 s = some (0, zw s 179 0 1) := by
    unfold zf210_24
    rw [zpf_e, zgf_e, zw_s, if_neg (show ¬ (1 : Int32) ≤ 0 by decide)]
  have bad : zf92 0 s = some (.inr (hx_E 2), s, 1) → zf210 179 s = some (0, zw s 179 0 1) → zAH (zf92 0 s) [2] (zf210 179) zIv := fun c1 c2 => Or.inr ⟨0, 2, 0, s, zw s 179 0 1, rfl, c1, c2, by rw [zw_s]; rfl, zIv_0 h0⟩
  by_cases gA : A.length = 0
  · refine bad ?_ ?_
    · unfold zf92
      rw [show zrf 0 1 = 3 from rfl, a0, zgf_e, d0.1.1, if_pos (show nI A.length = 0 by rw [gA]; rfl)]
    · unfold zf210
      rw [show zrf 179 22 = 195 from rfl, q0, d0.2.1.1, if_pos (show nI A.length = 0 by rw [gA]; rfl), e24]
  · have nA : ¬ nI A.length = 0 := fun q => gA ((zn_eq (a := A.length) (b := 0) (by omega) (by decide)).mp q)
    by_cases gB : B.length = 0
    · refine bad ?_ ?_
      · unfold zf92
        rw [show zrf 0 1 = 3 from rfl, a0, zgf_e, d0.1.1, if_neg nA, a1, zgf_e, d1.1.1, if_neg (show ¬ ¬ nI B.length = 0 by rw [gB]; exact fun q => q rfl)]
      · unfold zf210
        rw [show zrf 179 22 = 195 from rfl, q0, d0.2.1.1, if_neg nA, q1, d1.2.1.1, if_neg (show ¬ ¬ nI B.length = 0 by rw [gB]; exact fun q => q rfl), e24]
    · have nB : ¬ nI B.length = 0 := fun q => gB ((zn_eq (a := B.length) (b := 0) (by omega) (by decide)).mp q)
      obtain ⟨s1, v, c1, c2, c3, c4, c5, c6⟩ := zc94 d0.1 d1.1 d0.2.2 d1.2.2 (by omega) (by omega)
      obtain ⟨s2, v', e1, e2, e3, e4, e5, e6, e7⟩ := zm210 (s := s1) (zPm_e d0.2.1 (fun p u w => c6 p (by omega))) (zPm_e d1.2.1 (fun p u w => c6 p (by omega))) hA hB w0 (by omega) (by omega)
      rw [c1] at e1
      cases e1
      have f : ∀ p, p < 69 ∨ (166 < p ∧ p < 179) ∨ (179 < p ∧ p < 204) → s2 p = s p := fun p hp => by rw [e6 p (by omega) (by omega), c6 p (by omega)]
      left
      refine ⟨nI v, s1, s2, ?_, e2, e5, T, A, B, D, ⟨zRow_f h1.1 (f 1 (by omega)) (f 2 (by omega)), ?_, h1.2.2⟩, zDs_f ⟨d0, d1, d2, w0, w1⟩ (fun p hp => f p (by omega)), ?_, ⟨by rw [f 37 (by omega)]; exact h4.1, by rw [f 40 (by omega)]; exact h4.2⟩, Or.inr ⟨?_, e4, ?_, e3, by omega, by omega⟩⟩
      · unfold zf92
        rw [show zrf 0 1 = 3 from rfl, a0, zgf_e, d0.1.1, if_neg nA, a1, zgf_e, d1.1.1, if_pos nB, show zrf 0 3 = 69 from rfl, c3, zbi_e]
      · unfold zMtx
        rw [f 180 (by omega), e7 2 (by decide) (by decide) (by decide) (by decide) (by decide), c6 179 (by omega)]
        exact h1.2.1
      · rw [f 28 (by omega), e7 3 (by decide) (by decide) (by decide) (by decide) (by decide), c6 179 (by omega)]
        exact h3
      · rw [e6 69 (by decide) (by omega)]; exact c5
      · unfold zScC
        rw [e6 69 (by decide) (by omega), e6 80 (by decide) (by omega), e6 81 (by decide) (by omega), e6 82 (by decide) (by omega), e6 83 (by decide) (by omega)]
        exact c4
theorem i_apply {s : zS} (h : zIv s) (x : Int32) : zAH (zf108 0 x s) [2, 0] (zf222 179 x) zIv := by
  have h0 := h
  obtain ⟨T, A, B, D, h1, h2, h3, h4, h5⟩ := h
  obtain ⟨d0, d1, d2, w0, w1⟩ := h2
  have hA := zSm_c (Or.inl rfl) d0.1 d0.2.2
  have hB := zSm_c (Or.inr rfl) d1.1 d1.2.2
  have e29 : ∀ {y : Int32} {k : Nat}, k = 1 ∨ k = 2 → zf222_29 179 y (nI k) s = some (0, zw s 179 0 (nI k)) := by
    intro y k hk
    unfold zf222_29
    rw [zpf_e, zgf_e, zw_s, if_neg (by rcases hk with rfl | rfl <;> decide)]
  rcases h5 with ⟨a, b, c⟩ | ⟨a, b, c, d, hA0, hB0⟩
  · refine Or.inr ⟨0, 2, 0, s, zw s 179 0 (nI 1), rfl, ?_, ?_, by rw [zw_s], zIv_0 h0⟩
    · unfold zf108
      rw [show zrf 0 3 = 69 from rfl, zgf_e, a, if_neg (show ¬ ¬ (0 : Int32) = 0 from fun q => q rfl)]
    · unfold zf222
      rw [zgf_e, c, if_neg (show ¬ ¬ (0 : Int32) = 0 from fun q => q rfl)]
      exact e29 (k := 1) (Or.inl rfl)
  · have h80 := c.2.1
    have bad : (x < 0 ∨ (¬ x < 0 ∧ ¬ x ≤ nI (zscr A B).length)) → zAH (zf108 0 x s) [2, 0] (zf222 179 x) zIv := by
      intro hx
      refine Or.inr ⟨1, 0, 0, s, zw s 179 0 (nI 2), rfl, ?_, ?_, by rw [zw_s], zIv_0 h0⟩
      · unfold zf108
        rw [show zrf 0 3 = 69 from rfl, zgf_e, a, if_pos (show ¬ (1 : Int32) = 0 by decide)]
        rcases hx with q | ⟨q1, q2⟩
        · rw [if_pos q]
        · rw [if_neg q1, zgf_e, c.1, if_neg q2]
      · unfold zf222
        rw [zgf_e, b, if_pos (show ¬ (1 : Int32) = 0 by decide)]
        rcases hx with q | ⟨q1, q2⟩
        · rw [if_pos q]
          exact e29 (k := 2) (Or.inr rfl)
        · rw [if_neg q1, zgf_e, d.1, if_neg q2]
          exact e29 (k := 2) (Or.inr rfl)
    by_cases gx : x < 0
    · exact bad (Or.inl gx)
    · obtain ⟨n, rfl, hn⟩ := zn_of gx
      by_cases gn : n ≤ (zscr A B).length
      · have hS := (zscr_p hA.1 hB.1 hA0 hB0 (fun _ => 0) (fun _ => 0)).1
        have hU : ∀ a, ((zscr A B).filter (fun x => x.1 == some a)).length ≤ 1 := fun a => zone hA.1 hB.1 hA0 hB0
        obtain ⟨b80, b600⟩ := zap_b (n := n) hA hB hA0 hB0
        have hw := zap_w hA.1 hA.2.1 hB.1 (fun x hx => hS x (List.mem_of_mem_take hx) : ∀ x ∈ (zscr A B).take n, zSv A B x)
        obtain ⟨s1, c1, c2, c3, c4⟩ := z109 hA hB hS hU d0.1 d1.1 c gn b80 b600
        obtain ⟨s2, e1, e2, e3, e4, e5, e6⟩ := zm222 (s := s1) hA hB hA0 hS hU (zPm_e d0.2.1 (fun p u w => c3 p (by omega))) (zPm_e d1.2.1 (fun p u w => c3 p (by omega))) (zScM_f d (fun p u w => c3 p (by omega)) (by rw [c3 179 (by omega)])) (by rw [c3 179 (by omega)]; exact b) gn b80 b600
        have f : ∀ p, p < 20 ∨ (27 < p ∧ p < 167 ∧ p ≠ 69) ∨ (168 < p ∧ p < 179) ∨ (179 < p ∧ p < 195) ∨ (202 < p ∧ p < 217) → s2 p = s p := fun p hp => by rw [e4 p (by omega) (by omega) (by omega) (by omega) (by omega), c3 p (by omega)]
        have f69 : ∀ g, g ≠ 13 → s2 69 g = s 69 g := fun g hg => by rw [e4 69 (by decide) (by omega) (by decide) (by decide) (by decide), c4 g hg]
        have f179 : ∀ g, g ≠ 0 → s2 179 g = s 179 g := fun g hg => by rw [e5 g hg, c3 179 (by omega)]
        left
        refine ⟨nI (zap A B ((zscr A B).take n)).length, s1, s2, ?_, e1, e3, T, A, B, zap A B ((zscr A B).take n), ⟨zRow_f h1.1 (f 1 (by omega)) (f 2 (by omega)), ?_, h1.2.2⟩, ⟨?_, ?_, ?_, w0, w1⟩, ?_, ⟨by rw [f 37 (by omega)]; exact h4.1, by rw [f 40 (by omega)]; exact h4.2⟩, Or.inr ⟨?_, ?_, ?_, ?_, hA0, hB0⟩⟩
        · unfold zf108
          have a2 : ∀ (c : Nat → Option (am_O × zS × Nat)), zar 3 2 c = c 20 := fun c => zar_n (j := 2) (by decide)
          rw [show zrf 0 3 = 69 from rfl, zgf_e, a, if_pos (show ¬ (1 : Int32) = 0 by decide), if_neg gx, zgf_e, c.1, if_pos ((zn_le (by omega) (by omega)).mpr gn), c1, zbv_e, show zrf 0 1 = 3 from rfl, a2, zgf_e, c2.1]
        · unfold zMtx
          rw [f 180 (by omega), f179 2 (by decide)]
          exact h1.2.1
        · exact zDo_f zQ4 d0 (fun p u w => f p (by omega)) (e6 0 A (by decide) (zPm_e d0.2.1 (fun p u w => c3 p (by omega))))
        · exact zDo_f zQ12 d1 (fun p u w => f p (by omega)) (e6 1 B (by decide) (zPm_e d1.2.1 (fun p u w => c3 p (by omega))))
        · exact ⟨zPc_f zQ20 c2 (fun p u w => e4 p (by omega) (by omega) (by omega) (by omega) (by omega)), e2, hw⟩
        · rw [f 28 (by omega), f179 3 (by decide)]
          exact h3
        · rw [f69 0 (by decide)]; exact a
        · rw [f179 31 (by decide)]; exact b
        · unfold zScC
          rw [f69 1 (by decide), f 80 (by omega), f 81 (by omega), f 82 (by omega), f 83 (by omega)]
          exact c
        · exact zScM_f d (fun p u w => f p (by omega)) (f179 32 (by decide))
      · exact bad (Or.inr ⟨gx, fun q => gn ((zn_le (by omega) (by omega)).mp q)⟩)
