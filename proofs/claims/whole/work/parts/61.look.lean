/-! look, steps, step. -/
set_option maxRecDepth 100000
set_option linter.unusedVariables false
theorem zlk_d : ∀ b, b < 2 → ∀ z, z < 100 → ∀ k, k < 10 → (nI (1000 * b + 10 * z + k) / 1000 = nI b ∧ (nI (1000 * b + 10 * z + k) / 10) - (nI (1000 * b + 10 * z + k) / 10) / 100 * 100 = nI z ∧ nI (1000 * b + 10 * z + k) - nI (1000 * b + 10 * z + k) / 10 * 10 = nI k) := by decide +kernel
/-- the three numbers of a look -/
theorem z74 {x b z k : Int32} {s : zS} (h : zLk x b z k) (hx : ¬ x = -1) : zf74 x 0 s = some (b, s) ∧ zf74 x 1 s = some (z, s) ∧ zf74 x 2 s = some (k, s) := by
  rcases h with h | ⟨b', z', k', h1, h2, h3, h4, rfl, rfl, rfl, rfl⟩
  · exact absurd h.1 hx
  · obtain ⟨e1, e2, e3⟩ := zlk_d b' (by omega) z' (by omega) k' (by omega)
    refine ⟨?_, ?_, ?_⟩
    · unfold zf74
      rw [if_neg (by decide), e1]
    · unfold zf74
      rw [if_pos (by decide), if_neg (by decide), e2]
    · unfold zf74
      rw [if_pos (by decide), if_pos (by decide), e3]
theorem zLk_none {x b z k : Int32} (h : zLk x b z k) (hx : x = -1) : b = -1 ∧ z = -1 ∧ k = -1 := by
  rcases h with h | ⟨b', z', k', h1, h2, h3, h4, rfl, rfl, rfl, h5⟩
  · exact h.2
  · rw [h5] at hx
    exact absurd hx (zn_nm (by omega))
theorem z_look {s : zS} (hp : zPs s) (x y z : Int32) : zAH (zf88 0 x y z s) [0, 1] (zf206 179 x y z) (zT s) := by
  have m9 : zf206_9 179 s = some (0, zw s 179 0 1) := rfl
  rcases z_slotQ x with h | ⟨q, i, hQ, rfl⟩
  · refine Or.inr ⟨0, 0, 0, s, zw s 179 0 1, rfl, ?_, ?_, rfl, _, rfl⟩
    · unfold zf88
      rw [z83_no h]
      rfl
    · unfold zf206
      by_cases h1 : z < 0
      · rw [if_pos h1, m9]
      · rw [if_neg h1]
        by_cases h2 : z ≤ 2
        · rw [if_pos h2, z204_no h]
          rfl
        · rw [if_neg h2, m9]
  · obtain ⟨n, t, hd⟩ := hp q i hQ
    obtain ⟨hn, ht⟩ := zPap_n hQ hd
    obtain ⟨w1, w2, w3, w4, w5, w6, w7, w8⟩ := zQ_sh hQ
    obtain ⟨r1, r2, r3, r4, r5, r6, r7⟩ := zQ_rf hQ
    obtain ⟨d1, d2, d3, d4, d5, d6, d7, d8⟩ := hd
    have e204 := z204_in (y := y) w2 d2 (by omega)
    by_cases hz : z < 0 ∨ ¬ z ≤ 2
    · refine Or.inr ⟨0, 0, 0, s, zw s 179 0 1, rfl, ?_, ?_, rfl, _, rfl⟩
      · unfold zf88
        rw [zQ_83 hQ]
        unfold zxr
        simp only [w1, if_true]
        by_cases h1 : z < 0
        · rw [if_pos h1]
        · rw [if_neg h1, if_neg (hz.resolve_left h1)]
      · unfold zf206
        by_cases h1 : z < 0
        · rw [if_pos h1, m9]
        · rw [if_neg h1, if_neg (hz.resolve_left h1), m9]
    · have hz1 : ¬ z < 0 := fun e => hz (Or.inl e)
      have hz2 : z ≤ 2 := Classical.byContradiction fun e => hz (Or.inr e)
      by_cases hy : y < 0 ∨ ¬ y < nI n
      · rw [if_pos hy] at e204
        refine Or.inr ⟨1, 1, 0, s, zw s 179 0 2, rfl, ?_, ?_, rfl, _, rfl⟩
        · unfold zf88
          rw [zQ_83 hQ]
          unfold zxr
          simp only [w1, if_true]
          rw [if_neg hz1, if_pos hz2, z85_no (by rw [d1]; exact hy)]
        · unfold zf206
          rw [if_neg hz1, if_pos hz2, e204]
          rfl
      · rw [if_neg hy] at e204
        obtain ⟨j, rfl, hj⟩ := z_node (by omega) hy
        obtain ⟨k1, k2, k3, k4⟩ := d7 j hj
        have m1 : ∀ w, w < 3 → zal (zw s 179 0 0) (zrf 179 25) ((3 * ((100 * nI i) + nI j)) + nI w) (fun v3 => some (v3, zw s 179 0 0)) = some (s 198 (3 * (100 * i + j) + w), zw s 179 0 0) := by
          intro w hw
          rw [zn_100, zn_lit 3, zn_mul, zn_add, zal_n (by show _ < 1200; omega)]
          rfl
        have hz3 : z = 0 ∨ z = 1 ∨ z = 2 := by
          rcases z_slot z with e | e
          · refine absurd e (fun e => e.elim hz1 (fun e => e ?_))
            rw [Int32.lt_iff_toInt_lt]
            rw [Int32.le_iff_toInt_le] at hz2
            have e1 : (3 : Int32).toInt = 3 := rfl
            have e2 : (2 : Int32).toInt = 2 := rfl
            omega
          · exact e
        have c1 : ∀ v, (if ¬ s (q + 3) j = -1 then zf74 (s (q + 3) j) z s = some (v, s) else v = -1) → zf88 0 (nI i) (nI j) z s = some (.inl (some (.int v)), s, 0) := by
          intro v hv
          unfold zf88
          rw [zQ_83 hQ]
          unfold zxr
          simp only [w1, if_true]
          rw [if_neg hz1, if_pos hz2, z85_in (by rw [d1]; exact hy)]
          simp only [w1, if_true]
          rw [r3, zal_n (by omega)]
          by_cases e : s (q + 3) j = -1
          · rw [if_neg (fun z => z e)] at hv
            rw [if_neg (fun z => z e), hv]
          · rw [if_pos e] at hv
            rw [if_pos e, hv]
            rfl
        have c2 : ∀ w, w < 3 → z = nI w → zf206 179 (nI i) (nI j) z s = some (s 198 (3 * (100 * i + j) + w), zw s 179 0 0) := by
          intro w hw e
          unfold zf206
          rw [if_neg hz1, if_pos hz2, e204]
          simp only [zbi]
          rw [if_neg (by decide), e]
          exact m1 w hw
        by_cases e : s (q + 3) j = -1
        · obtain ⟨l1, l2, l3⟩ := zLk_none k3 e
          rcases hz3 with rfl | rfl | rfl
          · exact Or.inl ⟨-1, s, zw s 179 0 0, c1 _ (by rw [if_neg (fun z => z e)]), (c2 0 (by decide) rfl).trans (by rw [Nat.add_zero, l1]), rfl, _, rfl⟩
          · exact Or.inl ⟨-1, s, zw s 179 0 0, c1 _ (by rw [if_neg (fun z => z e)]), (c2 1 (by decide) rfl).trans (by rw [l2]), rfl, _, rfl⟩
          · exact Or.inl ⟨-1, s, zw s 179 0 0, c1 _ (by rw [if_neg (fun z => z e)]), (c2 2 (by decide) rfl).trans (by rw [l3]), rfl, _, rfl⟩
        · obtain ⟨l1, l2, l3⟩ := z74 (s := s) k3 e
          rcases hz3 with rfl | rfl | rfl
          · exact Or.inl ⟨_, s, zw s 179 0 0, c1 _ (by rw [if_pos e]; exact l1), (c2 0 (by decide) rfl).trans (by rw [Nat.add_zero]), rfl, _, rfl⟩
          · exact Or.inl ⟨_, s, zw s 179 0 0, c1 _ (by rw [if_pos e]; exact l2), c2 1 (by decide) rfl, rfl, _, rfl⟩
          · exact Or.inl ⟨_, s, zw s 179 0 0, c1 _ (by rw [if_pos e]; exact l3), c2 2 (by decide) rfl, rfl, _, rfl⟩
/-- the script on both sides: m steps -/
def zScr (s : zS) (m : Nat) : Prop := m ≤ 80 ∧ s 69 1 = nI m ∧ ((s 69 0 = 0 ∧ s 179 31 = 0 ∧ m = 0) ∨ (s 69 0 = 1 ∧ s 179 31 = 1 ∧ s 179 32 = nI m)) ∧ ∀ k, k < m → s 80 k = s 204 k ∧ s 81 k = s 205 k
theorem z_steps {s : zS} {m : Nat} (h : zScr s m) : zA2 (zf20 0 s) (zf220 179) (zT s) := by
  obtain ⟨h1, h2, h3, h4⟩ := h
  refine ⟨nI m, s, zw s 179 0 0, by rw [← h2]; rfl, ?_, _, rfl⟩
  unfold zf220
  simp only [zpf, zgf]
  rw [zw_o (Or.inr (by decide)), zw_o (Or.inr (by decide))]
  rcases h3 with ⟨a, b, c⟩ | ⟨a, b, c⟩
  · rw [if_pos b, c]
    rfl
  · rw [b, if_neg (by decide), c]
theorem z_step {s : zS} {m : Nat} (h : zScr s m) (x y : Int32) : zAH (zf107 0 x y s) [1] (zf221 179 x y) (zT s) := by
  obtain ⟨h1, h2, h3, h4⟩ := h
  have m1 : zf221_25 179 x y 1 s = some (0, zw s 179 0 1) := rfl
  have r1 : s (zrf 0 3) 1 = nI m := h2
  by_cases hx : x < 0 ∨ ¬ x < nI m
  · refine Or.inr ⟨0, 1, 0, s, zw s 179 0 1, rfl, ?_, ?_, rfl, _, rfl⟩
    · unfold zf107
      by_cases e : x < 0
      · rw [if_pos e]
      · rw [if_neg e]
        simp only [zgf, r1]
        rw [if_neg (hx.resolve_left e)]
    · unfold zf221
      by_cases e : x < 0
      · rw [if_pos e, m1]
      · rw [if_neg e]
        simp only [zgf]
        rcases h3 with ⟨a, b, c⟩ | ⟨a, b, c⟩
        · rw [if_pos b, m1]
        · rw [b, if_neg (by decide), c, if_neg (hx.resolve_left e), m1]
  · have hx1 : ¬ x < 0 := fun e => hx (Or.inl e)
    have hx2 : x < nI m := Classical.byContradiction fun e => hx (Or.inr e)
    obtain ⟨j, rfl, hj⟩ := z_node (by omega) hx
    obtain ⟨k1, k2⟩ := h4 j hj
    have hb : s 179 31 = 1 ∧ s 179 32 = nI m := by
      rcases h3 with ⟨a, b, c⟩ | ⟨a, b, c⟩
      · omega
      · exact ⟨b, c⟩
    have m2 : zf221 179 (nI j) y s = zf221_25 179 (nI j) y 0 s := by
      unfold zf221
      rw [if_neg hx1]
      simp only [zgf]
      rw [hb.1, if_neg (by decide), hb.2, if_pos hx2]
    by_cases hy : y = 0
    · refine Or.inl ⟨s 80 j, s, zw s 179 0 0, ?_, ?_, rfl, _, rfl⟩
      · unfold zf107
        rw [if_neg hx1]
        simp only [zgf, r1]
        rw [if_pos hx2, if_pos hy, show zrf (zrf 0 3) 2 = 80 from rfl, zal_n (by show j < 80; omega)]
      · rw [m2]
        unfold zf221_25
        simp only [zpf, zgf]
        rw [zw_s, if_pos (by decide), if_pos hy, show zrf 179 33 = 204 from rfl, zal_n (by show j < 120; omega), zw_o (Or.inl (by decide)), k1]
    · refine Or.inl ⟨s 81 j, s, zw s 179 0 0, ?_, ?_, rfl, _, rfl⟩
      · unfold zf107
        rw [if_neg hx1]
        simp only [zgf, r1]
        rw [if_pos hx2, if_neg hy, show zrf (zrf 0 3) 3 = 81 from rfl, zal_n (by show j < 80; omega)]
      · rw [m2]
        unfold zf221_25
        simp only [zpf, zgf]
        rw [zw_s, if_pos (by decide), if_neg hy, show zrf 179 34 = 205 from rfl, zal_n (by show j < 120; omega), zw_o (Or.inl (by decide)), k2]
