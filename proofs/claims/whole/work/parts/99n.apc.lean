/-! apply, the class's. -/
set_option maxRecDepth 100000
set_option linter.unusedVariables false
theorem zn_mv {v c j : Nat} (h : j ≤ v) : nI v + (nI c - nI j) = nI (c + (v - j)) := by
  obtain ⟨d, rfl⟩ : ∃ d, v = j + d := ⟨v - j, by omega⟩
  rw [show j + d - j = d by omega, ← zn_add, ← zn_add, Int32.sub_eq_add_neg]
  rw [Int32.add_comm (nI j) (nI d), Int32.add_assoc, ← Int32.add_assoc (nI j) (nI c), Int32.add_comm (nI j) (nI c), Int32.add_assoc (nI c), Int32.add_right_neg, Int32.add_zero, Int32.add_comm]
/-- what the class's apply looks at -/
def zAc (s : zS) (A B : List zN) (L : List zSp) (n : Nat) : Prop := zPc 4 s A ∧ zPc 12 s B ∧ zScC s L ∧ s 69 13 = nI n ∧ n ≤ L.length
theorem zAc_f {s s' : zS} {A B : List zN} {L : List zSp} {n : Nat} (h : zAc s A B L n) (h1 : ∀ p, p < 20 ∨ (27 < p ∧ p < 167) → s' p = s p) : zAc s' A B L n := by
  obtain ⟨a1, a2, a3, a4, a5⟩ := h
  refine ⟨zPc_f zQ4 a1 (fun p u v => h1 p (by omega)), zPc_f zQ12 a2 (fun p u v => h1 p (by omega)), ?_, by rw [h1 69 (by omega)]; exact a4, a5⟩
  unfold zScC
  rw [h1 69 (by omega), h1 80 (by omega), h1 81 (by omega), h1 82 (by omega), h1 83 (by omega)]
  exact a3
theorem zlt_ap {D E : List zN} : zlt (D ++ E) = zlt D ++ zlt E := by
  unfold zlt
  rw [List.map_append, List.flatten_append]
theorem z113 {s : zS} {A B : List zN} {L : List zSp} {n : Nat} {D : List zN} {j : Nat} {ab : Option Nat} (h : zAc s A B L n) (hB : zSm B) (hP : zPc 20 s D) (hj : j < B.length) (hc : (zcl2 B D j ab).length ≤ 80) (hl : (zlt (zcl2 B D j ab)).length ≤ 600) : ∃ s', zf113 69 (nI j) (zoi ab) s = some s' ∧ zPc 20 s' (zcl2 B D j ab) ∧ zFp 20 s s' := by
  have hB4 := hB.2.1
  obtain ⟨e1, e2, e3, e4⟩ := zend_p hj
  have hcl : (zcl2 B D j ab).length = D.length + (zend B j - j) := by
    unfold zcl2
    rw [List.length_append, List.length_map, List.length_range']
  -- the pieces
  have piece : ∀ u, j ≤ u → u < zend B j → D ++ (List.range' j (u + 1 - j)).map (zcq B D.length j ab) = D ++ (List.range' j (u - j)).map (zcq B D.length j ab) ++ [zcq B D.length j ab u] := by
    intro u h1 h2
    rw [show u + 1 - j = (u - j) + 1 by omega, List.range'_concat, List.map_append, show j + 1 * (u - j) = u by omega, List.append_assoc]
    rfl
  have whole : ∀ u, j ≤ u → u ≤ zend B j → ∃ E, zcl2 B D j ab = D ++ (List.range' j (u - j)).map (zcq B D.length j ab) ++ E := by
    intro u h1 h2
    refine ⟨(List.range' u (zend B j - u)).map (zcq B D.length j ab), ?_⟩
    unfold zcl2
    rw [List.append_assoc, ← List.map_append]
    congr 2
    have := List.range'_append (s := j) (m := u - j) (n := zend B j - u) (step := 1)
    rw [show j + 1 * (u - j) = u by omega, show u - j + (zend B j - u) = zend B j - j by omega] at this
    exact this.symm
  have add1 : ∀ u (t : zS), j ≤ u → u < zend B j → zAc t A B L n → zPc 20 t (D ++ (List.range' j (u - j)).map (zcq B D.length j ab)) → ∃ t', zf80 20 12 (nI u) (zoi (if u = j then ab else (zab B u).map (fun v => D.length + (v - j)))) t = some t' ∧ zPc 20 t' (D ++ (List.range' j (u + 1 - j)).map (zcq B D.length j ab)) ∧ zFp 20 t t' := by
    intro u t h1 h2 hA hPt
    obtain ⟨E, hE⟩ := whole (u + 1) (by omega) (by omega)
    rw [piece u h1 h2] at hE
    have hlen : (zcl2 B D j ab).length = (D ++ (List.range' j (u - j)).map (zcq B D.length j ab)).length + 1 + E.length := by rw [hE, List.length_append, List.length_append, List.length_singleton]
    have hlet : (zlt (zcl2 B D j ab)).length = (zlt (D ++ (List.range' j (u - j)).map (zcq B D.length j ab))).length + (zno B u).2.2.2.length + (zlt E).length := by
      rw [hE, zlt_ap, zlt_app, List.length_append, List.length_append]
      rfl
    obtain ⟨t', c1, c2, c3⟩ := z80 (q := 20) (r := 12) (j := u) (a := if u = j then ab else (zab B u).map (fun v => D.length + (v - j))) zQ20 zQ12 (by decide) hPt hA.2.1 (by omega) (by show _ < 80; omega) (by show _ ≤ 600; omega)
    refine ⟨t', c1, ?_, c3⟩
    rw [piece u h1 h2]
    exact c2
  have loop : ∀ m f u (t : zS), j < u → u + m = zend B j → m < f → zAc t A B L n → zPc 20 t (D ++ (List.range' j (u - j)).map (zcq B D.length j ab)) → ∃ t', zf113_31 69 f (nI j) (nI D.length - nI j) (nI u) t = some t' ∧ zPc 20 t' (zcl2 B D j ab) ∧ zFp 20 t t' := by
    intro m
    induction m with
    | zero =>
      intro f u t h1 h2 hf hA hPt
      obtain ⟨f, rfl⟩ : ∃ f', f = f' + 1 := ⟨f - 1, by omega⟩
      have hu : u = zend B j := by omega
      refine ⟨t, ?_, ?_, fun _ _ => rfl⟩
      · rw [zf113_31, show zrf (zrf 69 7) 0 = 12 from rfl, zgf_e, hA.2.1.1]
        by_cases g : u < B.length
        · rw [if_neg (fun q => by have := (zn_le (by omega) (by omega)).mp q; omega), show zrf 12 1 = 14 from rfl, zal_n (by show u < 40; omega), show t 14 u = zoi (zab B u) from (hA.2.1.2.2.2 u g).2.1]
          have : zoi (zab B u) < nI j := by
            cases hv : zab B u with
            | none =>
              show (-1 : Int32) < nI j
              exact Int32.lt_of_lt_of_le (by decide) (Int32.not_lt.mp (zn_nn (by omega)))
            | some v =>
              have := e4 v (by rw [← hu]; exact hv)
              exact (zn_lt (by omega) (by omega)).mpr this
          rw [if_pos this]
        · rw [if_pos ((zn_le (by omega) (by omega)).mpr (by omega))]
      · rw [hu] at hPt
        exact hPt
    | succ m ih =>
      intro f u t h1 h2 hf hA hPt
      obtain ⟨f, rfl⟩ : ∃ f', f = f' + 1 := ⟨f - 1, by omega⟩
      obtain ⟨v, w1, w2⟩ := e3 u h1 (by omega)
      have hvu := (zab_d hB.1 w1).1
      have hul : u < B.length := by omega
      obtain ⟨t1, c1, c2, c3⟩ := add1 u t (by omega) (by omega) hA hPt
      rw [if_neg (by omega), w1] at c1
      have c1' : zf80 20 12 (nI u) (nI (D.length + (v - j))) t = some t1 := c1
      obtain ⟨t', d1, d2, d3⟩ := ih f (u + 1) t1 (by omega) (by omega) (by omega) (zAc_f hA (fun p hp => c3 p (by omega))) c2
      refine ⟨t', ?_, d2, zFp_t c3 d3⟩
      rw [zf113_31, show zrf (zrf 69 7) 0 = 12 from rfl, zgf_e, hA.2.1.1, if_neg (fun q => by have := (zn_le (by omega) (by omega)).mp q; omega), show zrf 12 1 = 14 from rfl, zal_n (by show u < 40; omega), show t 14 u = zoi (zab B u) from (hA.2.1.2.2.2 u hul).2.1, w1, show zoi (some v) = nI v from rfl, if_neg (fun q => by have := (zn_lt (by omega) (by omega)).mp q; omega), zal_n (by show u < 40; omega), show t 14 u = zoi (zab B u) from (hA.2.1.2.2.2 u hul).2.1, w1, show zoi (some v) = nI v from rfl, zn_mv w2, show zrf 69 8 = 20 from rfl, c1', zbv_e, zn_a1]
      exact d1
  have p0 : zPc 20 s (D ++ (List.range' j (j - j)).map (zcq B D.length j ab)) := by
    rw [Nat.sub_self]
    show zPc 20 s (D ++ [])
    rw [List.append_nil]
    exact hP
  obtain ⟨s1, c1, c2, c3⟩ := add1 j s (Nat.le_refl _) e1 h p0
  rw [if_pos rfl] at c1
  obtain ⟨s', d1, d2, d3⟩ := loop (zend B j - (j + 1)) zfz (j + 1) s1 (by omega) (by omega) (by rw [zfz_e]; omega) (zAc_f h (fun p hp => c3 p (by omega))) c2
  refine ⟨s', ?_, d2, zFp_t c3 d3⟩
  unfold zf113
  rw [show zrf 69 8 = 20 from rfl, show zrf (zrf 69 7) 0 = 12 from rfl, zgf_e, hP.1, c1, zbv_e, zn_a1]
  exact d1
/-- the place of a row, as a number -/
theorem zky_c {A B : List zN} {x : zSp} {row : Nat} {pl : Option Nat} (hx : zSv A B x) (hA : A.length ≤ 40) (hr : row < 40) (hp : ∀ i, pl = some i → i < 40) : (zoi x.2.2.1 = nI row ∧ zpC x = nI (pl.getD 40)) ↔ zky row pl x = true := by
  rw [zky_e]
  rcases hx with ⟨i, j, e, _⟩ | ⟨i, e, _⟩ | ⟨j, a, p, e, _, _, ha, hi⟩
  · subst e
    exact ⟨fun q => absurd q.1.symm (zn_nm (by omega)), fun q => by cases q.1⟩
  · subst e
    exact ⟨fun q => absurd q.1.symm (zn_nm (by omega)), fun q => by cases q.1⟩
  · subst e
    constructor
    · intro ⟨q1, q2⟩
      have e1 : a = row := (zn_eq (a := a) (b := row) (by omega) (by omega)).mp q1
      refine ⟨rfl, by rw [e1], ?_⟩
      have q3 : nI (p.getD 40) = nI (pl.getD 40) := q2
      have b1 : p.getD 40 ≤ 40 ∧ (∀ i, p = some i → i < 40) := by
        cases p with
        | none => exact ⟨Nat.le_refl _, fun i h => by cases h⟩
        | some i =>
          have := zab_lt (hi.1 i rfl)
          exact ⟨by show i ≤ 40; omega, fun k h => by cases h; omega⟩
      have b2 : pl.getD 40 ≤ 40 := by
        cases pl with
        | none => exact Nat.le_refl _
        | some i => have := hp i rfl; show i ≤ 40; omega
      have q4 := (zn_eq (by omega) (by omega)).mp q3
      cases p with
      | none =>
        cases pl with
        | none => rfl
        | some i => have := hp i rfl; have : (40 : Nat) = i := q4; omega
      | some k =>
        have := b1.2 k rfl
        cases pl with
        | none => have : k = 40 := q4; omega
        | some i => have : k = i := q4; rw [this]
    · intro ⟨_, q1, q2⟩
      cases q1
      dsimp only at q2
      subst q2
      exact ⟨rfl, rfl⟩
theorem zsL_d {L : List zSp} {n k : Nat} (hn : n ≤ L.length) (hk : k < n) : (L.take n).drop k = zsL L k :: (L.take n).drop (k + 1) := by
  rw [List.drop_eq_getElem_cons (by rw [List.length_take]; omega)]
  congr 1
  rw [List.getElem_take]
  unfold zsL
  rw [List.getD_eq_getElem?_getD, List.getElem?_eq_getElem (by omega)]
  rfl
theorem zsL_m {L : List zSp} {k : Nat} (hk : k < L.length) : zsL L k ∈ L := by
  unfold zsL
  rw [List.getD_eq_getElem?_getD, List.getElem?_eq_getElem hk]
  exact List.getElem_mem hk
theorem z112 {A B : List zN} {L : List zSp} {n : Nat} {CP : Nat → Nat} {row : Nat} {pl : Option Nat} (hA : zSm A) (hB : zSm B) (hS : ∀ x ∈ L, zSv A B x) (hr : row < A.length) (hp : ∀ i, pl = some i → i < 40) {s : zS} {D : List zN} (h : zAc s A B L n) (hP : zPc 20 s D) (hcp : s 168 row = nI (CP row)) (hc : (zpin B (L.take n) CP row pl D).length ≤ 80) (hl : (zlt (zpin B (L.take n) CP row pl D)).length ≤ 600) :
    ∃ s', zf112 69 (nI row) (nI (pl.getD 40)) s = some s' ∧ zPc 20 s' (zpin B (L.take n) CP row pl D) ∧ zFp 20 s s' := by
  have hA4 := hA.2.1
  have l : ∀ m f k (t : zS) D, k + m = n → m < f → zAc t A B L n → zPc 20 t D → t 168 row = nI (CP row) → (zpin B ((L.take n).drop k) CP row pl D).length ≤ 80 → (zlt (zpin B ((L.take n).drop k) CP row pl D)).length ≤ 600 → ∃ t', zf112_2 69 f (nI row) (nI (pl.getD 40)) (nI k) t = some t' ∧ zPc 20 t' (zpin B ((L.take n).drop k) CP row pl D) ∧ zFp 20 t t' := by
    intro m
    induction m with
    | zero =>
      intro f k t D hk hf h hP hcp hc hl
      obtain ⟨f, rfl⟩ : ∃ f', f = f' + 1 := ⟨f - 1, by omega⟩
      have := h.2.2.1.2.1
      have h5 := h.2.2.2.2
      refine ⟨t, ?_, ?_, fun _ _ => rfl⟩
      · rw [zf112_2, zgf_e, h.2.2.2.1, if_pos ((zn_le (by omega) (by omega)).mpr (by omega))]
      · rw [List.drop_eq_nil_of_le (by rw [List.length_take]; omega)]
        exact hP
    | succ m ih =>
      intro f k t D hk hf h hP hcp hc hl
      obtain ⟨f, rfl⟩ : ∃ f', f = f' + 1 := ⟨f - 1, by omega⟩
      have h80 := h.2.2.1.2.1
      have hn := h.2.2.2.2
      have hkl : k < L.length := by omega
      obtain ⟨x, hx⟩ : ∃ x, x = zsL L k := ⟨_, rfl⟩
      obtain ⟨a1, a2, a3, a4⟩ := h.2.2.1.2.2 k hkl
      have hv := hS x (by rw [hx]; exact zsL_m hkl)
      have ek := zky_c (row := row) (pl := pl) hv hA4 (by omega) hp
      rw [← hx] at a2 a3 a4
      have e0 : zpin B ((L.take n).drop k) CP row pl D = zpin B ((L.take n).drop (k + 1)) CP row pl (if zky row pl x = true then zcl2 B D (x.2.1.getD 0) (some (CP row)) else D) := by
        rw [zsL_d hn (by omega), ← hx]
        unfold zpin
        rw [List.foldl_cons]
      rw [e0] at hc hl ⊢
      rw [zf112_2, zgf_e, h.2.2.2.1, if_neg (fun q => by have := (zn_le (by omega) (by omega)).mp q; omega), if_neg (zn_nm (by omega)), show zrf 69 4 = 82 from rfl, show zrf 69 5 = 83 from rfl, zal_n (by show k < 80; omega), a3]
      by_cases g : zky row pl x = true
      · obtain ⟨g1, g2⟩ := ek.mpr g
        rw [if_pos g] at hc hl ⊢
        have hj : ∃ j, x.2.1 = some j ∧ j < B.length := by
          obtain ⟨w1, _⟩ := zky_e.mp g
          rcases hv with ⟨i, j, e, _⟩ | ⟨i, e, _⟩ | ⟨j, a, p, e, _, w, _⟩
          · rw [e] at w1; cases w1
          · rw [e] at w1; cases w1
          · exact ⟨j, by rw [e], w⟩
        obtain ⟨j, hj1, hj2⟩ := hj
        rw [hj1, show (some j).getD 0 = j from rfl] at hc hl ⊢
        obtain ⟨X, hX⟩ := zpin_x (B := B) (CP := CP) (row := row) (pl := pl) ((L.take n).drop (k + 1)) (zcl2 B D j (some (CP row)))
        obtain ⟨t1, c1, c2, c3⟩ := z113 (ab := some (CP row)) h hB hP hj2 (by rw [hX, List.length_append] at hc; omega) (by rw [hX, zlt_ap, List.length_append] at hl; omega)
        have c1' : zf113 69 (nI j) (nI (CP row)) t = some t1 := c1
        obtain ⟨t', d1, d2, d3⟩ := ih f (k + 1) t1 (zcl2 B D j (some (CP row))) (by omega) (by omega) (zAc_f h (fun p hp => c3 p (by omega))) c2 (by rw [c3 168 (by omega)]; exact hcp) hc hl
        refine ⟨t', ?_, d2, zFp_t c3 d3⟩
        rw [if_neg (fun q => q g1), zal_n (by show k < 80; omega), a4, if_neg (fun q => q g2), show zrf 69 3 = 81 from rfl, show zrf 69 12 = 168 from rfl, zal_n (by show k < 80; omega), a2, hj1, zal_n (by show row < 40; omega), hcp, show zoi (some j) = nI j from rfl, c1', zbv_e, zn_a1]
        exact d1
      · rw [if_neg g] at hc hl ⊢
        obtain ⟨t', d1, d2, d3⟩ := ih f (k + 1) t D (by omega) (by omega) h hP hcp hc hl
        refine ⟨t', ?_, d2, d3⟩
        by_cases g1 : zoi x.2.2.1 = nI row
        · have g2 : ¬ zpC x = nI (pl.getD 40) := fun q => g (ek.mp ⟨g1, q⟩)
          rw [if_neg (fun q => q g1), zal_n (by show k < 80; omega), a4, if_pos g2, zn_a1]
          exact d1
        · rw [if_pos g1, zn_a1]
          exact d1
  unfold zf112
  have hn := h.2.2.2.2
  have h80 := h.2.2.1.2.1
  have := l n zfz 0 s D (Nat.zero_add _) (by rw [zfz_e]; omega) h hP hcp hc hl
  exact this
theorem z111 {A B : List zN} {L : List zSp} {n : Nat} {CP : Nat → Nat} {u : Option Nat} (hA : zSm A) (hB : zSm B) (hS : ∀ x ∈ L, zSv A B x) (hu : ∀ x, u = some x → x < 40) : ∀ m c f t (s : zS) D, (∀ x, c = some x → x < A.length ∧ t + x + 1 ≤ 40 ∧ x + 1 < m) → t ≤ 40 → 0 < m → m ≤ f → zAc s A B L n → zPc 20 s D → (∀ x, (∃ y, c = some y ∧ zan A x y) → s 168 x = nI (CP x)) → (zerw A B (L.take n) CP u m c D).length ≤ 80 → (zlt (zerw A B (L.take n) CP u m c D)).length ≤ 600 →
    ∃ s', zf111_5 69 f (zoi u) (zoi c) (nI t) s = some s' ∧ zPc 20 s' (zerw A B (L.take n) CP u m c D) ∧ zFp 20 s s' := by
  have hA4 := hA.2.1
  intro m
  induction m with
  | zero => intro c f t s D _ _ h; omega
  | succ m ih =>
    intro c f t s D hc ht _ hf h hP hcp hcl hll
    obtain ⟨f, rfl⟩ : ∃ f', f = f' + 1 := ⟨f - 1, by omega⟩
    cases c with
    | none =>
      refine ⟨s, ?_, ?_, fun _ _ => rfl⟩
      · rw [zf111_5]
        split
        · rfl
        · split
          · rfl
          · rw [if_pos (show zoi none = -1 from rfl)]
      · rw [zerw]
        split <;> exact hP
    | some x =>
      obtain ⟨hx1, hx2, hx3⟩ := hc x rfl
      rw [zerw] at hcl hll ⊢
      rw [zf111_5, if_neg (fun q => by have := (zn_geL (k := 40) (by omega) (by decide)).mp q; omega)]
      by_cases e : some x = u
      · rw [if_pos e]
        refine ⟨s, ?_, hP, fun _ _ => rfl⟩
        rw [if_pos (by rw [e])]
      · rw [if_neg e] at hcl hll ⊢
        have ne : ¬ zoi (some x) = zoi u := by
          intro q
          cases hu' : u with
          | none => rw [hu'] at q; exact absurd q (zn_nm (by omega))
          | some y =>
            have := hu y hu'
            rw [hu'] at q
            exact e (by rw [hu', (zn_eq (a := x) (b := y) (by omega) (by omega)).mp q])
        rw [if_neg ne, show zoi (some x) = nI x from rfl, if_neg (zn_nm (by omega))]
        obtain ⟨X, hX⟩ := zerw_x (A := A) (B := B) (P := L.take n) (CP := CP) (u := u) m (zab A x) (zpin B (L.take n) CP x none D)
        obtain ⟨s1, c1, c2, c3⟩ := z112 (row := x) (pl := none) hA hB hS hx1 (fun i q => by cases q) h hP (hcp x ⟨x, rfl, zan_r⟩) (by rw [hX, List.length_append] at hcl; omega) (by rw [hX, zlt_ap, List.length_append] at hll; omega)
        have c1' : zf112 69 (nI x) 40 s = some s1 := c1
        have hA1 := zAc_f h (fun p hp => c3 p (by omega))
        obtain ⟨s', d1, d2, d3⟩ := ih (zab A x) f (t + 1) s1 (zpin B (L.take n) CP x none D) (fun y hy => by have := (zab_d hA.1 hy).1; exact ⟨by omega, by omega, by omega⟩) (by omega) (by omega) (by omega) hA1 c2 (fun z ⟨y, q1, q2⟩ => by rw [c3 168 (by omega)]; exact hcp z ⟨x, rfl, zan_s q1 q2⟩) hcl hll
        refine ⟨s', ?_, d2, zFp_t c3 d3⟩
        rw [c1', zbv_e, show zrf (zrf (zrf 69 6) 0) 1 = 6 from rfl, zal_n (by show x < 40; omega), show s1 6 x = zoi (zab A x) from (hA1.1.2.2.2 x hx1).2.1, zn_a1]
        exact d1
/-- the fates -/
def zfC (o : Option (Option Nat)) : Int32 := match o with
  | none => -1
  | some none => -2
  | some (some b) => nI b
theorem zfx_c {L : List zSp} {k a : Nat} (hk : k < L.length) (h1 : ∀ a, (L.filter (fun x => x.1 == some a)).length ≤ 1) : zfx (L.take (k + 1)) a = if (zsL L k).1 = some a then some (zsL L k).2.1 else zfx (L.take k) a := by
  have e : L.take (k + 1) = L.take k ++ [zsL L k] := by
    rw [List.take_succ_eq_append_getElem hk]
    congr 2
    unfold zsL
    rw [List.getD_eq_getElem?_getD, List.getElem?_eq_getElem hk]
    rfl
  unfold zfx
  rw [e, List.find?_append]
  by_cases g : (zsL L k).1 = some a
  · rw [if_pos g, zuq h1 hk g, Option.none_or, List.find?_cons_of_pos (by simpa using g)]
    rfl
  · rw [if_neg g, List.find?_cons_of_neg (by simpa using g), List.find?_nil, Option.or_none]
theorem zfx_v {A B : List zN} {P : List zSp} (hS : ∀ x ∈ P, zSv A B x) {a b : Nat} (h : zfx P a = some (some b)) : a < A.length ∧ b < B.length ∧ (zno A a).1 = (zno B b).1 := by
  unfold zfx at h
  cases hx : P.find? (fun x => x.1 == some a) with
  | none => rw [hx] at h; cases h
  | some x =>
    rw [hx] at h
    have hb : x.2.1 = some b := Option.some.inj h
    have hxp : x.1 = some a := by simpa using List.find?_some hx
    rcases hS x (List.mem_of_find?_eq_some hx) with ⟨i, j, e, h1, h2, h3⟩ | ⟨i, e, _⟩ | ⟨j, c, p, e, _⟩
    · rw [e] at hb hxp
      cases hb
      cases hxp
      exact ⟨h1, h2, h3⟩
    · rw [e] at hb; cases hb
    · rw [e] at hxp; cases hxp
theorem zfC_2 {A B : List zN} {P : List zSp} (hS : ∀ x ∈ P, zSv A B x) (hB : B.length ≤ 40) {a : Nat} : (zfC (zfx P a) = -2 ↔ zfx P a = some none) ∧ (zfC (zfx P a) = -1 ↔ zfx P a = none) := by
  cases h : zfx P a with
  | none => exact ⟨⟨fun q => absurd q (by decide), fun q => by cases q⟩, fun _ => rfl, fun _ => rfl⟩
  | some o =>
    cases o with
    | none => exact ⟨⟨fun _ => rfl, fun _ => rfl⟩, fun q => absurd q (by decide), fun q => by cases q⟩
    | some b =>
      have hb := (zfx_v hS h).2.1
      have n2 : ¬ nI b = -2 := fun q => by
        have h1 := zn_nn (a := b) (by omega)
        rw [q] at h1
        exact h1 (by decide)
      exact ⟨⟨fun q => absurd q n2, fun q => by cases q⟩, fun q => absurd q (zn_nm (by omega)), fun q => by cases q⟩
theorem z110 {A B : List zN} {L : List zSp} {n : Nat} (hA : zSm A) (hB : zSm B) (hS : ∀ x ∈ L, zSv A B x) : ∀ m f p (Y : zYY) (s : zS), p + m = A.length → m < f → zAc s A B L n → zPc 20 s Y.1 → zOp A (L.take n) p Y.2.2 → (∀ a, a < p → s 167 a = if zgB A (L.take n) a = true then -2 else zfC (zfx (L.take n) a)) → (∀ a, p ≤ a → a < A.length → s 167 a = zfC (zfx (L.take n) a)) → (∀ x, x < p → zgB A (L.take n) x = false → s 168 x = nI (Y.2.1 x)) → (zfin2 A B (L.take n) (zrun2 A B (L.take n) m p Y)).length ≤ 80 → (zlt (zfin2 A B (L.take n) (zrun2 A B (L.take n) m p Y))).length ≤ 600 →
    ∃ s', zf110_4 69 f (zoi Y.2.2) (nI p) s = some s' ∧ zPc 20 s' (zfin2 A B (L.take n) (zrun2 A B (L.take n) m p Y)) ∧ ∀ q, q < 20 ∨ (27 < q ∧ q < 167) ∨ 168 < q → s' q = s q := by
  have hA4 := hA.2.1
  have hB4 := hB.2.1
  have hSP : ∀ x ∈ L.take n, zSv A B x := fun x hx => hS x (List.mem_of_mem_take hx)
  intro m
  induction m with
  | zero =>
    intro f p Y s hp hf h hP hO hF1 hF2 hC hc hl
    obtain ⟨f, rfl⟩ : ∃ f', f = f' + 1 := ⟨f - 1, by omega⟩
    have hlt := zOp_lt hO
    obtain ⟨s', d1, d2, d3⟩ := z111 (u := none) (CP := Y.2.1) hA hB hS (fun x q => by cases q) 41 Y.2.2 zfz 0 s Y.1 (fun x hx => by have := hlt x hx; exact ⟨by omega, by omega, by omega⟩) (by decide) (by decide) (by rw [zfz_e]; decide) h hP (fun x ⟨y, q1, q2⟩ => by
      have hy := hlt y q1
      have := zan_le hA.1 q2
      refine hC x (by omega) ?_
      rcases hO with ⟨_, e⟩ | ⟨_, h4, _⟩
      · rw [e] at q1; cases q1
      · cases hg : zgB A (L.take n) x with
        | false => rfl
        | true => have := zgB_d hA.1 q2 hg; rw [(h4 y q1).2.2] at this; cases this) hc hl
    refine ⟨s', ?_, d2, fun q hq => d3 q (by omega)⟩
    have d1' : zf111 69 (zoi Y.2.2) (-1) s = some s' := d1
    rw [zf110_4, show zrf (zrf 69 6) 0 = 4 from rfl, zgf_e, h.1.1, if_pos ((zn_le (by omega) (by omega)).mpr (by omega)), d1', zbv_e]
  | succ m ih =>
    intro f p Y s hp hf h hP hO hF1 hF2 hC hc hl
    obtain ⟨f, rfl⟩ : ∃ f', f = f' + 1 := ⟨f - 1, by omega⟩
    have hpl : p < A.length := by omega
    have hlt := zOp_lt hO
    have hab : s 6 p = zoi (zab A p) := (h.1.2.2.2 p hpl).2.1
    have hO' := zOp_s (B := B) (Y := Y) hA.1 hpl hO
    rw [zrun2] at hc hl ⊢
    rw [zf110_4, show zrf (zrf 69 6) 0 = 4 from rfl, zgf_e, h.1.1, if_neg (fun q => by have := (zn_le (by omega) (by omega)).mp q; omega), show zrf 4 1 = 6 from rfl, zal_n (by show p < 40; omega), hab]
    -- a node whose upper one is there
    have go : zgO A (L.take n) (zab A p) = false → ∃ s', zf110_58 69 (zf110_4 69 f) (zoi Y.2.2) (nI p) (zoi (zab A p)) s = some s' ∧ zPc 20 s' (zfin2 A B (L.take n) (zrun2 A B (L.take n) m (p + 1) (zst2 A B (L.take n) p Y))) ∧ ∀ q, q < 20 ∨ (27 < q ∧ q < 167) ∨ 168 < q → s' q = s q := by
      intro hg
      have hst : zst2 A B (L.take n) p Y = if zgB A (L.take n) p = true then (zpiO B (L.take n) Y.2.1 (zab A p) p (zerw A B (L.take n) Y.2.1 (zab A p) 41 Y.2.2 Y.1), Y.2.1, zab A p) else (zpiO B (L.take n) Y.2.1 (zab A p) p (zerw A B (L.take n) Y.2.1 (zab A p) 41 Y.2.2 Y.1) ++ [zcpo A B (L.take n) Y.2.1 p], (fun x => if x = p then (zpiO B (L.take n) Y.2.1 (zab A p) p (zerw A B (L.take n) Y.2.1 (zab A p) 41 Y.2.2 Y.1)).length else Y.2.1 x), some p) := by
        unfold zst2
        rw [hg, if_neg (by decide)]
      obtain ⟨D1, hD1⟩ : ∃ D1, D1 = zerw A B (L.take n) Y.2.1 (zab A p) 41 Y.2.2 Y.1 := ⟨_, rfl⟩
      obtain ⟨D2, hD2⟩ : ∃ D2, D2 = zpiO B (L.take n) Y.2.1 (zab A p) p D1 := ⟨_, rfl⟩
      rw [← hD1, ← hD2] at hst
      -- room
      obtain ⟨X1, hX1⟩ : ∃ X, (zst2 A B (L.take n) p Y).1 = D2 ++ X := by
        rw [hst]
        split
        · exact ⟨[], (List.append_nil _).symm⟩
        · exact ⟨_, rfl⟩
      obtain ⟨X2, hX2⟩ := zrun2_x (A := A) (B := B) (P := L.take n) m (p + 1) (zst2 A B (L.take n) p Y)
      obtain ⟨X3, hX3⟩ := zerw_x (A := A) (B := B) (P := L.take n) (CP := (zrun2 A B (L.take n) m (p + 1) (zst2 A B (L.take n) p Y)).2.1) (u := none) 41 (zrun2 A B (L.take n) m (p + 1) (zst2 A B (L.take n) p Y)).2.2 (zrun2 A B (L.take n) m (p + 1) (zst2 A B (L.take n) p Y)).1
      have hfin : zfin2 A B (L.take n) (zrun2 A B (L.take n) m (p + 1) (zst2 A B (L.take n) p Y)) = (zst2 A B (L.take n) p Y).1 ++ (X2 ++ X3) := by
        unfold zfin2
        rw [hX3, hX2, List.append_assoc]
      have c80 : (zst2 A B (L.take n) p Y).1.length ≤ 80 := by rw [hfin, List.length_append] at hc; omega
      have c600 : (zlt (zst2 A B (L.take n) p Y).1).length ≤ 600 := by rw [hfin, zlt_ap, List.length_append] at hl; omega
      have d80 : D2.length ≤ 80 := by rw [hX1, List.length_append] at c80; omega
      have d600 : (zlt D2).length ≤ 600 := by rw [hX1, zlt_ap, List.length_append] at c600; omega
      obtain ⟨X4, hX4⟩ : ∃ X, D2 = D1 ++ X := by rw [hD2]; exact zpiO_x
      have e80 : D1.length ≤ 80 := by rw [hX4, List.length_append] at d80; omega
      have e600 : (zlt D1).length ≤ 600 := by rw [hX4, zlt_ap, List.length_append] at d600; omega
      -- the ends
      obtain ⟨s1, a1, a2, a3⟩ := z111 (u := zab A p) (CP := Y.2.1) hA hB hS (fun x q => by have := (zab_d hA.1 q).1; omega) 41 Y.2.2 zfz 0 s Y.1 (fun x hx => by have := hlt x hx; exact ⟨by omega, by omega, by omega⟩) (by decide) (by decide) (by rw [zfz_e]; decide) h hP (fun x ⟨y, q1, q2⟩ => by
        have hy := hlt y q1
        have := zan_le hA.1 q2
        refine hC x (by omega) ?_
        rcases hO with ⟨_, e⟩ | ⟨_, h4, _⟩
        · rw [e] at q1; cases q1
        · cases hg : zgB A (L.take n) x with
          | false => rfl
          | true => have := zgB_d hA.1 q2 hg; rw [(h4 y q1).2.2] at this; cases this) (by rw [← hD1]; exact e80) (by rw [← hD1]; exact e600)
      rw [← hD1] at a2
      have a1' : zf111 69 (zoi Y.2.2) (zoi (zab A p)) s = some s1 := a1
      have h1 := zAc_f h (fun q hq => a3 q (by omega))
      -- put in
      obtain ⟨s2, b1, b2, b3⟩ : ∃ s2, zf112 69 (zoi (zab A p)) (nI p) s1 = some s2 ∧ zPc 20 s2 D2 ∧ zFp 20 s1 s2 := by
        cases hq : zab A p with
        | none =>
          refine ⟨s1, ?_, ?_, fun _ _ => rfl⟩
          · obtain ⟨M, hM⟩ : ∃ M, zfz = M + 1 := ⟨9999, zfz_e⟩
            unfold zf112
            rw [hM, zf112_2]
            rw [zgf_e]
            split
            · rfl
            · rw [if_pos (show zoi none = -1 from rfl)]
          · rw [hD2, hq]
            exact a2
        | some q =>
          have hqp := (zab_d hA.1 hq).1
          rw [hq] at hg hD2
          have hD2' : D2 = zpin B (L.take n) Y.2.1 q (some p) D1 := hD2
          obtain ⟨s2, w1, w2, w3⟩ := z112 (row := q) (pl := some p) (CP := Y.2.1) hA hB hS (by omega) (fun i w => by cases w; omega) h1 a2 (by rw [a3 168 (by omega)]; exact hC q hqp hg) (by rw [← hD2']; exact d80) (by rw [← hD2']; exact d600)
          rw [← hD2'] at w2
          exact ⟨s2, w1, w2, w3⟩
      have h2 := zAc_f h1 (fun q hq => b3 q (by omega))
      have f2 : ∀ q, q < 20 ∨ 27 < q → s2 q = s q := fun q hq => by rw [b3 q (by omega), a3 q (by omega)]
      have hfp : s2 167 p = zfC (zfx (L.take n) p) := by rw [f2 167 (by omega)]; exact hF2 p (Nat.le_refl _) hpl
      have hgp := zgB_e (A := A) (P := L.take n) hA.1 (a := p)
      rw [hg, Bool.or_false] at hgp
      obtain ⟨z1, z2⟩ := zfC_2 (a := p) hSP hB4
      unfold zf110_58
      rw [a1', zbv_e, b1, zbv_e, show zrf 69 11 = 167 from rfl, zal_n (by show p < 40; omega), hfp]
      by_cases gg : zfx (L.take n) p = some none
      · have hgpt : zgB A (L.take n) p = true := by rw [hgp]; exact decide_eq_true gg
        rw [if_pos (z1.mpr gg), zn_a1]
        rw [hgpt, if_pos rfl] at hst
        rw [hst] at hc hl hO' ⊢
        obtain ⟨s', d1, d2, d3⟩ := ih f (p + 1) (D2, Y.2.1, zab A p) s2 (by omega) (by omega) h2 b2 hO' (fun a ha => by
          rw [f2 167 (by omega)]
          by_cases w : a = p
          · subst w
            rw [hgpt, if_pos rfl, hF2 a (Nat.le_refl _) hpl, gg]
            rfl
          · exact hF1 a (by omega)) (fun a u w => by rw [f2 167 (by omega)]; exact hF2 a (by omega) w) (fun x hx hgx => by
          rw [f2 168 (by omega)]
          have : x ≠ p := fun w => by rw [w, hgpt] at hgx; cases hgx
          exact hC x (by omega) hgx) hc hl
        exact ⟨s', d1, d2, fun q hq => by rw [d3 q hq, f2 q (by omega)]⟩
      · have hgpf : zgB A (L.take n) p = false := by rw [hgp]; exact decide_eq_false gg
        rw [hgpf, if_neg (by decide)] at hst
        rw [if_neg (fun q => gg (z1.mp q))]
        rw [hst] at hc hl hO' c80 c600 ⊢
        -- the copy
        have cab : (zcpo A B (L.take n) Y.2.1 p).2.1 = (zab A p).map Y.2.1 := by
          unfold zcpo
          split <;> rfl
        obtain ⟨s3, hs3⟩ : ∃ s3, s3 = zw s2 168 p (nI D2.length) := ⟨_, rfl⟩
        have f3 : ∀ q, q ≠ 168 → s3 q = s2 q := fun q hq => by rw [hs3, zw_ne hq]
        have h3 := zAc_f h2 (fun q hq => f3 q (by omega))
        have P3 : zPc 20 s3 D2 := zPc_f zQ20 b2 (fun q u w => f3 q (by omega))
        rw [List.length_append, List.length_singleton] at c80
        rw [zlt_app, List.length_append] at c600
        obtain ⟨s4, e1, e2, e3⟩ : ∃ s4, zf114 69 (nI p) (zoi ((zab A p).map Y.2.1)) s2 = some s4 ∧ zPc 20 s4 (D2 ++ [zcpo A B (L.take n) Y.2.1 p]) ∧ zFp 20 s3 s4 := by
          unfold zf114
          rw [show zrf 69 8 = 20 from rfl, zgf_e, b2.1, show zrf 69 12 = 168 from rfl, zas_n (by show p < 40; omega), ← hs3, show zrf 69 11 = 167 from rfl, zal_n (by show p < 40; omega), f3 167 (by decide), hfp]
          by_cases g1 : zfx (L.take n) p = none
          · have e : zcpo A B (L.take n) Y.2.1 p = ((zno A p).1, (zab A p).map Y.2.1, (zno A p).2.2.1, (zno A p).2.2.2) := by unfold zcpo; rw [g1]
            rw [e] at c600 ⊢
            obtain ⟨s4, w1, w2, w3⟩ := z80 (q := 20) (r := 4) (j := p) (a := (zab A p).map Y.2.1) zQ20 zQ4 (by decide) P3 h3.1 hpl (by show _ < 80; omega) (by show _ ≤ 600; omega)
            exact ⟨s4, by rw [if_neg (show ¬ ¬ zfC (zfx (L.take n) p) = -1 from fun q => q (z2.mpr g1)), show zrf (zrf 69 6) 0 = 4 from rfl, w1, zbv_e], w2, w3⟩
          · cases hb : zfx (L.take n) p with
            | none => exact absurd hb g1
            | some ob =>
              cases ob with
              | none => exact absurd hb gg
              | some b =>
                have hbl := (zfx_v hSP hb).2.1
                have e : zcpo A B (L.take n) Y.2.1 p = ((zno B b).1, (zab A p).map Y.2.1, (zno B b).2.2.1, (zno B b).2.2.2) := by unfold zcpo; rw [hb]
                rw [e] at c600 ⊢
                obtain ⟨s4, w1, w2, w3⟩ := z80 (q := 20) (r := 12) (j := b) (a := (zab A p).map Y.2.1) zQ20 zQ12 (by decide) P3 h3.2.1 hbl (by show _ < 80; omega) (by show _ ≤ 600; omega)
                refine ⟨s4, ?_, w2, w3⟩
                rw [if_pos (show ¬ zfC (some (some b)) = -1 from zn_nm (by omega)), zal_n (by show p < 40; omega), f3 167 (by decide), hfp, hb, show zrf (zrf 69 7) 0 = 12 from rfl, show zfC (some (some b)) = nI b from rfl, w1, zbv_e]
        have f4 : ∀ q, q < 20 ∨ (27 < q ∧ q ≠ 168) → s4 q = s q := fun q hq => by rw [e3 q (by omega), f3 q (by omega), f2 q (by omega)]
        have h4 := zAc_f h3 (fun q hq => e3 q (by omega))
        obtain ⟨s', d1, d2, d3⟩ := ih f (p + 1) (D2 ++ [zcpo A B (L.take n) Y.2.1 p], (fun x => if x = p then D2.length else Y.2.1 x), some p) s4 (by omega) (by omega) h4 e2 hO' (fun a ha => by
          rw [f4 167 (by omega)]
          by_cases w : a = p
          · subst w
            rw [hgpf, if_neg (by decide)]
            exact hF2 a (Nat.le_refl _) hpl
          · exact hF1 a (by omega)) (fun a u w => by rw [f4 167 (by omega)]; exact hF2 a (by omega) w) (fun x hx hgx => by
          rw [e3 168 (by omega), hs3]
          dsimp only
          by_cases w : x = p
          · rw [w, zw_s, if_pos rfl]
          · rw [zw_o (Or.inr w), if_neg w, f2 168 (by omega)]
            exact hC x (by omega) hgx) hc hl
        refine ⟨s', ?_, d2, fun q hq => by rw [d3 q hq, f4 q (by omega)]⟩
        have e100 : zf110_100 69 (zf110_4 69 f) (nI p) (zoi ((zab A p).map Y.2.1)) (nI p) s2 = some s' := by
          unfold zf110_100
          rw [e1, zbv_e, zn_a1]
          exact d1
        cases hq : zab A p with
        | none =>
          rw [hq] at e100
          rw [if_neg (show ¬ ¬ zoi none = -1 from fun q => q rfl)]
          exact e100
        | some q =>
          have hqp := (zab_d hA.1 hq).1
          rw [hq] at e100 hg
          rw [show zoi (some q) = nI q from rfl, if_pos (show ¬ nI q = -1 from zn_nm (by omega)), show zrf 69 12 = 168 from rfl, zal_n (by show q < 40; omega), f2 168 (by omega), hC q hqp hg]
          exact e100
    cases hq : zab A p with
    | none =>
      rw [if_pos (show zoi none = -1 from rfl)]
      rw [hq] at go
      exact go rfl
    | some q =>
      have hqp := (zab_d hA.1 hq).1
      rw [show zoi (some q) = nI q from rfl, if_neg (zn_nm (by omega)), show zrf 69 11 = 167 from rfl, zal_n (by show q < 40; omega), hF1 q hqp]
      rw [hq] at go
      cases hg : zgB A (L.take n) q with
      | true =>
        rw [if_pos rfl, if_neg (show ¬ ¬ (-2 : Int32) = -2 from fun w => w rfl), zas_n (by show p < 40; omega), zn_a1]
        have hst : zst2 A B (L.take n) p Y = Y := by
          unfold zst2
          rw [hq]
          exact if_pos hg
        have hgp : zgB A (L.take n) p = true := zgB_d hA.1 (zan_s hq zan_r) hg
        rw [hst] at hc hl hO' ⊢
        obtain ⟨s1, hs1⟩ : ∃ s1, s1 = zw s 167 p (-2) := ⟨_, rfl⟩
        have f1 : ∀ r, r ≠ 167 → s1 r = s r := fun r hr => by rw [hs1, zw_ne hr]
        rw [← hs1]
        obtain ⟨s', d1, d2, d3⟩ := ih f (p + 1) Y s1 (by omega) (by omega) (zAc_f h (fun r hr => f1 r (by omega))) (zPc_f zQ20 hP (fun r u w => f1 r (by omega))) hO' (fun a ha => by
          rw [hs1]
          by_cases w : a = p
          · subst w
            rw [zw_s, hgp, if_pos rfl]
          · rw [zw_o (Or.inr w)]
            exact hF1 a (by omega)) (fun a u w => by rw [hs1, zw_o (Or.inr (by omega))]; exact hF2 a (by omega) w) (fun x hx hgx => by
          rw [f1 168 (by decide)]
          have : x ≠ p := fun w => by rw [w, hgp] at hgx; cases hgx
          exact hC x (by omega) hgx) hc hl
        exact ⟨s', d1, d2, fun r hr => by rw [d3 r hr, f1 r (by omega)]⟩
      | false =>
        have hqn : ¬ zfC (zfx (L.take n) q) = -2 := by
          intro w
          have := (zfC_2 (a := q) hSP hB4).1.mp w
          rw [zgB_e hA.1, decide_eq_true this] at hg
          cases hg
        rw [if_neg (show ¬ false = true by decide), if_pos hqn]
        exact go hg
/-- carryOut -/
theorem z109 {s : zS} {A B : List zN} {L : List zSp} {n : Nat} (hA : zSm A) (hB : zSm B) (hS : ∀ x ∈ L, zSv A B x) (hU : ∀ a, (L.filter (fun x => x.1 == some a)).length ≤ 1) (hPA : zPc 4 s A) (hPB : zPc 12 s B) (hL : zScC s L) (hn : n ≤ L.length) (hc : (zap A B (L.take n)).length ≤ 80) (hl : (zlt (zap A B (L.take n))).length ≤ 600) :
    ∃ s', zf109 69 (nI n) s = some s' ∧ zPc 20 s' (zap A B (L.take n)) ∧ (∀ q, q < 20 ∨ (27 < q ∧ q < 167 ∧ q ≠ 69) ∨ 168 < q → s' q = s q) ∧ ∀ f, f ≠ 13 → s' 69 f = s 69 f := by
  have hA4 := hA.2.1
  have hB4 := hB.2.1
  have h80 := hL.2.1
  obtain ⟨s1, hs1⟩ : ∃ s1, s1 = zw s 69 13 (nI n) := ⟨_, rfl⟩
  have f1 : ∀ q, q ≠ 69 → s1 q = s q := fun q hq => by rw [hs1, zw_ne hq]
  obtain ⟨s2, a1, a2, a3, a4⟩ := z41 (q := 167) (N := 40) (x := -1) rfl 40 0 zfz s1 rfl (by rw [zfz_e]; decide)
  have a1' : zf41 167 (-1) s1 = some s2 := a1
  have C1 : zAc s1 A B L n := by
    refine ⟨zPc_f zQ4 hPA (fun q u w => f1 q (by omega)), zPc_f zQ12 hPB (fun q u w => f1 q (by omega)), ?_, by rw [hs1, zw_s], hn⟩
    unfold zScC
    rw [f1 80 (by decide), f1 81 (by decide), f1 82 (by decide), f1 83 (by decide), hs1, zw_o (Or.inr (by decide))]
    exact hL
  have C2 := zAc_f C1 (fun q hq => a4 q (by omega))
  have l : ∀ m f k (t : zS), k + m = n → m < f → zAc t A B L n → (∀ a, a < 40 → t 167 a = zfC (zfx (L.take k) a)) → ∃ t', zf109_15 69 f (nI k) t = some t' ∧ zPc 20 t' (zap A B (L.take n)) ∧ ∀ q, q < 20 ∨ (27 < q ∧ q < 167) ∨ 168 < q → t' q = t q := by
    intro m
    induction m with
    | zero =>
      intro f k t hk hf h hF
      obtain ⟨f, rfl⟩ : ∃ f', f = f' + 1 := ⟨f - 1, by omega⟩
      obtain ⟨t1, b1, b2, b3⟩ := z71 (q := 20) (s := t) zQ20
      have hkn : k = n := by omega
      subst hkn
      obtain ⟨t', d1, d2, d3⟩ := z110 (n := k) hA hB hS A.length zfz 0 ([], fun _ => 0, none) t1 (Nat.zero_add _) (by rw [zfz_e]; omega) (zAc_f h (fun q hq => b3 q (by omega))) b2 (Or.inl ⟨rfl, rfl⟩) (fun a ha => absurd ha (Nat.not_lt_zero _)) (fun a _ ha => by rw [b3 167 (by omega)]; exact hF a (by omega)) (fun x hx => absurd hx (Nat.not_lt_zero _)) hc hl
      refine ⟨t', ?_, d2, fun q hq => by rw [d3 q hq, b3 q (by omega)]⟩
      have d1' : zf110 69 t1 = some t' := d1
      rw [zf109_15, zgf_e, h.2.2.2.1, if_pos ((zn_le (by omega) (by omega)).mpr (by omega)), show zrf 69 8 = 20 from rfl, b1, zbv_e, d1', zbv_e]
    | succ m ih =>
      intro f k t hk hf h hF
      obtain ⟨f, rfl⟩ : ∃ f', f = f' + 1 := ⟨f - 1, by omega⟩
      have hkl : k < L.length := by omega
      obtain ⟨w1, w2, _, _⟩ := h.2.2.1.2.2 k hkl
      have hv := hS _ (zsL_m hkl)
      rw [zf109_15, zgf_e, h.2.2.2.1, if_neg (fun q => by have := (zn_le (by omega) (by omega)).mp q; omega), show zrf 69 2 = 80 from rfl, show zrf 69 3 = 81 from rfl, show zrf 69 11 = 167 from rfl, zal_n (by show k < 80; omega), w1, zn_a1]
      cases ho : (zsL L k).1 with
      | none =>
        rw [if_pos (show zoi none = -1 from rfl)]
        exact ih f (k + 1) t (by omega) (by omega) h (fun a ha => by rw [zfx_c hkl hU, ho, if_neg (by simp)]; exact hF a ha)
      | some i =>
        have hi : i < A.length := by
          rcases hv with ⟨i', j, e, q, _⟩ | ⟨i', e, _, q⟩ | ⟨j, a, p, e, _⟩
          · rw [e] at ho; cases ho; exact q
          · rw [e] at ho; cases ho; exact q
          · rw [e] at ho; cases ho
        rw [show zoi (some i) = nI i from rfl, if_neg (zn_nm (by omega)), zal_n (by show k < 80; omega), w1, ho, zal_n (by show k < 80; omega), w2]
        obtain ⟨t1, ht1⟩ : ∃ t1, t1 = zw t 167 i (zfC (some (zsL L k).2.1)) := ⟨_, rfl⟩
        have g1 : ∀ q, q ≠ 167 → t1 q = t q := fun q hq => by rw [ht1, zw_ne hq]
        obtain ⟨t', d1, d2, d3⟩ := ih f (k + 1) t1 (by omega) (by omega) (zAc_f h (fun q hq => g1 q (by omega))) (fun a ha => by
          rw [zfx_c hkl hU, ho, ht1]
          by_cases e : a = i
          · subst e
            rw [zw_s, if_pos rfl]
          · rw [zw_o (Or.inr e), if_neg (fun z => e (Option.some.inj z).symm)]
            exact hF a ha)
        refine ⟨t', ?_, d2, fun q hq => by rw [d3 q hq, g1 q (by omega)]⟩
        cases hj : (zsL L k).2.1 with
        | none =>
          rw [if_neg (show ¬ ¬ zoi none = -1 from fun q => q rfl), show zoi (some i) = nI i from rfl, zas_n (by show i < 40; omega)]
          rw [hj] at ht1
          rw [show (-2 : Int32) = zfC (some none) from rfl, ← ht1]
          exact d1
        | some j =>
          have hjb : j < B.length := by
            rcases hv with ⟨i', j', e, _, q, _⟩ | ⟨i', e, _⟩ | ⟨j', a, p, e, _, q, _⟩
            · rw [e] at hj; cases hj; exact q
            · rw [e] at hj; cases hj
            · rw [e] at hj; cases hj; exact q
          rw [if_pos (show ¬ zoi (some j) = -1 from zn_nm (by omega)), zal_n (by show k < 80; omega), w2, hj, show zoi (some i) = nI i from rfl, zas_n (by show i < 40; omega)]
          rw [hj] at ht1
          rw [show zoi (some j) = zfC (some (some j)) from rfl, ← ht1]
          exact d1
  obtain ⟨s', d1, d2, d3⟩ := l n zfz 0 s2 (Nat.zero_add _) (by rw [zfz_e]; omega) C2 (fun a ha => by rw [a3 a (Nat.zero_le _) ha]; rfl)
  refine ⟨s', ?_, d2, fun q hq => by rw [d3 q (by omega), a4 q (by omega), f1 q (by omega)], fun f hf => by rw [d3 69 (by omega), a4 69 (by decide), hs1, zw_o (Or.inr hf)]⟩
  unfold zf109
  rw [zpf_e, ← hs1, show zrf 69 11 = 167 from rfl, a1', zbv_e]
  exact d1
