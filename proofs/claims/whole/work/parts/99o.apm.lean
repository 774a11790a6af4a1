/-! apply, the model's. -/
set_option maxRecDepth 100000
set_option linter.unusedVariables false
theorem zend_a {D : List zN} {n : Nat} (hW : zWf D) (hn : n < D.length) : ∀ u, n ≤ u → u < zend D n → zan D n u := by
  obtain ⟨_, _, e3, _⟩ := zend_p hn
  intro u
  induction u using Nat.strongRecOn with
  | ind u ih =>
    intro h1 h2
    by_cases g : u = n
    · rw [g]; exact zan_r
    · obtain ⟨v, w1, w2⟩ := e3 u (by omega) h2
      have := (zab_d hW w1).1
      exact zan_s w1 (ih v this w2 (by omega))
theorem zend_n {D : List zN} {n : Nat} (hW : zWf D) (hn : n < D.length) : ∀ m, ¬ zan D n (zend D n + m) := by
  obtain ⟨e1, e2, e3, e4⟩ := zend_p hn
  intro m
  induction m with
  | zero =>
    intro h
    rcases zan_c h with q | ⟨v, q1, q2⟩
    · omega
    · have := e4 v q1
      have := zan_le hW q2
      omega
  | succ m ih =>
    intro h
    rcases zan_c h with q | ⟨v, q1, q2⟩
    · omega
    · have := (zab_d hW q1).2
      rw [show zend D n + (m + 1) - 1 = zend D n + m by omega] at this
      exact ih (zan_t q2 this)
theorem zend_x {D : List zN} {n x : Nat} (hW : zWf D) (hn : n < D.length) (h : zan D n x) : x < zend D n := Nat.lt_of_not_le (fun q => zend_n hW hn (x - zend D n) (by rw [show zend D n + (x - zend D n) = x by omega]; exact h))
/-- where a node's subtree ends, when the one in front is in it -/
theorem zend_i {D : List zN} {c p : Nat} (hW : zWf D) (hc : c < D.length) (hp : 0 < p) (h : zan D c (p - 1)) : zend D c = p ↔ ∀ v, zab D p = some v → v < c := by
  obtain ⟨e1, e2, e3, e4⟩ := zend_p hc
  have h1 := zend_x hW hc h
  constructor
  · intro e v hv
    exact e4 v (by rw [e]; exact hv)
  · intro h2
    refine Classical.byContradiction fun q => ?_
    obtain ⟨v, w1, w2⟩ := e3 p (by have := zan_le hW h; omega) (by omega)
    have := h2 v w1
    omega
theorem zm224 {i n : Nat} {s : zS} {D : List zN} (hi : i < 2) (hP : zPm i s D) (hS : zSm D) (hn : n < D.length) : zf224 179 (nI i) (nI n) s = some (nI (zend D n), s) := by
  have h40 := hS.2.1
  have hW := hS.1
  obtain ⟨e1, e2, e3, e4⟩ := zend_p hn
  have climb : ∀ {k7 : Int32 → Int32 → Int32 → Int32 → zS → Option (Int32 × zS)} {x3 : Int32} f at', at' < f → at' < D.length → zan D n at' → zf224_35 179 k7 f (nI i) (nI n) x3 (nI at') s = zf224_69 179 k7 (nI i) (nI n) x3 1 s := by
    intro k7 x3 f
    induction f with
    | zero => intro at' h; omega
    | succ f ih =>
      intro at' h1 h2 h3
      have hle := zan_le hW h3
      rw [zf224_35]
      by_cases g : at' = n
      · rw [if_pos ((zn_le (by omega) (by omega)).mpr (by omega)), if_neg (fun q => q (by rw [g]))]
      · rw [if_neg (fun q => by have := (zn_le (by omega) (by omega)).mp q; omega)]
        rcases zan_c h3 with q | ⟨y, q1, q2⟩
        · omega
        · have hy := (zab_d hW q1).1
          rw [show zrf 179 24 = 197 from rfl, zn_100, zal_n (by show 100 * i + at' < 400; omega), show s 197 (100 * i + at') = zoi (zab D at') from (hP.2.2.2.2.2 at' h2).2.1, q1]
          exact ih y (by omega) (by omega) q2
  have loop : ∀ m f e, n < e → e + m = zend D n → m + 1 < f → zf224_7 179 f (nI i) (nI n) (nI e) 1 s = some (nI (zend D n), s) := by
    intro m
    induction m with
    | zero =>
      intro f e h1 h2 h3
      obtain ⟨f, rfl⟩ : ∃ f', f = f' + 2 := ⟨f - 2, by omega⟩
      have he : e = zend D n := by omega
      subst he
      rw [show f + 2 = (f + 1) + 1 by omega, zf224_7, show zrf 179 22 = 195 from rfl, zal_n (by show i < 4; omega), hP.1]
      by_cases g : zend D n < D.length
      · rw [if_neg (fun q => by have := (zn_le (by omega) (by omega)).mp q; omega), if_neg (show ¬ (1 : Int32) = 0 by decide), show zrf 179 24 = 197 from rfl, zn_100, zal_n (by show 100 * i + zend D n < 400; omega), show s 197 (100 * i + zend D n) = zoi (zab D (zend D n)) from (hP.2.2.2.2.2 _ g).2.1]
        obtain ⟨M, hM⟩ : ∃ M, zfz = M + 1 := ⟨9999, zfz_e⟩
        rcases (hW _ g).2.1 with ⟨q, _⟩ | ⟨v, w1, w2, _⟩
        · omega
        · have := e4 v w2
          rw [w2, hM, zf224_35, show zoi (some v) = nI v from rfl, if_pos ((zn_le (by omega) (by omega)).mpr (by omega)), if_pos (fun q => by have := (zn_eq (by omega) (by omega)).mp q; omega)]
          unfold zf224_69
          rw [if_pos rfl, zn_a0, zf224_7, show zrf 179 22 = 195 from rfl, zal_n (by show i < 4; omega)]
          split
          · rfl
          · rw [if_pos rfl]
      · rw [if_pos ((zn_le (by omega) (by omega)).mpr (by omega))]
    | succ m ih =>
      intro f e h1 h2 h3
      obtain ⟨f, rfl⟩ : ∃ f', f = f' + 1 := ⟨f - 1, by omega⟩
      obtain ⟨v, w1, w2⟩ := e3 e h1 (by omega)
      have hv := (zab_d hW w1).1
      have hel : e < D.length := by omega
      rw [zf224_7, show zrf 179 22 = 195 from rfl, zal_n (by show i < 4; omega), hP.1, if_neg (fun q => by have := (zn_le (by omega) (by omega)).mp q; omega), if_neg (show ¬ (1 : Int32) = 0 by decide), show zrf 179 24 = 197 from rfl, zn_100, zal_n (by show 100 * i + e < 400; omega), show s 197 (100 * i + e) = zoi (zab D e) from (hP.2.2.2.2.2 e hel).2.1, w1, show zoi (some v) = nI v from rfl, climb zfz v (by rw [zfz_e]; omega) (by omega) (zend_a hW hn v w2 (by omega))]
      unfold zf224_69
      rw [if_neg (show ¬ (1 : Int32) = 0 by decide), zn_a1]
      exact ih f (e + 1) (by omega) (by omega) (by omega)
  unfold zf224
  rw [zn_a1]
  exact loop (zend D n - (n + 1)) zfz (n + 1) (by omega) (by omega) (by rw [zfz_e]; omega)
/-- what the model's apply looks at -/
def zAm (s : zS) (A B : List zN) (L : List zSp) (n : Nat) : Prop := zPm 0 s A ∧ zPm 1 s B ∧ zScM s L ∧ n ≤ L.length ∧ ∀ a, a < A.length → s 217 a = (if zgB A (L.take n) a = true then 1 else 0) ∧ s 218 a = (match zfx (L.take n) a with | some (some b) => nI b | _ => -1)
theorem zAm_f {s s' : zS} {A B : List zN} {L : List zSp} {n : Nat} (h : zAm s A B L n) (h1 : zFm 2 s s') : zAm s' A B L n := by
  obtain ⟨a1, a2, a3, a4, a5⟩ := h
  refine ⟨zPm_f a1 (by decide) h1, zPm_f a2 (by decide) h1, zScM_f a3 (fun p u w => h1.1 p (by omega)) (by rw [h1.1 179 (by omega)]), a4, ?_⟩
  rw [h1.1 217 (by omega), h1.1 218 (by omega)]
  exact a5
theorem zAm_w {s : zS} {A B : List zN} {L : List zSp} {n k : Nat} {x : Int32} (h : zAm s A B L n) : zAm (zw s 219 k x) A B L n := by
  obtain ⟨a1, a2, a3, a4, a5⟩ := h
  refine ⟨zPm_e a1 (fun p u w => zw_ne (by omega)), zPm_e a2 (fun p u w => zw_ne (by omega)), zScM_f a3 (fun p u w => zw_ne (by omega)) (by rw [zw_ne (by decide)]), a4, ?_⟩
  rw [zw_ne (q := 217) (by decide), zw_ne (q := 218) (by decide)]
  exact a5
theorem zky_m {A B : List zN} {x : zSp} {row : Nat} {pl : Option Nat} (hx : zSv A B x) (hA : A.length ≤ 40) (hr : row < 40) (hp : ∀ i, pl = some i → i < 40) : zky row pl x = true ↔ (¬ 0 ≤ zoi x.1 ∧ zoi x.2.2.1 = nI row ∧ zoi x.2.2.2 = zoi pl) := by
  rw [zky_e]
  have pos : ∀ i : Nat, i < 40 → 0 ≤ nI i := fun i hi => Int32.not_lt.mp (zn_nn (by omega))
  rcases hx with ⟨i, j, e, h1, _⟩ | ⟨i, e, _, h1⟩ | ⟨j, a, p, e, _, _, ha, hi⟩
  · subst e
    exact ⟨fun q => (by cases q.1), fun q => absurd (pos i (by omega)) q.1⟩
  · subst e
    exact ⟨fun q => (by cases q.1), fun q => absurd (pos i (by omega)) q.1⟩
  · subst e
    have b1 : ∀ l, p = some l → l < 2000 := fun l h => by have := zab_lt (hi.1 l h); omega
    have b2 : ∀ l, pl = some l → l < 2000 := fun l h => by have := hp l h; omega
    constructor
    · intro ⟨_, q1, q2⟩
      cases q1
      dsimp only at q2
      subst q2
      exact ⟨by show ¬ (0 : Int32) ≤ -1; decide, rfl, rfl⟩
    · intro ⟨_, q1, q2⟩
      have e1 : a = row := (zn_eq (a := a) (b := row) (by omega) (by omega)).mp q1
      exact ⟨rfl, by rw [e1], (zoi_eq b1 b2).mp q2⟩
theorem zm225_74 {A B : List zN} {L : List zSp} {n : Nat} {D : List zN} {j row : Nat} {ab : Nat} {k3 : Int32 → Int32 → Int32 → Int32 → zS → Option zS} {x2 x3 x4 : Int32} (hB : zSm B) (hj : j < B.length) (hr : row < 40) (hc : (zcl2 B D j (some ab)).length ≤ 80) (hl : (zlt (zcl2 B D j (some ab))).length ≤ 600) :
    ∀ m f u (t : zS), j ≤ u → u + m = zend B j → m < f → zAm t A B L n → zPm 2 t (D ++ (List.range' j (u - j)).map (zcq B D.length j (some ab))) → t 219 row = nI ab → ∃ t', zf225_74 179 k3 f (nI row) x2 x3 x4 (nI j) (nI (zend B j)) (nI D.length - nI j) (nI u) t = k3 (nI row) x2 x3 (x4 + 1) t' ∧ zPm 2 t' (zcl2 B D j (some ab)) ∧ zFm 2 t t' := by
  have hB4 := hB.2.1
  obtain ⟨e1, e2, e3, e4⟩ := zend_p hj
  have piece : ∀ u, j ≤ u → u < zend B j → D ++ (List.range' j (u + 1 - j)).map (zcq B D.length j (some ab)) = D ++ (List.range' j (u - j)).map (zcq B D.length j (some ab)) ++ [zcq B D.length j (some ab) u] := by
    intro u h1 h2
    rw [show u + 1 - j = (u - j) + 1 by omega, List.range'_concat, List.map_append, show j + 1 * (u - j) = u by omega, List.append_assoc]
    rfl
  have whole : ∀ u, j ≤ u → u ≤ zend B j → ∃ E, zcl2 B D j (some ab) = D ++ (List.range' j (u - j)).map (zcq B D.length j (some ab)) ++ E := by
    intro u h1 h2
    refine ⟨(List.range' u (zend B j - u)).map (zcq B D.length j (some ab)), ?_⟩
    unfold zcl2
    rw [List.append_assoc, ← List.map_append]
    congr 2
    have := List.range'_append (s := j) (m := u - j) (n := zend B j - u) (step := 1)
    rw [show j + 1 * (u - j) = u by omega, show u - j + (zend B j - u) = zend B j - j by omega] at this
    exact this.symm
  intro m
  induction m with
  | zero =>
    intro f u t h1 h2 hf hA hPt hrn
    obtain ⟨f, rfl⟩ : ∃ f', f = f' + 1 := ⟨f - 1, by omega⟩
    refine ⟨t, ?_, ?_, zFm_r⟩
    · rw [zf225_74, if_pos ((zn_le (by omega) (by omega)).mpr (by omega))]
    · rw [show u = zend B j by omega] at hPt
      exact hPt
  | succ m ih =>
    intro f u t h1 h2 hf hA hPt hrn
    obtain ⟨f, rfl⟩ : ∃ f', f = f' + 1 := ⟨f - 1, by omega⟩
    have hul : u < B.length := by omega
    obtain ⟨E, hE⟩ := whole (u + 1) (by omega) (by omega)
    rw [piece u h1 (by omega)] at hE
    have hlen : (zcl2 B D j (some ab)).length = (D ++ (List.range' j (u - j)).map (zcq B D.length j (some ab))).length + 1 + E.length := by rw [hE, List.length_append, List.length_append, List.length_singleton]
    have hlet : (zlt (zcl2 B D j (some ab))).length = (zlt (D ++ (List.range' j (u - j)).map (zcq B D.length j (some ab)))).length + (zno B u).2.2.2.length + (zlt E).length := by
      rw [hE, zlt_ap, zlt_app, List.length_append, List.length_append]
      rfl
    obtain ⟨t1, c1, c2, c3⟩ := zm198 (i := 2) (f := 1) (j := u) (a := if u = j then some ab else (zab B u).map (fun v => D.length + (v - j))) (by decide) (by decide) (by decide) hPt (by omega) hA.2.1 hul (by omega)
    have c2' : zPm 2 t1 (D ++ (List.range' j (u + 1 - j)).map (zcq B D.length j (some ab))) := by rw [piece u h1 (by omega)]; exact c2
    obtain ⟨t', d1, d2, d3⟩ := ih f (u + 1) t1 (by omega) (by omega) (by omega) (zAm_f hA c3) c2' (by rw [c3.1 219 (by omega)]; exact hrn)
    refine ⟨t', ?_, d2, zFm_t c3 d3⟩
    rw [zf225_74, if_neg (fun q => by have := (zn_le (by omega) (by omega)).mp q; omega)]
    by_cases g : u = j
    · rw [if_pos g] at c1
      have c1' : zf198 179 2 1 (nI u) (nI ab) t = some t1 := c1
      rw [if_neg (show ¬ ¬ nI u = nI j from fun q => q (by rw [g])), show zrf 179 50 = 219 from rfl, zal_n (by show row < 40; omega), hrn]
      unfold zf225_115
      rw [c1', zbv_e, zn_a1]
      exact d1
    · obtain ⟨v, w1, w2⟩ := e3 u (by omega) (by omega)
      rw [if_neg g, w1] at c1
      have c1' : zf198 179 2 1 (nI u) (nI (D.length + (v - j))) t = some t1 := c1
      rw [if_pos (show ¬ nI u = nI j from fun q => g ((zn_eq (by omega) (by omega)).mp q)), show zrf 179 24 = 197 from rfl, show (100 : Int32) + nI u = nI (100 * 1 + u) by rw [zn_lit 100, zn_add], zal_n (by show 100 * 1 + u < 400; omega), show t 197 (100 * 1 + u) = zoi (zab B u) from (hA.2.1.2.2.2.2.2 u hul).2.1, w1, show zoi (some v) = nI v from rfl, zn_mv w2]
      unfold zf225_115
      rw [c1', zbv_e, zn_a1]
      exact d1
theorem zm225 {A B : List zN} {L : List zSp} {n : Nat} {CP : Nat → Nat} {row : Nat} {pl : Option Nat} (hA : zSm A) (hB : zSm B) (hS : ∀ x ∈ L, zSv A B x) (hr : row < A.length) (hp : ∀ i, pl = some i → i < 40) {s : zS} {D : List zN} (h : zAm s A B L n) (hP : zPm 2 s D) (hcp : s 219 row = nI (CP row)) (hc : (zpin B (L.take n) CP row pl D).length ≤ 80) (hl : (zlt (zpin B (L.take n) CP row pl D)).length ≤ 600) :
    ∃ s', zf225 179 (nI row) (zoi pl) (nI n) s = some s' ∧ zPm 2 s' (zpin B (L.take n) CP row pl D) ∧ zFm 2 s s' := by
  have hA4 := hA.2.1
  have hB4 := hB.2.1
  have l : ∀ m f k (t : zS) D, k + m = n → m < f → zAm t A B L n → zPm 2 t D → t 219 row = nI (CP row) → (zpin B ((L.take n).drop k) CP row pl D).length ≤ 80 → (zlt (zpin B ((L.take n).drop k) CP row pl D)).length ≤ 600 → ∃ t', zf225_3 179 f (nI row) (zoi pl) (nI n) (nI k) t = some t' ∧ zPm 2 t' (zpin B ((L.take n).drop k) CP row pl D) ∧ zFm 2 t t' := by
    intro m
    induction m with
    | zero =>
      intro f k t D hk hf h hP hcp hc hl
      obtain ⟨f, rfl⟩ : ∃ f', f = f' + 1 := ⟨f - 1, by omega⟩
      have := h.2.2.1.2.1
      have h5 := h.2.2.2.1
      refine ⟨t, ?_, ?_, zFm_r⟩
      · rw [zf225_3, if_pos ((zn_le (by omega) (by omega)).mpr (by omega))]
      · rw [List.drop_eq_nil_of_le (by rw [List.length_take]; omega)]
        exact hP
    | succ m ih =>
      intro f k t D hk hf h hP hcp hc hl
      obtain ⟨f, rfl⟩ : ∃ f', f = f' + 1 := ⟨f - 1, by omega⟩
      have h80 := h.2.2.1.2.1
      have hn := h.2.2.2.1
      have hkl : k < L.length := by omega
      obtain ⟨x, hx⟩ : ∃ x, x = zsL L k := ⟨_, rfl⟩
      obtain ⟨a1, a2, a3, a4⟩ := h.2.2.1.2.2 k hkl
      have hv := hS x (by rw [hx]; exact zsL_m hkl)
      have ek := zky_m (row := row) (pl := pl) hv hA4 (by omega) hp
      rw [← hx] at a1 a2 a3 a4
      have e0 : zpin B ((L.take n).drop k) CP row pl D = zpin B ((L.take n).drop (k + 1)) CP row pl (if zky row pl x = true then zcl2 B D (x.2.1.getD 0) (some (CP row)) else D) := by
        rw [zsL_d hn (by omega), ← hx]
        unfold zpin
        rw [List.foldl_cons]
      rw [e0] at hc hl ⊢
      rw [zf225_3, if_neg (fun q => by have := (zn_le (by omega) (by omega)).mp q; omega), show zrf 179 33 = 204 from rfl, show zrf 179 34 = 205 from rfl, show zrf 179 35 = 206 from rfl, show zrf 179 36 = 207 from rfl, zal_n (by show k < 120; omega), a1]
      by_cases g : zky row pl x = true
      · obtain ⟨g1, g2, g3⟩ := ek.mp g
        rw [if_pos g] at hc hl ⊢
        have hj : ∃ j, x.2.1 = some j ∧ j < B.length := by
          obtain ⟨w1, _⟩ := zky_e.mp g
          rcases hv with ⟨i, j, e, _⟩ | ⟨i, e, _⟩ | ⟨j, a, p, e, _, w, _⟩
          · rw [e] at w1; cases w1
          · rw [e] at w1; cases w1
          · exact ⟨j, by rw [e], w⟩
        obtain ⟨j, hj1, hj2⟩ := hj
        rw [hj1, show (some j).getD 0 = j from rfl] at hc hl ⊢
        obtain ⟨X, hX⟩ := zpin_x (B := B) (CP := CP) (row := row) (pl := pl) ((L.take n).drop (k + 1)) (zcl2 B D j (some (CP row)))
        have p0 : zPm 2 t (D ++ (List.range' j (j - j)).map (zcq B D.length j (some (CP row)))) := by
          rw [Nat.sub_self]
          show zPm 2 t (D ++ [])
          rw [List.append_nil]
          exact hP
        obtain ⟨e1, e2, e3, e4⟩ := zend_p hj2
        obtain ⟨t1, c1, c2, c3⟩ := zm225_74 (A := A) (L := L) (n := n) (D := D) (ab := CP row) (row := row) (k3 := zf225_3 179 f) (x2 := zoi pl) (x3 := nI n) (x4 := nI k) hB hj2 (by omega) (by rw [hX, List.length_append] at hc; omega) (by rw [hX, zlt_ap, List.length_append] at hl; omega) (zend B j - j) zfz j t (Nat.le_refl _) (by omega) (by rw [zfz_e]; omega) h p0 hcp
        obtain ⟨t', d1, d2, d3⟩ := ih f (k + 1) t1 (zcl2 B D j (some (CP row))) (by omega) (by omega) (zAm_f h c3) c2 (by rw [c3.1 219 (by omega)]; exact hcp) hc hl
        refine ⟨t', ?_, d2, zFm_t c3 d3⟩
        have e224 : zf224 179 1 (nI j) t = some (nI (zend B j), t) := zm224 (i := 1) (by decide) h.2.1 hB hj2
        have q2 : ∀ (c : Int32 → Option zS), zal t 195 2 c = c (t 195 2) := fun c => zal_n (j := 2) (by decide)
        rw [if_neg g1, zal_n (by show k < 120; omega), a3, if_neg (fun q => q g2), zal_n (by show k < 120; omega), a4, if_neg (fun q => q g3), zal_n (by show k < 120; omega), a2, hj1, show zoi (some j) = nI j from rfl, e224, zbi_e, show zrf 179 22 = 195 from rfl, q2, hP.1, c1, zn_a1]
        exact d1
      · rw [if_neg g] at hc hl ⊢
        obtain ⟨t', d1, d2, d3⟩ := ih f (k + 1) t D (by omega) (by omega) h hP hcp hc hl
        refine ⟨t', ?_, d2, d3⟩
        by_cases g1 : 0 ≤ zoi x.1
        · rw [if_pos g1, zn_a1]; exact d1
        · rw [if_neg g1, zal_n (by show k < 120; omega), a3]
          by_cases g2 : zoi x.2.2.1 = nI row
          · have g3 : ¬ zoi x.2.2.2 = zoi pl := fun q => g (ek.mpr ⟨g1, g2, q⟩)
            rw [if_neg (fun q => q g2), zal_n (by show k < 120; omega), a4, if_pos g3, zn_a1]
            exact d1
          · rw [if_pos g2, zn_a1]
            exact d1
  have hn := h.2.2.2.1
  have h80 := h.2.2.1.2.1
  unfold zf225
  exact l n zfz 0 s D (Nat.zero_add _) (by rw [zfz_e]; omega) h hP hcp hc hl
/-- an old node that stays -/
theorem zm226 {A B : List zN} {L : List zSp} {n p : Nat} {CP : Nat → Nat} (hA : zSm A) (hB : zSm B) (hS : ∀ x ∈ L.take n, zSv A B x) (hp : p < A.length) {s : zS} {D : List zN} (h : zAm s A B L n) (hP : zPm 2 s D) (hcp : ∀ q, zab A p = some q → s 219 q = nI (CP q)) (hg : zgB A (L.take n) p = false) (hc : (D ++ [zcpo A B (L.take n) CP p]).length ≤ 80) (hl : (zlt (D ++ [zcpo A B (L.take n) CP p])).length ≤ 600) :
    ∃ s', zf226 179 (nI p) s = some s' ∧ zPm 2 s' (D ++ [zcpo A B (L.take n) CP p]) ∧ zFm 2 (zw s 219 p (nI D.length)) s' := by
  have hA4 := hA.2.1
  have hB4 := hB.2.1
  obtain ⟨s1, hs1⟩ : ∃ s1, s1 = zw s 219 p (nI D.length) := ⟨_, rfl⟩
  have f1 : ∀ q, q ≠ 219 → s1 q = s q := fun q hq => by rw [hs1, zw_ne hq]
  have h1 : zAm s1 A B L n := by rw [hs1]; exact zAm_w h
  have P1 : zPm 2 s1 D := zPm_e hP (fun q u w => f1 q (by omega))
  have e197 : s1 197 p = zoi (zab A p) := by
    have := (h1.1.2.2.2.2.2 p hp).2.1
    rw [show 100 * 0 + p = p by omega] at this
    exact this
  rw [List.length_append, List.length_singleton] at hc
  rw [zlt_app, List.length_append] at hl
  have e218 := (h1.2.2.2.2 p hp).2
  have e196 : s1 196 p = nI (zno A p).1 := by
    have := (h1.1.2.2.2.2.2 p hp).1
    rw [show 100 * 0 + p = p by omega] at this
    exact this
  obtain ⟨s', d1, d2, d3⟩ : ∃ s', zf226_36 179 (nI p) (zoi ((zab A p).map CP)) s1 = some s' ∧ zPm 2 s' (D ++ [zcpo A B (L.take n) CP p]) ∧ zFm 2 s1 s' := by
    unfold zf226_36
    rw [show zrf 179 49 = 218 from rfl, zal_n (by show p < 40; omega), e218]
    have old : zcpo A B (L.take n) CP p = ((zno A p).1, (zab A p).map CP, (zno A p).2.2.1, (zno A p).2.2.2) → (match zfx (L.take n) p with | some (some b) => nI b | _ => (-1 : Int32)) = -1 → ∃ s', (if 0 ≤ (match zfx (L.take n) p with | some (some b) => nI b | _ => (-1 : Int32)) then (zal s1 (zrf 179 23) (nI p) fun v2 => zbv (zf190 179 2 v2 (zoi ((zab A p).map CP)) s1) fun s4 => zal s4 (zrf 179 22) 2 fun v5 => zal s4 218 (nI p) fun v6 => zbv (zf199 179 2 (v5 - 1) 1 v6 s4) fun s8 => some s8) else zbv (zf198 179 2 0 (nI p) (zoi ((zab A p).map CP)) s1) fun s10 => some s10) = some s' ∧ zPm 2 s' (D ++ [zcpo A B (L.take n) CP p]) ∧ zFm 2 s1 s' := by
      intro e e2
      rw [e] at hl ⊢
      dsimp only at hl
      obtain ⟨s2, c1, c2, c3⟩ := zm198 (i := 2) (f := 0) (j := p) (a := (zab A p).map CP) (by decide) (by decide) (by decide) P1 (by omega) h1.1 hp (by omega)
      have c1' : zf198 179 2 0 (nI p) (zoi ((zab A p).map CP)) s1 = some s2 := c1
      refine ⟨s2, ?_, c2, c3⟩
      rw [e2, if_neg (show ¬ (0 : Int32) ≤ -1 by decide), c1', zbv_e]
    cases hf : zfx (L.take n) p with
    | none =>
      have := old (by unfold zcpo; rw [hf]) (by rw [hf])
      rw [hf] at this
      exact this
    | some o =>
      cases o with
      | none =>
        have := old (by unfold zcpo; rw [hf]) (by rw [hf])
        rw [hf] at this
        exact this
      | some b =>
        obtain ⟨v1, v2, v3⟩ := zfx_v hS hf
        have e : zcpo A B (L.take n) CP p = ((zno B b).1, (zab A p).map CP, (zno B b).2.2.1, (zno B b).2.2.2) := by unfold zcpo; rw [hf]
        rw [e] at hl ⊢
        dsimp only at hl
        obtain ⟨s2, c1, c2, c3⟩ := zm190 (i := 2) (k := (zno A p).1) (a := (zab A p).map CP) (by decide) P1 (by omega)
        have c1' : zf190 179 2 (nI (zno A p).1) (zoi ((zab A p).map CP)) s1 = some s2 := c1
        obtain ⟨s3, d1, d2, d3⟩ := zm199 (i := 2) (f := 1) (j := b) (by decide) (by decide) (by decide) c2 rfl (zPm_f h1.2.1 (by decide) c3) v2 (by omega)
        have d1' : zf199 179 2 (nI D.length) 1 (nI b) s2 = some s3 := d1
        have q2 : ∀ (c : Int32 → Option zS), zal s2 195 2 c = c (s2 195 2) := fun c => zal_n (j := 2) (by decide)
        refine ⟨s3, ?_, by rw [← v3]; exact d2, zFm_t c3 d3⟩
        dsimp only
        rw [if_pos (show 0 ≤ nI b from Int32.not_lt.mp (zn_nn (by omega))), show zrf 179 23 = 196 from rfl, zal_n (by show p < 400; omega), e196, c1', zbv_e, show zrf 179 22 = 195 from rfl, q2, c2.1, List.length_append, List.length_singleton, zn_s1, zal_n (by show p < 40; omega), c3.1 218 (by omega), e218, hf]
        dsimp only
        rw [d1', zbv_e]
  refine ⟨s', ?_, d2, by rw [← hs1]; exact d3⟩
  have q2 : ∀ (c : Int32 → Option zS), zal s 195 2 c = c (s 195 2) := fun c => zal_n (j := 2) (by decide)
  unfold zf226
  rw [show zrf 179 22 = 195 from rfl, q2, hP.1, show zrf 179 50 = 219 from rfl, zas_n (by show p < 40; omega), ← hs1, show zrf 179 24 = 197 from rfl, zal_n (by show p < 400; omega), e197]
  cases hq : zab A p with
  | none =>
    rw [hq] at d1
    rw [if_neg (show ¬ 0 ≤ zoi none by decide)]
    exact d1
  | some q =>
    have hqp := (zab_d hA.1 hq).1
    rw [hq] at d1
    rw [show zoi (some q) = nI q from rfl, if_pos (show 0 ≤ nI q from Int32.not_lt.mp (zn_nn (by omega))), zal_n (by show p < 400; omega), e197, hq, show zoi (some q) = nI q from rfl, zal_n (by show q < 40; omega)]
    have : s1 219 q = nI (CP q) := by rw [hs1, zw_o (Or.inr (by omega))]; exact hcp q hq
    rw [this]
    exact d1
