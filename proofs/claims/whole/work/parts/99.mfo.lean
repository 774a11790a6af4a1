/-! The plain form, on the model's side. -/
set_option maxRecDepth 100000
set_option linter.unusedVariables false
/-- what both bodies keep to -/
def zHm (C : List Int32) (E : List zE) (C' : List Int32) (F : List zE) (S : Nat → Option Nat) : Prop := zok C' F ∧ zEb F ∧ zgA C E ∧ zgA C' F ∧ zSg C E S ∧ (∀ e f, e < F.length → znm C' F 121 e = some f → ∃ y, S f = some y) ∧ zKp F
theorem zNa_f {s s' : zS} {C : List Int32} {E : List zE} {S : Nat → Option Nat} (h : zNa s C E S) (h1 : ∀ q, 192 ≤ q → q ≤ 194 → s' q = s q) : zNa s' C E S := by
  unfold zNa
  rw [h1 192 (by decide) (by decide), h1 193 (by decide) (by decide), h1 194 (by decide) (by decide)]
  exact h
theorem zm193a {s : zS} {C : List Int32} {E : List zE} {O : List (Nat × Nat)} {C' : List Int32} {F : List zE} {O' : List (Nat × Nat)} {S : Nat → Option Nat} {e w : Nat} (hH : zHm C E C' F S) (hM : zMd s C E O C' F O') (hN : zNa s C E S) (he : e < F.length) (hk : zkd F e = 112 ∨ zkd F e = 120) (hw : w < 3) : zf193 179 (nI e) (nI w) s = some (nI (zLo C E S C' F e w), s) := by
  obtain ⟨h1, h2, h3, h4, h5, h6, h7⟩ := hH
  have := h2.1
  exact zm193 hw hM h1 h2 h3 h4 hN h5 h6 h7 e zfz he hk (by rw [zfz_e]; omega)
theorem zl3_pk {L : Nat → Nat} (h : zLg L) {w : Nat} (hw : w < 3) : zl3 (some (zpk L)) w = nI (L w) := by
  obtain ⟨a, b, c, d⟩ := h
  have h3 : w = 0 ∨ w = 1 ∨ w = 2 := by omega
  unfold zl3 zpk
  rcases h3 with rfl | rfl | rfl
  · show nI ((1000 * L 0 + 10 * L 1 + L 2) / 1000) = _
    congr 1
    omega
  · show nI ((1000 * L 0 + 10 * L 1 + L 2) / 10 % 100) = _
    congr 1
    omega
  · show nI ((1000 * L 0 + 10 * L 1 + L 2) % 10) = _
    congr 1
    omega
/-- giveLook -/
theorem zm192 {s : zS} {C : List Int32} {E : List zE} {O : List (Nat × Nat)} {C' : List Int32} {F : List zE} {O' : List (Nat × Nat)} {S : Nat → Option Nat} {e : Nat} {D : List zN} {d : zN} (hH : zHm C E C' F S) (hM : zMd s C E O C' F O') (hN : zNa s C E S) (he : e < F.length) (hk : zkd F e = 112 ∨ zkd F e = 120) (hP : zPm 3 s (D ++ [d])) : ∃ s', zf192 179 (nI (300 + D.length)) (nI e) s = some s' ∧ zPm 3 s' (D ++ [(d.1, d.2.1, some (zpk (zLo C E S C' F e)), d.2.2.2)]) ∧ zFm 3 s s' := by
  have hn : D.length < 100 := by have := hP.2.1; rw [List.length_append, List.length_singleton] at this; omega
  have hL : zLg (zLo C E S C' F e) := zLo_g hH.2.2.1 hH.2.2.2.2.1.1 e
  have n3 : ∀ x y, (3 : Int32) * nI x + nI y = nI (3 * x + y) := fun x y => by rw [zn_lit 3, zn_mul, zn_add]
  obtain ⟨M, hz⟩ : ∃ M, zfz = M + 10 := ⟨9990, zfz_e⟩
  obtain ⟨s', hs⟩ : ∃ s', s' = zw (zw (zw s 198 (3 * (100 * 3 + D.length)) (zl3 (some (zpk (zLo C E S C' F e))) 0)) 198 (3 * (100 * 3 + D.length) + 1) (zl3 (some (zpk (zLo C E S C' F e))) 1)) 198 (3 * (100 * 3 + D.length) + 2) (zl3 (some (zpk (zLo C E S C' F e))) 2) := ⟨_, rfl⟩
  obtain ⟨k1, k2⟩ := zPm_lk hP hs
  refine ⟨s', ?_, k1, k2⟩
  rw [zl3_pk hL (by decide), zl3_pk hL (by decide), zl3_pk hL (by decide)] at hs
  have fM : ∀ {t : zS} {j : Nat} {x : Int32}, zMd t C E O C' F O' → zMd (zw t 198 j x) C E O C' F O' := fun h => zMd_f h (fun q a b => zw_ne (by omega))
  have fN : ∀ {t : zS} {j : Nat} {x : Int32}, zNa t C E S → zNa (zw t 198 j x) C E S := fun h => zNa_f h (fun q a b => zw_ne (by omega))
  have M1 := fM (j := 3 * (300 + D.length) + 0) (x := nI (zLo C E S C' F e 0)) hM
  have N1 := fN (j := 3 * (300 + D.length) + 0) (x := nI (zLo C E S C' F e 0)) hN
  have M2 := fM (j := 3 * (300 + D.length) + 1) (x := nI (zLo C E S C' F e 1)) M1
  have N2 := fN (j := 3 * (300 + D.length) + 1) (x := nI (zLo C E S C' F e 1)) N1
  unfold zf192
  rw [hz, zf192_2, if_neg (by decide), show (0 : Int32) = nI 0 from rfl, zm193a hH hM hN he hk (by decide), zbi_e, n3, show zrf 179 25 = 198 from rfl, zas_n (by show 3 * (300 + D.length) + 0 < 1200; omega)]
  rw [zf192_2, if_neg (by decide), show nI 0 + 1 = nI 1 from rfl, zm193a hH M1 N1 he hk (by decide), zbi_e, n3, show zrf 179 25 = 198 from rfl, zas_n (by show 3 * (300 + D.length) + 1 < 1200; omega)]
  rw [zf192_2, if_neg (by decide), show nI 1 + 1 = nI 2 from rfl, zm193a hH M2 N2 he hk (by decide), zbi_e, n3, show zrf 179 25 = 198 from rfl, zas_n (by show 3 * (300 + D.length) + 2 < 1200; omega)]
  rw [zf192_2, if_pos (by decide), hs]
  rfl
/-- hasLook -/
theorem zm196 {s : zS} {C : List Int32} {E : List zE} {O : List (Nat × Nat)} {C' : List Int32} {F : List zE} {O' : List (Nat × Nat)} {S : Nat → Option Nat} {e : Nat} {D : List zN} {d : zN} (hH : zHm C E C' F S) (hM : zMd s C E O C' F O') (hN : zNa s C E S) (he : e < F.length) (hk : zkd F e = 112 ∨ zkd F e = 120) (hP : zPm 3 s (D ++ [d])) (hd : ∀ x, d.2.2.1 = some x → x < 2000) : zf196 179 (nI (300 + D.length)) (nI e) s = some (if d.2.2.1 = some (zpk (zLo C E S C' F e)) then 1 else 0, s) := by
  have hn : D.length < 100 := by have := hP.2.1; rw [List.length_append, List.length_singleton] at this; omega
  have hL : zLg (zLo C E S C' F e) := zLo_g hH.2.2.1 hH.2.2.2.2.1.1 e
  have n3 : ∀ x y, (3 : Int32) * nI x + nI y = nI (3 * x + y) := fun x y => by rw [zn_lit 3, zn_mul, zn_add]
  obtain ⟨M, hz⟩ : ∃ M, zfz = M + 10 := ⟨9990, zfz_e⟩
  obtain ⟨_, _, c3, _, _⟩ := hP.2.2.2.2.2 D.length (by rw [List.length_append, List.length_singleton]; omega)
  rw [zno_r] at c3
  have q : ∀ w, w < 3 → s 198 (3 * (300 + D.length) + w) = zl3 d.2.2.1 w := c3
  have st : ∀ n x3 w, w < 3 → zf196_5 179 (n + 1) (nI (300 + D.length)) (nI e) x3 (nI w) s = zf196_5 179 n (nI (300 + D.length)) (nI e) (if x3 = 0 then 0 else if zl3 d.2.2.1 w = nI (zLo C E S C' F e w) then 1 else 0) (nI (w + 1)) s := by
    intro n x3 w hw
    rw [zf196_5, if_neg (fun z => by have := (zn_geL (k := 3) (by omega) (by decide)).mp z; omega), zn_a1]
    by_cases g : x3 = 0
    · rw [if_pos g, if_pos g]
    · rw [if_neg g, if_neg g, n3, show zrf 179 25 = 198 from rfl, zal_n (by show 3 * (300 + D.length) + w < 1200; omega), q w hw, zm193a hH hM hN he hk hw, zbi_e]
      by_cases g2 : zl3 d.2.2.1 w = nI (zLo C E S C' F e w)
      · rw [if_neg (fun z => z g2), if_pos g2]
      · rw [if_pos g2, if_neg g2]
  have all : (zl3 d.2.2.1 0 = nI (zLo C E S C' F e 0) ∧ zl3 d.2.2.1 1 = nI (zLo C E S C' F e 1) ∧ zl3 d.2.2.1 2 = nI (zLo C E S C' F e 2)) ↔ d.2.2.1 = some (zpk (zLo C E S C' F e)) := by
    obtain ⟨la, lb, lc, ld⟩ := hL
    constructor
    · intro h
      cases hx : d.2.2.1 with
      | none =>
        rw [hx] at h
        exact absurd h.1.symm (zn_nm (by omega))
      | some x =>
        rw [hx] at h
        have hx2 := hd x hx
        have a := (zn_eq (by omega) (by omega)).mp (show nI (x / 1000) = nI (zLo C E S C' F e 0) from h.1)
        have b := (zn_eq (by omega) (by omega)).mp (show nI (x / 10 % 100) = nI (zLo C E S C' F e 1) from h.2.1)
        have c := (zn_eq (by omega) (by omega)).mp (show nI (x % 10) = nI (zLo C E S C' F e 2) from h.2.2)
        congr 1
        unfold zpk
        omega
    · intro h
      rw [h]
      exact ⟨zl3_pk ⟨la, lb, lc, ld⟩ (by decide), zl3_pk ⟨la, lb, lc, ld⟩ (by decide), zl3_pk ⟨la, lb, lc, ld⟩ (by decide)⟩
  unfold zf196
  rw [hz]
  have s0 := st (M + 9) 1 0 (by decide)
  have s0' : zf196_5 179 (M + 10) (nI (300 + D.length)) (nI e) 1 0 s = _ := s0
  rw [s0', st (M + 8) _ 1 (by decide), st (M + 7) _ 2 (by decide), zf196_5, if_pos (by decide)]
  rw [if_neg (show ¬ (1 : Int32) = 0 by decide)]
  by_cases g0 : zl3 d.2.2.1 0 = nI (zLo C E S C' F e 0)
  · rw [if_pos g0, if_neg (show ¬ (1 : Int32) = 0 by decide)]
    by_cases g1 : zl3 d.2.2.1 1 = nI (zLo C E S C' F e 1)
    · rw [if_pos g1, if_neg (show ¬ (1 : Int32) = 0 by decide)]
      by_cases g2 : zl3 d.2.2.1 2 = nI (zLo C E S C' F e 2)
      · rw [if_pos g2, if_pos (all.mp ⟨g0, g1, g2⟩)]
        rfl
      · rw [if_neg g2, if_neg (fun z => g2 (all.mpr z).2.2)]
        rfl
    · rw [if_neg g1, if_pos rfl, if_neg (fun z => g1 (all.mpr z).2.1)]
      rfl
  · rw [if_neg g0, if_pos rfl, if_pos rfl, if_neg (fun z => g0 (all.mpr z).1)]
    rfl
/-- paragraphOf -/
theorem zm195 {s : zS} {C : List Int32} {E : List zE} {O : List (Nat × Nat)} {C' : List Int32} {F : List zE} {O' : List (Nat × Nat)} (hM : zMd s C E O C' F O') (hK : zKp F) (h30 : F.length ≤ 30) : ∀ e n, e < F.length → e < n → zf195_2 179 n (nI e) s = some (nI (zpO F e), s) := by
  intro e
  induction e using Nat.strongRecOn with
  | ind e ih =>
    intro n he hn
    obtain ⟨n, rfl⟩ : ∃ n', n = n' + 1 := ⟨n - 1, by omega⟩
    have k1 : s 187 (30 + e) = zkd F e := (hM.2.2.2.1.2.2 e he).1
    have k2 : s 189 (30 + e) = (F.getD e (0, 0, 0, [])).2.2.1 := (hM.2.2.2.1.2.2 e he).2.2
    rw [zf195_2, show zrf 179 10 = 187 from rfl, zn_lit 30, zn_add, zal_n (by show 30 + e < 60; omega), k1]
    by_cases g : zkd F e = 120
    · rw [if_neg (fun z => z g), show zrf 179 12 = 189 from rfl, zal_n (by show 30 + e < 60; omega), k2]
      rcases hK e he with ⟨_, _, g3⟩ | ⟨j, g1, g2, g3⟩
      · rw [g] at g3
        exact absurd g3 (by decide)
      · rw [g2, ih j g1 n (by omega) (by omega), zpO_x hK h30 he g g1 g2]
    · rw [if_pos g, zpO_n g]
theorem zNf_m {i : Nat} {s s' : zS} {C : List Int32} {E : List zE} {O : List (Nat × Nat)} {C' : List Int32} {F : List zE} {O' : List (Nat × Nat)} {S : Nat → Option Nat} (hM : zMd s C E O C' F O') (hN : zNa s C E S) (h : zFm i s s') : zMd s' C E O C' F O' ∧ zNa s' C E S := ⟨zMd_f hM (fun q a b => h.1 q (by omega)), zNa_f hN (fun q a b => h.1 q (by omega))⟩
/-- the letters of a paragraph -/
theorem zm191_l {C : List Int32} {E : List zE} {O : List (Nat × Nat)} {C' : List Int32} {F : List zE} {O' : List (Nat × Nat)} {S : Nat → Option Nat} {e p0 : Nat} (hH : zHm C E C' F S) (hl : C'.length ≤ 300) (hoo : zoo C' F O') (hO : ∀ q ∈ O', zkd F q.2 = 112 ∨ zkd F q.2 = 120) (he : e < F.length) (hp0 : p0 < 100) :
    ∀ m n k (s : zS) D, k + m = C'.length → m < n → zMd s C E O C' F O' → zNa s C E S → zPm 3 s D → D ≠ [] → zDk D → (zlt D).length ≤ k + 300 → (zpf1 (fun e => zpk (zLo C E S C' F e)) C' F O' e (some p0) m k D).length ≤ 90 →
    ∃ s', zf191_21 179 n (nI e) (nI (p0 + 1)) (nI k) s = some s' ∧ zPm 3 s' (zpf1 (fun e => zpk (zLo C E S C' F e)) C' F O' e (some p0) m k D) ∧ zFm 3 s s' := by
  have h30 := hH.2.1.1
  have hK := hH.2.2.2.2.2.2
  have hLb : ∀ e, zpk (zLo C E S C' F e) < 2000 := fun e => zLg_lt (zLo_g hH.2.2.1 hH.2.2.2.2.1.1 e)
  intro m
  induction m with
  | zero =>
    intro n k s D hk hn hM hN hP hne hD ht hb
    obtain ⟨n, rfl⟩ : ∃ n', n = n' + 1 := ⟨n - 1, by omega⟩
    refine ⟨s, ?_, hP, zFm_r⟩
    have e0 : zal (R := zS) s 185 1 = fun c => c (s 185 1) := by funext c; exact zal_n (j := 1) (by decide)
    rw [zf191_21, show zrf 179 8 = 185 from rfl, e0]
    dsimp only
    rw [hM.2.1.2, if_pos ((zn_le (by omega) (by omega)).mpr (by omega))]
  | succ m ih =>
    intro n k s D hk hn hM hN hP hne hD ht hb
    obtain ⟨n, rfl⟩ : ∃ n', n = n' + 1 := ⟨n - 1, by omega⟩
    have e0 : zal (R := zS) s 185 1 = fun c => c (s 185 1) := by funext c; exact zal_n (j := 1) (by decide)
    have n300 : ∀ x, (300 : Int32) + nI x = nI (300 + x) := fun x => by rw [zn_lit 300, zn_add]
    have eo : s 190 (300 + k) = zoi (zoO O' k) := by rw [← zow_O]; exact hM.2.2.2.2 k (by omega)
    have ec : s 184 (300 + k) = C'.getD k (-1) := hM.2.1.1.2 k (by omega)
    rw [zpf1] at hb ⊢
    rw [zf191_21, show zrf 179 8 = 185 from rfl, e0]
    dsimp only
    rw [hM.2.1.2, if_neg (fun q => by have := (zn_le (by omega) (by omega)).mp q; omega), show zrf 179 13 = 190 from rfl, n300, zal_n (by show 300 + k < 600; omega), eo]
    cases ho : zoO O' k with
    | none =>
      rw [ho] at hb
      dsimp only at hb ⊢
      rw [if_pos (show zoi none < 0 by decide), zn_a1]
      exact ih n (k + 1) s D (by omega) (by omega) hM hN hP hne hD (by omega) hb
    | some o =>
      have hm := zoO_m ho
      obtain ⟨u1, u2, u3⟩ := hoo _ hm
      have hok := hO _ hm
      dsimp only at u1 u2 u3 hok
      have e195 : zf195 179 (nI o) s = some (nI (zpO F o), s) := zm195 hM hK h30 o zfz u2 (by rw [zfz_e]; omega)
      have hpo := (zpO_k hK h30 o u2 hok).2
      rw [ho] at hb
      dsimp only at hb ⊢
      rw [show zoi (some o) = nI o from rfl, if_neg (zn_nn (by omega)), e195, zbi_e]
      by_cases g : zpO F o = e
      · rw [if_pos g] at hb ⊢
        rw [if_neg (fun z => z (by rw [g]))]
        have hlen := zpf1_len (LO := fun e => zpk (zLo C E S C' F e)) (C := C') (F := F) (O := O') (e := e) (ab := some p0) m (k + 1) (zrn D (some p0) (zpk (zLo C E S C' F o)) (C'.getD k (-1)))
        obtain ⟨r1, r2, r3, r4⟩ := zrn_len (D := D) (ab := some p0) (l := zpk (zLo C E S C' F o)) (c := C'.getD k (-1))
        rcases List.eq_nil_or_concat D with hX | ⟨D', d, hX⟩
        · exact absurd hX hne
        rw [List.concat_eq_append] at hX
        have hd := hD d (by rw [hX]; exact List.mem_append_right _ List.mem_cons_self)
        have dl : D.length = D'.length + 1 := by rw [hX, List.length_append]; rfl
        have hP1 := hP
        rw [hX] at hP1
        have n1 : nI (300 + D.length) - 1 = nI (300 + D'.length) := by rw [dl]; exact zn_s1 (300 + D'.length)
        have e3 : zal (R := zS) s 195 3 = fun c => c (s 195 3) := by funext c; exact zal_n (j := 3) (by decide)
        have hkind : s 196 (300 + D'.length) = nI d.1 := by
          have := (hP1.2.2.2.2.2 D'.length (by rw [List.length_append, List.length_singleton]; omega)).1
          rw [zno_r] at this
          exact this
        -- the letter goes into the last node of D1
        have put : ∀ (t : zS) (D1 : List zN) (d1 : zN), zrn D (some p0) (zpk (zLo C E S C' F o)) (C'.getD k (-1)) = D1 ++ [(d1.1, d1.2.1, d1.2.2.1, d1.2.2.2 ++ [C'.getD k (-1)])] → zPm 3 t (D1 ++ [d1]) → zFm 3 s t → ∃ s', zf191_113 179 (zf191_21 179 n) (nI e) (nI (p0 + 1)) (nI k) t = some s' ∧ zPm 3 s' (zpf1 (fun e => zpk (zLo C E S C' F e)) C' F O' e (some p0) m (k + 1) (zrn D (some p0) (zpk (zLo C E S C' F o)) (C'.getD k (-1)))) ∧ zFm 3 s s' := by
          intro t D1 d1 hr hPt hF
          have hl2 : (zlt (D1 ++ [d1])).length = (zlt D).length := by
            have : (zlt (D1 ++ [(d1.1, d1.2.1, d1.2.2.1, d1.2.2.2 ++ [C'.getD k (-1)])])).length = (zlt (D1 ++ [d1])).length + 1 := by
              rw [zlt_app, zlt_app, List.length_append, List.length_append, List.length_append]
              rfl
            rw [← hr] at this
            omega
          obtain ⟨t1, a1, a2, a3⟩ := zm197 (c := C'.getD k (-1)) (by decide) hPt (by omega)
          have F1 := zFm_t hF a3
          obtain ⟨M1, N1⟩ := zNf_m hM hN F1
          rw [← hr] at a2
          obtain ⟨s', b1, b2, b3⟩ := ih n (k + 1) t1 _ (by omega) (by omega) M1 N1 a2 r4 (zDk_rn hD (hLb o)) (by omega) hb
          refine ⟨s', ?_, b2, zFm_t F1 b3⟩
          have a1' : zf197 179 3 (C'.getD k (-1)) t = some t1 := a1
          unfold zf191_113
          rw [show zrf 179 7 = 184 from rfl, n300, zal_n (by show 300 + k < 600; omega), hF.1 184 (by omega), ec, a1', zbv_e, zn_a1, b1]
        -- a new run first
        have new_ : ¬ (d.1 = 2 ∧ d.2.2.1 = some (zpk (zLo C E S C' F o))) → ∃ s', zf191_94 179 (zf191_21 179 n) (nI e) (nI (p0 + 1)) (nI k) (nI o) (nI (300 + D'.length)) s = some s' ∧ zPm 3 s' (zpf1 (fun e => zpk (zLo C E S C' F e)) C' F O' e (some p0) m (k + 1) (zrn D (some p0) (zpk (zLo C E S C' F o)) (C'.getD k (-1)))) ∧ zFm 3 s s' := by
          intro hnot
          obtain ⟨s1, a1, a2, a3⟩ := zm190 (k := 2) (a := some p0) (by decide) hP (by omega)
          obtain ⟨M1, N1⟩ := zNf_m hM hN a3
          obtain ⟨s2, b1, b2, b3⟩ := zm192 hH M1 N1 u2 hok a2
          obtain ⟨s', c1, c2, c3⟩ := put s2 D (2, some p0, some (zpk (zLo C E S C' F o)), []) (by rw [hX, zrn_e, if_neg hnot]; rfl) b2 (zFm_t a3 b3)
          refine ⟨s', ?_, c2, c3⟩
          unfold zf191_94
          have a1' : zf190 179 3 2 (nI p0) s = some s1 := a1
          have n2 : nI (300 + D'.length) + 1 = nI (300 + D.length) := by rw [zn_a1, dl]; rfl
          rw [zn_s1, a1', zbv_e, n2, b1, zbv_e, c1]
        rw [show zrf 179 22 = 195 from rfl, e3]
        dsimp only
        rw [hP.1, n300, n1, show zrf 179 23 = 196 from rfl, zal_n (by show 300 + D'.length < 400; omega), hkind]
        by_cases g2 : d.1 = 2
        · rw [if_neg (show ¬ ¬ nI d.1 = 2 from fun z => z (by rw [g2]; rfl)), zm196 hH hM hN u2 hok hP1 hd.2, zbi_e]
          by_cases g3 : d.2.2.1 = some (zpk (zLo C E S C' F o))
          · rw [if_pos g3, if_pos (show ¬ (1 : Int32) = 0 by decide)]
            exact put s D' d (by rw [hX, zrn_e, if_pos ⟨g2, g3⟩]) hP1 zFm_r
          · rw [if_neg g3, if_neg (show ¬ ¬ (0 : Int32) = 0 from fun z => z rfl)]
            exact new_ (fun z => g3 z.2)
        · rw [if_pos (show ¬ nI d.1 = 2 from fun z => g2 ((zn_eqL (k := 2) (by have := hd.1; omega) (by decide)).mp z))]
          exact new_ (fun z => g2 z.1)
      · rw [if_neg g] at hb ⊢
        rw [if_pos (fun z => g ((zn_eq (by omega) (by omega)).mp z)), zn_a1]
        exact ih n (k + 1) s D (by omega) (by omega) hM hN hP hne hD (by omega) hb
/-- formParagraph -/
theorem zm191 {s : zS} {C : List Int32} {E : List zE} {O : List (Nat × Nat)} {C' : List Int32} {F : List zE} {O' : List (Nat × Nat)} {S : Nat → Option Nat} {e : Nat} {D : List zN} {d : zN} (hH : zHm C E C' F S) (hl : C'.length ≤ 300) (hoo : zoo C' F O') (hO : ∀ q ∈ O', zkd F q.2 = 112 ∨ zkd F q.2 = 120) (he : e < F.length) (hk : zkd F e = 112) (hM : zMd s C E O C' F O') (hN : zNa s C E S) (hP : zPm 3 s (D ++ [d])) (hd : d.1 < 100) (hDk : zDk D) (ht : (zlt (D ++ [d])).length ≤ 300)
    (hb : (zpf1 (fun e => zpk (zLo C E S C' F e)) C' F O' e (some D.length) C'.length 0 (D ++ [(d.1, d.2.1, some (zpk (zLo C E S C' F e)), d.2.2.2)])).length ≤ 90) :
    ∃ s', zf191 179 (nI e) s = some s' ∧ zPm 3 s' (zpf1 (fun e => zpk (zLo C E S C' F e)) C' F O' e (some D.length) C'.length 0 (D ++ [(d.1, d.2.1, some (zpk (zLo C E S C' F e)), d.2.2.2)])) ∧ zFm 3 s s' := by
  have hn : D.length < 100 := by have := hP.2.1; rw [List.length_append, List.length_singleton] at this; omega
  have hLb : ∀ e, zpk (zLo C E S C' F e) < 2000 := fun e => zLg_lt (zLo_g hH.2.2.1 hH.2.2.2.2.1.1 e)
  obtain ⟨s1, a1, a2, a3⟩ := zm192 hH hM hN he (Or.inl hk) hP
  obtain ⟨M1, N1⟩ := zNf_m hM hN a3
  obtain ⟨s', b1, b2, b3⟩ := zm191_l hH hl hoo hO he hn C'.length zfz 0 s1 _ (Nat.zero_add _) (by rw [zfz_e]; omega) M1 N1 a2 (fun z => by simp at z) (zDk_app hDk hd (fun x q => by cases q; exact hLb e)) (by rw [zlt_app] at ht ⊢; omega) hb
  refine ⟨s', ?_, b2, zFm_t a3 b3⟩
  have e3 : zal (R := zS) s 195 3 = fun c => c (s 195 3) := by funext c; exact zal_n (j := 3) (by decide)
  have n1 : (300 : Int32) + nI (D.length + 1) - 1 = nI (300 + D.length) := by rw [zn_lit 300, zn_add]; exact zn_s1 (300 + D.length)
  have len : s 195 3 = nI (D.length + 1) := by rw [hP.1, List.length_append]; rfl
  unfold zf191
  rw [show zrf 179 22 = 195 from rfl, e3]
  dsimp only
  rw [len, n1, a1, zbv_e]
  exact b1
/-- form -/
theorem zm189_l {C : List Int32} {E : List zE} {O : List (Nat × Nat)} {C' : List Int32} {F : List zE} {O' : List (Nat × Nat)} {S : Nat → Option Nat} (hH : zHm C E C' F S) (hl : C'.length ≤ 300) (hi : zinc F) (hoo : zoo C' F O') (hO : ∀ q ∈ O', zkd F q.2 = 112 ∨ zkd F q.2 = 120) (hB : zBo C' F O') (h60 : ∀ e, e < F.length → C'.getD (F.getD e (0, 0, 0, [])).2.1 (-1) = 60) (hbg : ∀ e, e < F.length → (F.getD e (0, 0, 0, [])).2.1 < C'.length)
    (hb : (zbl (fun e => zpk (zLo C E S C' F e)) C' F O' C'.length 0 ([], fun _ => none)).1.length ≤ 90) :
    ∀ m n e (s : zS) (X : zXX), e + m = F.length → m < n → zMd s C E O C' F O' → zNa s C E S → zPm 3 s X.1 → (∀ x, x < e → zkd F x ≠ 120 → s 203 x = zoi (X.2 x)) → zDk X.1 → (∀ x y, X.2 x = some y → y < 100) → X = zbl (fun e => zpk (zLo C E S C' F e)) C' F O' (zps C' F m e) 0 ([], fun _ => none) → zps C' F m e ≤ C'.length →
    ∃ s', zf189_16 179 n (nI e) s = some s' ∧ zPm 3 s' (zbl (fun e => zpk (zLo C E S C' F e)) C' F O' C'.length 0 ([], fun _ => none)).1 ∧ (∀ q, q < 195 ∨ 203 < q → s' q = s q) ∧ ∀ i D, i ≠ 3 → zPm i s D → zPm i s' D := by
  have h30 := hH.2.1.1
  have hK := hH.2.2.2.2.2.2
  have hLb : ∀ e, zpk (zLo C E S C' F e) < 2000 := fun e => zLg_lt (zLo_g hH.2.2.1 hH.2.2.2.2.1.1 e)
  have h3 : ∀ k x, zea F k = some x → zoO O' k = none := by
    intro k x hz
    obtain ⟨y1, y2⟩ := zea_s hz
    cases ho : zoO O' k with
    | none => rfl
    | some o =>
      have := (hB.1 _ (zoO_m ho)).2
      dsimp only at this
      rw [← y2] at this
      exact absurd (h60 x y1) this
  intro m
  induction m with
  | zero =>
    intro n e s X he hn hM hN hP hNM hD hNb hX hpl
    obtain ⟨n, rfl⟩ : ∃ n', n = n' + 1 := ⟨n - 1, by omega⟩
    refine ⟨s, ?_, ?_, fun _ _ => rfl, fun _ _ _ h => h⟩
    · have e0 : zal (R := zS) s 186 1 = fun c => c (s 186 1) := by funext c; exact zal_n (j := 1) (by decide)
      rw [zf189_16, show zrf 179 9 = 186 from rfl, e0]
      dsimp only
      rw [hM.2.2.2.1.1, if_pos ((zn_le (by omega) (by omega)).mpr (by omega))]
    · rw [hX] at hP
      exact hP
  | succ m ih =>
    intro n e s X he hn hM hN hP hNM hD hNb hX hpl
    obtain ⟨n, rfl⟩ : ∃ n', n = n' + 1 := ⟨n - 1, by omega⟩
    have heF : e < F.length := by omega
    have e0 : zal (R := zS) s 186 1 = fun c => c (s 186 1) := by funext c; exact zal_n (j := 1) (by decide)
    have k1 : s 187 (30 + e) = zkd F e := (hM.2.2.2.1.2.2 e heF).1
    have k2 : s 189 (30 + e) = (F.getD e (0, 0, 0, [])).2.2.1 := (hM.2.2.2.1.2.2 e heF).2.2
    rw [zf189_16, show zrf 179 9 = 186 from rfl, e0]
    dsimp only
    rw [hM.2.2.2.1.1, if_neg (fun q => by have := (zn_le (by omega) (by omega)).mp q; omega), show zrf 179 10 = 187 from rfl, show (30 : Int32) + nI e = nI (30 + e) by rw [zn_lit 30, zn_add], zal_n (by show 30 + e < 60; omega), k1]
    by_cases gx : zkd F e = 120
    · rw [if_pos gx, zn_a1]
      have hps : zps C' F (m + 1) e = zps C' F m (e + 1) := by rw [zps, if_pos gx]
      rw [hps] at hX hpl
      refine ih n (e + 1) s X (by omega) (by omega) hM hN hP (fun x hx hk => ?_) hD hNb hX hpl
      by_cases g : x = e
      · rw [g] at hk; exact absurd gx hk
      · exact hNM x (by omega) hk
    · rw [if_neg gx]
      have hps : zps C' F (m + 1) e = (F.getD e (0, 0, 0, [])).2.1 := by rw [zps, if_neg gx]
      rw [hps] at hX hpl
      obtain ⟨B, hBb⟩ : ∃ B, B = (F.getD e (0, 0, 0, [])).2.1 := ⟨_, rfl⟩
      rw [← hBb] at hX hpl
      have hBC : B < C'.length := by rw [hBb]; exact hbg e heF
      obtain ⟨P, hPp⟩ : ∃ P, P = zps C' F m (e + 1) := ⟨_, rfl⟩
      have hPl : P ≤ C'.length ∧ B < P := by
        rcases zps_x (C := C') (F := F) m (e + 1) (by omega) with g | ⟨x, g1, g2, g3, g4⟩
        · rw [hPp, g]; exact ⟨Nat.le_refl _, hBC⟩
        · rw [hPp, g4, hBb]
          exact ⟨Nat.le_of_lt (hbg x g2), hi e x (by omega) g2⟩
      -- the node of the element
      have hsp : zsp (fun e => zpk (zLo C E S C' F e)) C' F O' B X = (X.1 ++ [(zkc (zkd F e), (zpp F e).bind X.2, if zkd F e = 112 then some (zpk (zLo C E S C' F e)) else none, [])], fun x => if x = e then some X.1.length else X.2 x) := by
        unfold zsp
        rw [zea_i hi heF hBb.symm]
        exact if_neg gx
      obtain ⟨NM1, hNM1⟩ : ∃ NM1, NM1 = (fun x => if x = e then some X.1.length else X.2 x) := ⟨_, rfl⟩
      obtain ⟨d1, hd1⟩ : ∃ d1, d1 = (zkc (zkd F e), (zpp F e).bind X.2, if zkd F e = 112 then some (zpk (zLo C E S C' F e)) else none, ([] : List Int32)) := ⟨_, rfl⟩
      rw [← hNM1, ← hd1] at hsp
      have hX1 : zbl (fun e => zpk (zLo C E S C' F e)) C' F O' (B + 1) 0 ([], fun _ => none) = (X.1 ++ [d1], NM1) := by
        rw [zbl_add, ← hX, Nat.zero_add]
        show zbl (fun e => zpk (zLo C E S C' F e)) C' F O' 0 (B + 1) (zsp (fun e => zpk (zLo C E S C' F e)) C' F O' B X) = _
        rw [hsp]
        rfl
      have hNe : NM1 e = some X.1.length := by rw [hNM1]; exact if_pos rfl
      -- what stands between
      have r1 : ∀ k x, B + 1 ≤ k → k < P → zea F k = some x → zkd F x = 120 := by
        intro k x a b hz
        obtain ⟨y1, y2⟩ := zea_s hz
        refine Classical.byContradiction fun hc => ?_
        have hxe : e < x := by
          rcases Nat.lt_trichotomy x e with z | z | z
          · have := hi x e z heF; omega
          · rw [z] at y2; omega
          · exact z
        have := zps_le (C := C') hi m (e + 1) (by omega) x (by omega) y1 hc
        omega
      have r2 : ∀ k o, B + 1 ≤ k → k < P → zoO O' k = some o → zpO F o = e := by
        intro k o a b ho
        have hm := zoO_m ho
        obtain ⟨w1, w2, w3⟩ := (hB.1 _ hm).1
        have hk := hO _ hm
        dsimp only at w1 w2 w3 hk
        obtain ⟨y1, y2⟩ := zpO_k hK h30 o w1 hk
        rcases Nat.lt_trichotomy (zpO F o) e with z | z | z
        · have := w3 e z heF gx; omega
        · exact z
        · have := zps_le (C := C') hi m (e + 1) (by omega) (zpO F o) (by omega) (by omega) (by rw [y1]; decide)
          omega
      have hPX : zbl (fun e => zpk (zLo C E S C' F e)) C' F O' P 0 ([], fun _ => none) = (zpf1 (fun e => zpk (zLo C E S C' F e)) C' F O' e (some X.1.length) (P - (B + 1)) (B + 1) (X.1 ++ [d1]), NM1) := by
        rw [show P = (B + 1) + (P - (B + 1)) by omega, zbl_add, hX1, show (B + 1) + (P - (B + 1)) - (B + 1) = P - (B + 1) by omega, Nat.zero_add]
        rw [zbl_p (e := e) (P - (B + 1)) (B + 1) (X.1 ++ [d1]) NM1 (fun k x a b => r1 k x a (by omega)) (fun k o a b _ => r2 k o a (by omega)) h3, hNe]
      have hlenP : (zbl (fun e => zpk (zLo C E S C' F e)) C' F O' P 0 ([], fun _ => none)).1.length ≤ 90 := by
        have h4 := (zbl_len (LO := fun e => zpk (zLo C E S C' F e)) (C := C') (F := F) (O := O') (C'.length - P) P (zbl (fun e => zpk (zLo C E S C' F e)) C' F O' P 0 ([], fun _ => none))).1
        have h5 := zbl_add (LO := fun e => zpk (zLo C E S C' F e)) (C := C') (F := F) (O := O') P (C'.length - P) 0 ([], fun _ => none)
        rw [Nat.zero_add, show P + (C'.length - P) = C'.length by omega] at h5
        rw [← h5] at h4
        omega
      have hltB : (zlt X.1).length ≤ B := by
        have := (zbl_len (LO := fun e => zpk (zLo C E S C' F e)) (C := C') (F := F) (O := O') B 0 ([], fun _ => none)).2.1
        rw [← hX] at this
        have z : (zlt ([] : List zN)).length = 0 := rfl
        dsimp only at this
        omega
      have hXl : X.1.length + 1 ≤ 90 := by
        rw [hPX] at hlenP
        have := zpf1_len (LO := fun e => zpk (zLo C E S C' F e)) (C := C') (F := F) (O := O') (e := e) (ab := some X.1.length) (P - (B + 1)) (B + 1) (X.1 ++ [d1])
        rw [List.length_append, List.length_singleton] at this
        dsimp only at hlenP
        omega
      have full : zpf1 (fun e => zpk (zLo C E S C' F e)) C' F O' e (some X.1.length) C'.length 0 (X.1 ++ [d1]) = zpf1 (fun e => zpk (zLo C E S C' F e)) C' F O' e (some X.1.length) (P - (B + 1)) (B + 1) (X.1 ++ [d1]) := by
        rw [show C'.length = (B + 1) + ((P - (B + 1)) + (C'.length - P)) by omega, zpf1_add, zpf1_add, zpf1_id (B + 1) 0, Nat.zero_add]
        · refine zpf1_id _ _ _ (fun k o a b ho z => ?_)
          have hm := zoO_m ho
          obtain ⟨w1, w2, w3⟩ := (hB.1 _ hm).1
          have u1 := (hoo _ hm).1
          dsimp only at w1 w2 w3 u1
          rw [z] at w3
          rcases zps_x (C := C') (F := F) m (e + 1) (by omega) with g | ⟨x, g1, g2, g3, g4⟩
          · omega
          · have := w3 x (by omega) g2 g3
            omega
        · intro k o a b ho z
          obtain ⟨w1, w2, w3⟩ := (hB.1 _ (zoO_m ho)).1
          dsimp only at w2
          rw [z] at w2
          omega
      -- the state when the node's number is noted
      obtain ⟨s1, hs1⟩ : ∃ s1, s1 = zw s 203 e (nI X.1.length) := ⟨_, rfl⟩
      have f1 : ∀ q, q ≠ 203 → s1 q = s q := fun q hq => by rw [hs1, zw_ne hq]
      have M1 : zMd s1 C E O C' F O' := zMd_f hM (fun q a b => f1 q (by omega))
      have N1 : zNa s1 C E S := zNa_f hN (fun q a b => f1 q (by omega))
      have P1 : zPm 3 s1 X.1 := zPm_e hP (fun q a b => f1 q (by omega))
      have e195 : ∀ (c : Int32 → Option zS), zal s 195 3 c = c (s 195 3) := fun c => zal_n (j := 3) (by decide)
      -- from the kind on
      have go : ∀ (k : Nat) (ab : Option Nat), zkc (zkd F e) = k → ab = (zpp F e).bind X.2 → ∃ s', zf189_118 179 (zf189_16 179 n) (nI e) (zkd F e) (zoi ab) (nI k) 3 s1 = some s' ∧ zPm 3 s' (zbl (fun e => zpk (zLo C E S C' F e)) C' F O' C'.length 0 ([], fun _ => none)).1 ∧ (∀ q, q < 195 ∨ 203 < q → s' q = s q) ∧ ∀ i D, i ≠ 3 → zPm i s D → zPm i s' D := by
        intro k ab hk hab
        obtain ⟨s2, a1, a2, a3⟩ := zm190 (k := k) (a := ab) (by decide) P1 (by omega)
        obtain ⟨M2, N2⟩ := zNf_m M1 N1 a3
        have a1' : zf190 179 3 (nI k) (zoi ab) s1 = some s2 := a1
        have s203 : ∀ t : zS, zFm 3 s1 t → ∀ x, x < e + 1 → zkd F x ≠ 120 → t 203 x = zoi (NM1 x) := by
          intro t ht x hx hkx
          rw [ht.1 203 (by omega), hs1, hNM1]
          dsimp only
          by_cases g : x = e
          · rw [g, zw_s, if_pos rfl]
            rfl
          · rw [zw_o (by omega), if_neg g]
            exact hNM x (by omega) hkx
        have NMb : ∀ x y, NM1 x = some y → y < 100 := by
          intro x y q
          rw [hNM1] at q
          dsimp only at q
          split at q
          · cases q; omega
          · exact hNb x y q
        have hPle : zps C' F m (e + 1) ≤ C'.length := by rw [← hPp]; exact hPl.1
        unfold zf189_118
        rw [a1', zbv_e]
        by_cases gp : zkd F e = 112
        · rw [if_neg (fun z => z gp), zn_a1]
          have hd1p : d1 = (k, ab, some (zpk (zLo C E S C' F e)), []) := by rw [hd1, if_pos gp, hk, hab]
          have hkk := zkc_lt (zkd F e)
          rw [hPX, ← full, hd1p] at hlenP
          dsimp only at hlenP
          obtain ⟨s3, b1, b2, b3⟩ := zm191 hH hl hoo hO heF gp M2 N2 a2 (by dsimp only; omega) hD (by rw [zlt_app, List.append_nil]; omega) hlenP
          obtain ⟨M3, N3⟩ := zNf_m M2 N2 b3
          have hX3 : (zpf1 (fun e => zpk (zLo C E S C' F e)) C' F O' e (some X.1.length) C'.length 0 (X.1 ++ [(k, ab, some (zpk (zLo C E S C' F e)), [])]), NM1) = zbl (fun e => zpk (zLo C E S C' F e)) C' F O' (zps C' F m (e + 1)) 0 ([], fun _ => none) := by
            rw [← hPp, hPX, ← full, hd1p]
          obtain ⟨s', c1, c2, c3⟩ := ih n (e + 1) s3 (zpf1 (fun e => zpk (zLo C E S C' F e)) C' F O' e (some X.1.length) C'.length 0 (X.1 ++ [(k, ab, some (zpk (zLo C E S C' F e)), [])]), NM1) (by omega) (by omega) M3 N3 b2 (s203 s3 (zFm_t a3 b3)) (by
            have gen : ∀ m k D, zDk D → zDk (zpf1 (fun e => zpk (zLo C E S C' F e)) C' F O' e (some X.1.length) m k D) := by
              intro m
              induction m with
              | zero => intro k D h; exact h
              | succ m ihm =>
                intro k D h
                rw [zpf1]
                refine ihm _ _ ?_
                split
                · split
                  · exact zDk_rn h (hLb _)
                  · exact h
                · exact h
            exact gen _ _ _ (zDk_app hD (by dsimp only; omega) (fun x q => by cases q; exact hLb e))) NMb hX3 hPle
          refine ⟨s', by rw [b1, zbv_e, c1], c2, fun q hq => ?_, fun i D hi hD => c3.2 i D hi (zPm_f (zPm_f (zPm_e hD (fun q a b => f1 q (by omega))) hi a3) hi b3)⟩
          rw [c3.1 q hq, b3.1 q (by omega), a3.1 q (by omega), f1 q (by omega)]
        · rw [if_pos gp, zn_a1]
          have hd1p : d1 = (k, ab, none, []) := by rw [hd1, if_neg gp, hk, hab]
          have hkk := zkc_lt (zkd F e)
          have hX3 : (X.1 ++ [(k, ab, none, [])], NM1) = zbl (fun e => zpk (zLo C E S C' F e)) C' F O' (zps C' F m (e + 1)) 0 ([], fun _ => none) := by
            rw [← hPp, hPX, zpf1_id, hd1p]
            intro q o a b ho z
            have hm := zoO_m ho
            have hk2 := hO _ hm
            have w1 := (hB.1 _ hm).1.1
            dsimp only at hk2 w1
            have y1 := (zpO_k hK h30 o w1 hk2).1
            rw [z] at y1
            exact gp y1
          obtain ⟨s', c1, c2, c3⟩ := ih n (e + 1) s2 (X.1 ++ [(k, ab, none, [])], NM1) (by omega) (by omega) M2 N2 a2 (s203 s2 a3) (zDk_app hD (by dsimp only; omega) (fun x q => by cases q)) NMb hX3 hPle
          refine ⟨s', c1, c2, fun q hq => ?_, fun i D hi hD => c3.2 i D hi (zPm_f (zPm_e hD (fun q a b => f1 q (by omega))) hi a3)⟩
          rw [c3.1 q hq, a3.1 q (by omega), f1 q (by omega)]
      have go84 : ∀ (ab : Option Nat), ab = (zpp F e).bind X.2 → ∃ s', zf189_84 179 (zf189_16 179 n) (nI e) (zkd F e) (zoi ab) s1 = some s' ∧ zPm 3 s' (zbl (fun e => zpk (zLo C E S C' F e)) C' F O' C'.length 0 ([], fun _ => none)).1 ∧ (∀ q, q < 195 ∨ 203 < q → s' q = s q) ∧ ∀ i D, i ≠ 3 → zPm i s D → zPm i s' D := by
        intro ab hab
        unfold zf189_84
        have kinds : zkd F e = 100 ∨ zkd F e = 112 ∨ zkd F e = 108 ∨ zkd F e = 105 := by
          rcases hK e heF with ⟨_, _, g3⟩ | ⟨j, _, _, g3⟩
          · exact Or.inl g3
          · rcases g3 with g3 | g3 | g3 | g3
            · exact Or.inr (Or.inl g3.1)
            · exact Or.inr (Or.inr (Or.inl g3.1))
            · exact Or.inr (Or.inr (Or.inr g3.1))
            · exact absurd g3.1 gx
        rcases kinds with g | g | g | g
        · rw [if_neg (fun z => z g)]
          exact go 0 ab (by rw [g]; rfl) hab
        · rw [if_pos (by rw [g]; decide), if_neg (fun z => z g)]
          exact go 1 ab (by rw [g]; rfl) hab
        · rw [if_pos (by rw [g]; decide), if_pos (by rw [g]; decide), if_neg (fun z => z g)]
          exact go 3 ab (by rw [g]; rfl) hab
        · rw [if_pos (by rw [g]; decide), if_pos (by rw [g]; decide), if_pos (by rw [g]; decide)]
          exact go 4 ab (by rw [g]; rfl) hab
      rw [show zrf 179 22 = 195 from rfl, e195, hP.1, show zrf 179 30 = 203 from rfl, zas_n (by show e < 30; omega), ← hs1, show zrf 179 12 = 189 from rfl, zal_n (by show 30 + e < 60; omega), f1 189 (by decide), k2]
      rcases hK e heF with ⟨g1, g2, g3⟩ | ⟨j, g1, g2, g3⟩
      · rw [g2, if_neg (show ¬ (0 : Int32) ≤ -1 by decide)]
        exact go84 none (by unfold zpp; rw [g2, if_pos rfl]; rfl)
      · have jk : zkd F j ≠ 120 := by
          rcases g3 with g3 | g3 | g3 | g3
          · rcases g3.2 with q | q <;> rw [q] <;> decide
          · rcases g3.2 with q | q <;> rw [q] <;> decide
          · rw [g3.2]; decide
          · exact absurd g3.1 gx
        have e3 : s1 203 j = zoi (X.2 j) := by rw [hs1, zw_o (by omega)]; exact hNM j g1 jk
        rw [g2, if_pos (show 0 ≤ nI j from Int32.not_lt.mp (zn_nn (by omega))), zal_n (by show 30 + e < 60; omega), f1 189 (by decide), k2, g2, zal_n (by show j < 30; omega), e3]
        exact go84 (X.2 j) (by unfold zpp; rw [g2, if_neg (zn_nm (by omega)), zn_cl (by omega)]; rfl)
