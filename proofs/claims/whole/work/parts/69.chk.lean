/-! read, the checks of the contents, both sides. -/
set_option maxRecDepth 100000
set_option linter.unusedVariables false
theorem zdrop {C : List Int32} {i : Nat} (h : i < C.length) : C.drop i = C.getD i (-1) :: C.drop (i + 1) := by
  rw [List.drop_eq_getElem_cons h, List.getD_eq_getElem?_getD, List.getElem?_eq_getElem h]
  rfl
theorem zgetD_mem {C : List Int32} {i : Nat} (h : i < C.length) : C.getD i (-1) ∈ C := by
  rw [List.getD_eq_getElem?_getD, List.getElem?_eq_getElem h]
  exact List.getElem_mem h
theorem z38 {r : Nat} {s : zS} {C : List Int32} (h : zRow r s C) (hC : zLt C) : zf38 r s = some (nI (zcr 65535 C), s) := by
  have hl := zRow_lt h
  have hs := h.1
  have l : ∀ m i n v, i + m = C.length → m < n → v < 65536 → zf38_5 r n (nI v) (nI i) s = some (nI (zcr v (C.drop i)), s) := by
    intro m
    induction m with
    | zero =>
      intro i n v hi hn hv
      obtain ⟨n, rfl⟩ : ∃ n', n = n' + 1 := ⟨n - 1, by omega⟩
      rw [zf38_5]
      simp only [zgf, hs]
      rw [if_pos ((zn_le (by omega) (by omega)).mpr (by omega)), List.drop_eq_nil_of_le (by omega), zcr]
    | succ m ih =>
      intro i n v hi hn hv
      obtain ⟨n, rfl⟩ : ∃ n', n = n' + 1 := ⟨n - 1, by omega⟩
      rw [zf38_5]
      simp only [zgf, hs]
      have hil : i < C.length := by omega
      obtain ⟨w, w1, w2, w3⟩ := hC _ (zgetD_mem hil)
      rw [if_neg (fun q => by have := (zn_le (by omega) (by omega)).mp q; omega), zal_n (by have := h.2.1; omega), h.2.2 i hil, w3, zn_shl8, zn_xor]
      have e : v ^^^ (w * 256) < 65536 := Nat.xor_lt_two_pow (n := 16) hv (by omega)
      have q := z38_27 (r := r) (k5 := zf38_5 r n) (x2 := nI i) (s := s) 8 0 zfz (v ^^^ (w * 256)) rfl (by rw [zfz_e]; decide) e
      rw [zdrop hil, w3, zcr, zn_cl (by omega)]
      have q2 : zf38_27 r (zf38_5 r n) zfz (nI (v ^^^ (w * 256))) (nI i) 0 s = zf38_5 r n (nI (zcks 8 (v ^^^ (w * 256)))) (nI i + 1) s := q
      rw [q2, zn_a1]
      exact ih (i + 1) n _ (by omega) (by omega) (zcks_lt 8 _ e)
  have := l C.length 0 zfz 65535 (Nat.zero_add _) (by rw [zfz_e]; omega) (by decide)
  rw [List.drop_zero] at this
  exact this
/-- the check that stands in the text is the number S -/
def zcO (T : List Int32) (e S : Nat) : Bool := decide (zhn (T.getD e (-1)) = S / 4096 % 16 ∧ zhn (T.getD (e + 1) (-1)) = S / 256 % 16 ∧ zhn (T.getD (e + 2) (-1)) = S / 16 % 16 ∧ zhn (T.getD (e + 3) (-1)) = S % 16)
theorem z39 {d : Nat} {s : zS} (h : d < 16) : zf39 (nI d) s = some (nI (if d < 10 then 48 + d else 87 + d), s) := by
  unfold zf39
  by_cases g : d < 10
  · rw [if_neg (fun q => by have := (zn_geL (k := 10) (by omega) (by decide)).mp q; omega), if_pos g, zn_lit 48, zn_add]
  · rw [if_pos ((zn_geL (k := 10) (by omega) (by decide)).mpr (by omega)), if_neg g, zn_lit 97, zn_add, zn_lit 10, zn_sub (by omega), show 97 + d - 10 = 87 + d by omega]
theorem zhx_e {x : Int32} {d : Nat} (h : zhx x = true) (hd : d < 16) : x = nI (if d < 10 then 48 + d else 87 + d) ↔ zhn x = d := by
  obtain ⟨e1, e2, e3⟩ := zhx_v h
  constructor
  · intro q
    have e4 := e3.symm.trans q
    generalize zhn x = w at *
    have e5 := (zn_eq (by split <;> omega) (by split <;> omega)).mp e4
    split at e5 <;> split at e5 <;> omega
  · intro q
    rw [q] at e3
    exact e3
theorem zs37 {a e : Nat} {s : zS} {T C : List Int32} (hA : zA a) (hT : zRow 1 s T) (hC : zRow (a + 1) s C) (hL : zLt C) (he : s a 4 = nI e) (he2 : e < 2000) (hx : ∀ k, k < 4 → zhx (T.getD (e + k) (-1)) = true) :
    zf37 a 1 s = if zcO T e (zcr 65535 C) = true then some (-1, s) else some (nI e, s) := by
  obtain ⟨w1, w2, w3, w4, w5, w6, w7, w8, w9, w10⟩ := zA_e hA
  have hS := zcr_lt C 65535 (by decide) hL
  obtain ⟨M, hz⟩ : ∃ M, zfz = M + 10 := ⟨9990, zfz_e⟩
  unfold zf37
  rw [w1, z38 hC hL]
  simp only [zbi]
  generalize zcr 65535 C = S at *
  have st : ∀ i n, i < 4 → zf37_10 a 1 (n + 1) (nI S) (nI i) s = if zhn (T.getD (e + i) (-1)) = S / 2 ^ (12 - 4 * i) % 16 then zf37_10 a 1 n (nI S) (nI (i + 1)) s else some (nI e, s) := by
    intro i n hi
    rw [zf37_10, if_neg (fun q => by have := (zn_geL (k := 4) (by omega) (by decide)).mp q; omega)]
    simp only [zgf, he]
    rw [zn_add, z18 hT (by omega)]
    simp only [zbi]
    have e1 : (12 : Int32) - 4 * nI i = nI (12 - 4 * i) := by rw [zn_lit 4, zn_mul, zn_lit 12, zn_sub (by omega)]
    rw [e1, zn_shr S (12 - 4 * i) hS (by omega), z39 (Nat.mod_lt _ (by decide))]
    simp only
    have e2 := zhx_e (hx i hi) (Nat.mod_lt (S / 2 ^ (12 - 4 * i)) (by decide : 0 < 16))
    by_cases g : zhn (T.getD (e + i) (-1)) = S / 2 ^ (12 - 4 * i) % 16
    · rw [if_pos (e2.mpr g), if_pos g, zn_a1]
    · rw [if_neg (fun q => g (e2.mp q)), if_neg g, he]
  have e0 : zf37_10 a 1 zfz (nI S) 0 s = zf37_10 a 1 (M + 10) (nI S) (nI 0) s := by
    rw [hz]
    rfl
  have e4 : zf37_10 a 1 (M + 6) (nI S) (nI 4) s = some (-1, s) := by
    rw [zf37_10, if_pos (by decide)]
  rw [e0, st 0 _ (by decide), st 1 _ (by decide), st 2 _ (by decide), st 3 _ (by decide), e4]
  unfold zcO
  have p0 : S / 2 ^ (12 - 4 * 0) % 16 = S / 4096 % 16 := rfl
  have p1 : S / 2 ^ (12 - 4 * 1) % 16 = S / 256 % 16 := rfl
  have p2 : S / 2 ^ (12 - 4 * 2) % 16 = S / 16 % 16 := rfl
  have p3 : S / 2 ^ (12 - 4 * 3) % 16 = S % 16 := by show S / 1 % 16 = _; rw [Nat.div_one]
  rw [p0, p1, p2, p3, Nat.add_zero e]
  generalize zhn (T.getD e (-1)) = u0
  generalize zhn (T.getD (e + 1) (-1)) = u1
  generalize zhn (T.getD (e + 2) (-1)) = u2
  generalize zhn (T.getD (e + 3) (-1)) = u3
  by_cases g0 : u0 = S / 4096 % 16
  · by_cases g1 : u1 = S / 256 % 16
    · by_cases g2 : u2 = S / 16 % 16
      · by_cases g3 : u3 = S % 16
        · simp [g0, g1, g2, g3]
        · simp [g0, g1, g2, g3]
      · simp [g0, g1, g2]
    · simp [g0, g1]
  · simp [g0]
theorem zm162 {p d c : Nat} {s : zS} {T C : List Int32} (hp : p < 2) (h : zMtx s T) (hC : zMc p s C) (hn : s 185 p = nI C.length) (hL : zLt C) (h2 : s 182 p = nI d) (h3 : s 183 p = nI c) (hdc : d + c + 4 ≤ T.length) (hx : ∀ k, k < 4 → zhx (T.getD (d + c + k) (-1)) = true) :
    zf162 179 (nI p) s = some (if zcO T (d + c) (zcr 65535 C) = true then 1 else 0, s) := by
  have hT := h.2.1
  have hc1 := hC.1
  have hS := zcr_lt C 65535 (by decide) hL
  obtain ⟨M, hz⟩ : ∃ M, zfz = M + 10 := ⟨9990, zfz_e⟩
  have l : ∀ m i n v, i + m = C.length → m < n → v < 65536 → zf162_5 179 n (nI p) (nI v) (nI i) s = zf162_43 179 zfz (nI p) (nI (zcr v (C.drop i))) 0 0 s := by
    intro m
    induction m with
    | zero =>
      intro i n v hi hn' hv
      obtain ⟨n, rfl⟩ : ∃ n', n = n' + 1 := ⟨n - 1, by omega⟩
      rw [zf162_5, show zrf 179 8 = 185 from rfl, zal_n (by show p < 2; omega), hn, if_pos ((zn_le (by omega) (by omega)).mpr (by omega)), List.drop_eq_nil_of_le (by omega), zcr]
    | succ m ih =>
      intro i n v hi hn' hv
      obtain ⟨n, rfl⟩ : ∃ n', n = n' + 1 := ⟨n - 1, by omega⟩
      have hil : i < C.length := by omega
      obtain ⟨w, w1, w2, w3⟩ := hL _ (zgetD_mem hil)
      rw [zf162_5, show zrf 179 8 = 185 from rfl, zal_n (by show p < 2; omega), hn, if_neg (fun q => by have := (zn_le (by omega) (by omega)).mp q; omega), show zrf 179 7 = 184 from rfl, zn_300, zal_n (by show _ < 600; omega), hC.2 i hil, w3, z163 hv (by omega)]
      simp only [zbi]
      rw [zdrop hil, w3, zcr, zn_cl (by omega), zn_a1]
      have e : v ^^^ (w * 256) < 65536 := Nat.xor_lt_two_pow (n := 16) hv (by omega)
      exact ih (i + 1) n _ (by omega) (by omega) (zcks_lt 8 _ e)
  have e0 := l C.length 0 zfz 65535 (Nat.zero_add _) (by rw [zfz_e]; omega) (by decide)
  rw [List.drop_zero] at e0
  have e1 : zf162 179 (nI p) s = zf162_43 179 zfz (nI p) (nI (zcr 65535 C)) 0 0 s := e0
  rw [e1]
  generalize zcr 65535 C = S at *
  have st : ∀ i n t, i < 4 → t < 100000 → zf162_43 179 (n + 1) (nI p) (nI S) (nI t) (nI i) s = zf162_43 179 n (nI p) (nI S) (nI (16 * t + zhn (T.getD (d + c + i) (-1)))) (nI (i + 1)) s := by
    intro i n t hi ht
    rw [zf162_43, if_neg (fun q => by have := (zn_geL (k := 4) (by omega) (by decide)).mp q; omega), show zrf 179 5 = 182 from rfl, show zrf 179 6 = 183 from rfl, zal_n (by show p < 2; omega), zal_n (by show p < 2; omega), h2, h3, zn_add, zn_add, show zrf 179 1 = 180 from rfl, zMt_at h (by omega), z157]
    simp only [zbi]
    rw [(zhx_v (hx i hi)).1, zn_lit 16, zn_mul, zn_add, zn_a1]
  have b0 := (zhx_v (hx 0 (by decide))).2.1
  have b1 := (zhx_v (hx 1 (by decide))).2.1
  have b2 := (zhx_v (hx 2 (by decide))).2.1
  have b3 := (zhx_v (hx 3 (by decide))).2.1
  have e2 : zf162_43 179 zfz (nI p) (nI S) 0 0 s = zf162_43 179 (M + 10) (nI p) (nI S) (nI 0) (nI 0) s := by
    rw [hz]
    rfl
  rw [e2, st 0 _ _ (by decide) (by decide), st 1 _ _ (by decide) (by omega), st 2 _ _ (by decide) (by omega), st 3 _ _ (by decide) (by omega)]
  rw [Nat.add_zero] at b0
  rw [Nat.add_zero (d + c), zf162_43, if_pos (by decide)]
  unfold zcO
  generalize zhn (T.getD (d + c) (-1)) = u0 at *
  generalize zhn (T.getD (d + c + 1) (-1)) = u1 at *
  generalize zhn (T.getD (d + c + 2) (-1)) = u2 at *
  generalize zhn (T.getD (d + c + 3) (-1)) = u3 at *
  by_cases g : u0 = S / 4096 % 16 ∧ u1 = S / 256 % 16 ∧ u2 = S / 16 % 16 ∧ u3 = S % 16
  · have e5 : nI S = nI (16 * (16 * (16 * (16 * 0 + u0) + u1) + u2) + u3) := (zn_eq (by omega) (by omega)).mpr (by omega)
    rw [decide_eq_true g, if_neg (fun q => q e5)]
    rfl
  · have e5 : ¬ nI S = nI (16 * (16 * (16 * (16 * 0 + u0) + u1) + u2) + u3) := fun q => g (by have := (zn_eq (by omega) (by omega)).mp q; omega)
    rw [decide_eq_false g, if_pos e5]
    rfl
/-- the letters of a content are letters of the text -/
theorem zcp_lt (back : Nat) : ∀ m C, zLt C → 1 ≤ back → back ≤ C.length → zLt (zcp back m C) := by
  intro m
  induction m with
  | zero => intro C h _ _; exact h
  | succ m ih =>
    intro C h h1 h2
    refine ih _ (fun c hc => ?_) h1 (by rw [List.length_append]; omega)
    rcases List.mem_append.mp hc with hc | hc
    · exact h c hc
    · rw [List.mem_singleton.mp hc]
      exact h _ (zgetD_mem (by omega))
theorem zup_lt {T : List Int32} {b : Bool} {e : Nat} (hT : zLt T) (he : e ≤ T.length) : ∀ m at' C C', zLt C → zup T b e m at' C = .inr C' → zLt C' ∧ (C.length ≤ 300 → C'.length ≤ 300) := by
  intro m
  induction m with
  | zero =>
    intro at' C C' h hu
    cases hu
    exact ⟨h, fun h => h⟩
  | succ m ih =>
    intro at' C C' h hu
    rw [zup] at hu
    split at hu
    · cases hu
      exact ⟨h, fun h => h⟩
    · next g0 =>
      split at hu
      · split at hu
        · cases hu
        · next bk t g2 =>
          have hb := zrfc_b g2
          split at hu
          · next g3 =>
            obtain ⟨i1, i2⟩ := ih _ _ _ (zcp_lt bk t C h (by omega) (by omega)) hu
            exact ⟨i1, fun _ => i2 (by rw [zcp_len]; exact g3)⟩
          · cases hu
      · split at hu
        · next g3 =>
          have hin : at' < T.length := by omega
          obtain ⟨i1, i2⟩ := ih _ _ _ (fun c hc => by
            rcases List.mem_append.mp hc with hc | hc
            · exact h c hc
            · rw [List.mem_singleton.mp hc]
              exact hT _ (zgetD_mem hin)) hu
          exact ⟨i1, fun _ => i2 (by rw [List.length_append, List.length_singleton]; exact g3)⟩
        · cases hu
