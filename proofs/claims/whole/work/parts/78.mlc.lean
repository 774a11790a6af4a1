/-! read, the elements on the model's side: all of them. -/
set_option maxRecDepth 100000
set_option linter.unusedVariables false
theorem zn_s1 (k : Nat) : nI (k + 1) - 1 = nI k := by
  rw [zn_lit 1, zn_sub (by omega), Nat.add_sub_cancel]
theorem z123_1 {x1 x2 : Int32} {s : zS} : zf168_123 179 x1 x2 1 s = zf168_143 179 x1 x2 1 (s 179 16) (zw s 179 18 1) := by
  have q : ∀ (c : zS → Option zS), zpb s 179 18 1 c = c (zw s 179 18 1) := fun c => by unfold zpb; exact if_pos (Or.inr rfl)
  unfold zf168_123
  rw [q]
  have e1 : zw s 179 18 1 179 18 = 1 := zw_s
  have e2 : zw s 179 18 1 179 16 = s 179 16 := zw_o (Or.inr (by decide))
  generalize zw s 179 18 1 = t at *
  have g : ∀ k f (c : Int32 → Option zS), zgf t k f c = c (t k f) := fun _ _ _ => rfl
  rw [g, g, e1, e2]
  exact if_neg (by decide)
theorem z123_0 {x1 x2 : Int32} {s : zS} : zf168_123 179 x1 x2 0 s = zf168_143 179 x1 x2 0 (s 179 16) (zw s 179 18 0) := by
  have q : ∀ (c : zS → Option zS), zpb s 179 18 0 c = c (zw s 179 18 0) := fun c => by unfold zpb; exact if_pos (Or.inl rfl)
  unfold zf168_123
  rw [q]
  have e1 : zw s 179 18 0 179 18 = 0 := zw_s
  have e2 : zw s 179 18 0 179 16 = s 179 16 := zw_o (Or.inr (by decide))
  generalize zw s 179 18 0 = t at *
  have g : ∀ k f (c : Int32 → Option zS), zgf t k f c = c (t k f) := fun _ _ _ => rfl
  rw [g, g, e1, e2]
  exact if_pos rfl
theorem zMk_0 : zMk 0 [] := ⟨by omega, fun k hk => by rw [Nat.zero_testBit]; simp⟩
theorem zm168 {p a : Nat} {C : List Int32} {E : List zE} {st : List Nat} {s : zS} (hp : p < 2) (h : zMs p s C) (hE : zMe p s E) (ha : a < C.length) (h16 : s 179 16 = nI a) (h15 : s 179 15 = nI st.length) (hst : st.length ≤ 8) (h17 : s 179 17 = 1) (hP : zPil s st) :
    (∀ f, zbeg C E.length st.length a = .inl f → ∃ s', zf168 179 (nI p) s = some s' ∧ s' 179 17 = 0 ∧ s' 179 16 = nI f ∧ zFz p s s') ∧
    (∀ cl b A, zbeg C E.length st.length a = .inr (cl, b, A) → ∃ s', zf168 179 (nI p) s = some s' ∧ s' 179 17 = 1 ∧ s' 179 16 = nI b ∧ zMe p s' (E ++ [(C.getD (a + 1) (-1), a, ztop st, A)]) ∧ s' 179 15 = nI (if cl = true then st else E.length :: st).length ∧ zPil s' (if cl = true then st else E.length :: st) ∧ s' 190 = s 190 ∧ zFz p s s' ∧ a < b ∧ b ≤ C.length) := by
  have hl := h.1.1
  have h30 := hE.2.1
  have q2 : nI a + 2 = nI (a + 2) := by rw [zn_lit 2, zn_add]
  have stop : ∀ f : Nat, ∃ s', some (zw (zw s 179 17 0) 179 16 (nI f)) = some s' ∧ s' 179 17 = 0 ∧ s' 179 16 = nI f ∧ zFz p s s' := fun f => ⟨_, rfl, by rw [zw_o (Or.inr (by decide)), zw_s], zw_s, zFz_r zFr_stop⟩
  have e0 : zf168 179 (nI p) s = if E.length = 30 ∨ st.length = 8 then some (zw (zw s 179 17 0) 179 16 (nI a)) else if zsm (C.getD (a + 1) (-1)) = true then zf168_62 179 zfz (nI p) (nI a) (nI 0) (zw s 179 16 (nI (a + 2))) else some (zw (zw s 179 17 0) 179 16 (nI (a + 1))) := by
    have e25 : zf168_25 179 (nI a) s = some (zw (zw s 179 17 0) 179 16 (nI a)) := rfl
    unfold zf168
    simp only [zgf, zpf, h16, h15]
    rw [show zrf 179 9 = 186 from rfl, zal_n (by show p < 2; omega), hE.1, e25]
    by_cases g1 : E.length = 30
    · rw [if_pos ((zn_eqL (k := 30) (by omega) (by decide)).mpr g1), if_pos (Or.inl g1)]
    · rw [if_neg (fun q => g1 ((zn_eqL (k := 30) (by omega) (by decide)).mp q))]
      by_cases g2 : st.length = 8
      · rw [if_neg (fun q => q ((zn_eqL (k := 8) (by omega) (by decide)).mpr g2)), if_pos (Or.inr g2)]
      · rw [if_pos (fun q => g2 ((zn_eqL (k := 8) (by omega) (by decide)).mp q)), if_neg (fun q => q.elim g1 g2), zn_a1, z165 hp h (by omega)]
        simp only [zbi]
        rw [z169]
        simp only
        rw [zb_if, q2]
        by_cases g3 : zsm (C.getD (a + 1) (-1)) = true
        · rw [if_pos g3, if_pos g3]
          exact congrArg (fun z => zf168_62 179 zfz (nI p) (nI a) z (zw s 179 16 (nI (a + 2)))) z0e
        · rw [if_neg g3, if_neg g3, z167]
          rfl
  rw [e0]
  unfold zbeg
  by_cases g0 : E.length = 30 ∨ st.length = 8
  · rw [if_pos g0, if_pos g0]
    refine ⟨fun f hf => ?_, fun _ _ _ hh => (by cases hh)⟩
    cases hf
    exact stop a
  rw [if_neg g0, if_neg g0]
  have g1 : E.length ≠ 30 := fun q => g0 (Or.inl q)
  have g2 : st.length ≠ 8 := fun q => g0 (Or.inr q)
  by_cases g3 : zsm (C.getD (a + 1) (-1)) = true
  rotate_left
  · rw [if_neg g3, if_neg g3]
    refine ⟨fun f hf => ?_, fun _ _ _ hh => (by cases hh)⟩
    cases hf
    exact stop (a + 1)
  rw [if_pos g3, if_pos g3]
  obtain ⟨s8, hs8⟩ : ∃ s8, s8 = zw s 179 16 (nI (a + 2)) := ⟨_, rfl⟩
  rw [← hs8]
  have z8 : zFr s s8 := by rw [hs8]; exact zFr_16
  have h8 : zMs p s8 C := zMs_fr (z8.1 184 (by decide)) (z8.1 185 (by decide)) h
  obtain ⟨u1, u2⟩ := zm168_l (C := C) (x2 := nI a) hp 60 zfz (a + 2) 0 s8 [] (by rw [zfz_e]; decide) rfl (by rw [List.length_nil]; omega) (by omega) h8 (by rw [hs8, zw_s]) (by rw [hs8, zw_o (Or.inr (by decide)), h17]) zMk_0
  cases hz : zats C 60 (a + 2) [] with
  | inl f' =>
    obtain ⟨s', v1, v2, v3, v4⟩ := u1 f' hz
    refine ⟨fun f hf => ?_, fun _ _ _ hh => (by cases hh)⟩
    cases hf
    exact ⟨s', v1, v2, v3, zFz_r (zFr_t z8 v4)⟩
  | inr x =>
    obtain ⟨b, A⟩ := x
    obtain ⟨s', v1, v2, v3, v4, v5, v6⟩ := u2 b A hz
    have zs' : zFr s s' := zFr_t z8 v4
    have h' : zMs p s' C := zMs_fr (zs'.1 184 (by decide)) (zs'.1 185 (by decide)) h
    have e95 : zf168_95 179 (nI p) (nI a) s' = if C.getD b (-1) = 47 then zf168_143 179 (nI p) (nI a) 1 (nI b) (zw s' 179 18 1) else zf168_143 179 (nI p) (nI a) 0 (nI b) (zw s' 179 18 0) := by
      unfold zf168_95
      simp only [zgf, v2, v3]
      rw [if_pos (show ¬ (1 : Int32) = 0 by decide), z165 hp h' (by omega)]
      simp only [zbi]
      by_cases g : C.getD b (-1) = 47
      · rw [if_neg (show ¬ ¬ C.getD b (-1) = 47 from fun q => q g), if_pos g, z123_1, v3]
      · rw [if_pos (show ¬ C.getD b (-1) = 47 from g), if_neg g, z123_0, v3]
    rw [v1, e95]
    have zo : ∀ x, zFz p s (zw s' 179 18 x) := fun x => zFz_t (zFz_r zs') (zFz_o (by decide) (by decide))
    have hE' : ∀ x, zMe p (zw s' 179 18 x) E := fun x => by
      unfold zMe
      rw [zw_ne (by decide), zw_ne (by decide), zw_ne (by decide), zw_ne (by decide), zs'.1 186 (by decide), zs'.1 187 (by decide), zs'.1 188 (by decide), zs'.1 189 (by decide)]
      exact hE
    have hP' : ∀ x, zPil (zw s' 179 18 x) st := fun x => zPil_z (by rw [zw_ne (by decide), zs'.1 191 (by decide)]) _ hP
    have k15 : ∀ x, (zw s' 179 18 x) 179 15 = nI st.length := fun x => by rw [zw_o (Or.inr (by decide)), zs'.2 15 (by decide) (by decide), h15]
    have k17 : ∀ x, (zw s' 179 18 x) 179 17 = 1 := fun x => by rw [zw_o (Or.inr (by decide)), v2]
    have k190 : ∀ x, (zw s' 179 18 x) 190 = s 190 := fun x => by rw [zw_ne (by decide), zs'.1 190 (by decide)]
    simp only
    by_cases g4 : C.getD b (-1) = 47
    · rw [if_pos g4, if_pos g4]
      obtain ⟨w1, w2⟩ := zm168_e (A := A) (a := a) (b := b + 1) true hp (zMs_z (zo 1) h) (hE' 1) (by omega) (by omega) (by omega) (k15 1) (by omega) (k17 1) (by rw [zw_s]; rfl) (hP' 1)
      by_cases g5 : C.getD (b + 1) (-1) = 62
      · rw [if_pos g5]
        refine ⟨fun f hf => (by cases hf), fun cl b2 A2 hh => ?_⟩
        cases hh
        have hin : b + 1 < C.length := Nat.lt_of_not_le (fun q => by rw [zgetD_out q] at g5; exact absurd g5 (by decide))
        obtain ⟨s2, x1, x2, x3, x4, x5, x6, x7, x8⟩ := w2 g5 1 (nI b) (zn_a1 b)
        exact ⟨s2, x1, x2, x3, x4, x5, x6, x7.trans (k190 1), zFz_t (zo 1) x8, by omega, by omega⟩
      · rw [if_neg g5]
        refine ⟨fun f hf => ?_, fun _ _ _ hh => (by cases hh)⟩
        cases hf
        obtain ⟨s2, x1, x2, x3, x4⟩ := w1 g5 1 (nI b) (zn_a1 b)
        exact ⟨s2, x1, x2, x3, zFz_t (zo 1) x4⟩
    · rw [if_neg g4, if_neg g4]
      obtain ⟨w1, w2⟩ := zm168_e (A := A) (a := a) (b := b) false hp (zMs_z (zo 0) h) (hE' 0) (by omega) (by omega) (by omega) (k15 0) (by omega) (k17 0) (by rw [zw_s]; rfl) (hP' 0)
      by_cases g5 : C.getD b (-1) = 62
      · rw [if_pos g5]
        refine ⟨fun f hf => (by cases hf), fun cl b2 A2 hh => ?_⟩
        cases hh
        have hin : b < C.length := Nat.lt_of_not_le (fun q => by rw [zgetD_out q] at g5; exact absurd g5 (by decide))
        obtain ⟨s2, x1, x2, x3, x4, x5, x6, x7, x8⟩ := w2 g5 0 (nI b) (zn_a0 b)
        exact ⟨s2, x1, x2, x3, x4, x5, x6, x7.trans (k190 0), zFz_t (zo 0) x8, by omega, by omega⟩
      · rw [if_neg g5]
        refine ⟨fun f hf => ?_, fun _ _ _ hh => (by cases hh)⟩
        cases hf
        obtain ⟨s2, x1, x2, x3, x4⟩ := w1 g5 0 (nI b) (zn_a0 b)
        exact ⟨s2, x1, x2, x3, zFz_t (zo 0) x4⟩
theorem zm166 {p a e : Nat} {C : List Int32} {E : List zE} {st : List Nat} {s : zS} (hp : p < 2) (h : zMs p s C) (hE : zMe p s E) (ha : a < 400) (he : e < E.length) (h16 : s 179 16 = nI a) (h15 : s 179 15 = nI (st.length + 1)) (hst : st.length ≤ 7) (hP : zPil s (e :: st)) :
    (C.getD (a + 2) (-1) ≠ zkd E e → ∃ s', zf166 179 (nI p) s = some s' ∧ s' 179 17 = 0 ∧ s' 179 16 = nI (a + 2) ∧ zFz p s s') ∧
    (C.getD (a + 2) (-1) = zkd E e → C.getD (a + 3) (-1) ≠ 62 → ∃ s', zf166 179 (nI p) s = some s' ∧ s' 179 17 = 0 ∧ s' 179 16 = nI (a + 3) ∧ zFz p s s') ∧
    (C.getD (a + 2) (-1) = zkd E e → C.getD (a + 3) (-1) = 62 → ∃ s', zf166 179 (nI p) s = some s' ∧ s' 179 17 = s 179 17 ∧ s' 179 16 = nI (a + 4) ∧ s' 179 15 = nI st.length ∧ (∀ q, q ≠ 179 → s' q = s q) ∧ zFz p s s') := by
  have hl := h.1.1
  have h30 := hE.2.1
  have q2 : nI a + 2 = nI (a + 2) := by rw [zn_lit 2, zn_add]
  have q3 : nI a + 3 = nI (a + 3) := by rw [zn_lit 3, zn_add]
  have q4 : nI a + 4 = nI (a + 4) := by rw [zn_lit 4, zn_add]
  have n30 : (30 : Int32) * nI p + nI e = nI (30 * p + e) := by rw [zn_lit 30, zn_mul, zn_add]
  have e0 : zf166 179 (nI p) s = if C.getD (a + 2) (-1) = zkd E e then (if C.getD (a + 3) (-1) = 62 then some (zw (zw s 179 15 (nI st.length)) 179 16 (nI (a + 4))) else some (zw (zw s 179 17 0) 179 16 (nI (a + 3)))) else some (zw (zw s 179 17 0) 179 16 (nI (a + 2))) := by
    unfold zf166
    simp only [zgf, zpf, h16]
    rw [q2, q3, q4, z165 hp h (by omega)]
    simp only [zbi]
    rw [h15, zn_s1, show zrf 179 14 = 191 from rfl, zal_n (by show st.length < 8; omega), hP.1, show zrf 179 10 = 187 from rfl, n30, zal_n (by show _ < 60; omega), show s 187 (30 * p + e) = zkd E e from (hE.2.2 e he).1]
    by_cases g1 : C.getD (a + 2) (-1) = zkd E e
    · rw [if_pos g1, if_pos g1, z165 hp h (by omega)]
      simp only
      by_cases g2 : C.getD (a + 3) (-1) = 62
      · rw [if_pos g2, if_pos g2, h15, zn_s1]
      · rw [if_neg g2, if_neg g2, z167]
        rfl
    · rw [if_neg g1, if_neg g1, z167]
      rfl
  have stop : ∀ f : Nat, ∃ s', some (zw (zw s 179 17 0) 179 16 (nI f)) = some s' ∧ s' 179 17 = 0 ∧ s' 179 16 = nI f ∧ zFz p s s' := fun f => ⟨_, rfl, by rw [zw_o (Or.inr (by decide)), zw_s], zw_s, zFz_r zFr_stop⟩
  rw [e0]
  refine ⟨fun g1 => ?_, fun g1 g2 => ?_, fun g1 g2 => ?_⟩
  · rw [if_neg g1]
    exact stop (a + 2)
  · rw [if_pos g1, if_neg g2]
    exact stop (a + 3)
  · rw [if_pos g1, if_pos g2]
    refine ⟨_, rfl, by rw [zw_o (Or.inr (by decide)), zw_o (Or.inr (by decide))], zw_s, by rw [zw_o (Or.inr (by decide)), zw_s], fun q hq => by rw [zw_ne hq, zw_ne hq], zFz_t (zFz_o (by decide) (by decide)) (zFz_o (by decide) (by decide))⟩
/-- the model's elements and letters are these -/
def zMz (p : Nat) (s : zS) (E : List zE) (O : List (Nat × Nat)) : Prop := zMe p s E ∧ ∀ j, j < 300 → s 190 (300 * p + j) = zow O j
theorem zm164_l {p : Nat} {C : List Int32} (hp : p < 2) : ∀ n nf a (s : zS) (E : List zE) (st : List Nat) (O : List (Nat × Nat)), n < nf → C.length < a + n → a ≤ C.length → zMs p s C → zMz p s E O → s 179 16 = nI a → s 179 17 = 1 → s 179 15 = nI st.length → st.length ≤ 8 → zPil s st → (st = [] → E = []) → (∀ e ∈ st, e < E.length) → (∀ q ∈ O, q.1 < a) →
    (∀ f, zpar C n a E st O = .inl f → ∃ s', zf164_50 179 nf (nI p) s = some (nI f, s') ∧ zFz p s s') ∧
    (∀ E' O', zpar C n a E st O = .inr (E', O') → ∃ s', zf164_50 179 nf (nI p) s = some (-1, s') ∧ zFz p s s' ∧ zMz p s' E' O') := by
  -- where it ends
  have fin0 : ∀ (k : Int32 → zS → Option (Int32 × zS)) (s : zS) (f : Nat), s 179 17 = 0 → s 179 16 = nI f → zf164_188 179 k (nI p) s = some (nI f, s) := by
    intro k s f h1 h2
    unfold zf164_188 zf164_202
    simp only [zgf, h1, h2]
    rfl
  intro n
  induction n with
  | zero => intro nf a s E st O hn hf ha; omega
  | succ n ih =>
    intro nf a s E st O hn hf hal h hZ h16 h17 h15 hst hP hES hin hO
    obtain ⟨nf, rfl⟩ : ∃ n', nf = n' + 1 := ⟨nf - 1, by omega⟩
    obtain ⟨hE, hOw⟩ := hZ
    have hl := h.1.1
    have h30 := hE.2.1
    -- behind a step that went well
    have cont : ∀ (s' : zS) (a' : Nat) (E' : List zE) (st' : List Nat) (O' : List (Nat × Nat)), a < a' → a' ≤ C.length → zFz p s s' → zMz p s' E' O' → s' 179 16 = nI a' → s' 179 17 = 1 → s' 179 15 = nI st'.length → st'.length ≤ 8 → zPil s' st' → E' ≠ [] → (∀ e ∈ st', e < E'.length) → (∀ q ∈ O', q.1 < a') →
        (∀ f, zpar C n a' E' st' O' = .inl f → ∃ s2, zf164_188 179 (zf164_50 179 nf) (nI p) s' = some (nI f, s2) ∧ zFz p s s2) ∧ (∀ E2 O2, zpar C n a' E' st' O' = .inr (E2, O2) → ∃ s2, zf164_188 179 (zf164_50 179 nf) (nI p) s' = some (-1, s2) ∧ zFz p s s2 ∧ zMz p s2 E2 O2) := by
      intro s' a' E' st' O' ha' hal' hz' hZ' r16 r17 r15 hst' hP' hne hin' hO'
      have h' : zMs p s' C := zMs_z hz' h
      cases st' with
      | nil =>
        have e0 : zf164_188 179 (zf164_50 179 nf) (nI p) s' = if a' = C.length then some (-1, s') else some (nI a', s') := by
          unfold zf164_188 zf164_202
          simp only [zgf, r17, r16, r15]
          rw [if_neg (show ¬ (1 : Int32) = 0 by decide), if_neg (by decide), if_neg (show ¬ (1 : Int32) = 0 by decide), show zrf 179 8 = 185 from rfl, zal_n (by show p < 2; omega), h'.2]
          by_cases g : a' = C.length
          · rw [if_pos g, if_neg (show ¬ ¬ nI a' = nI C.length from fun q => q (by rw [g]))]
          · rw [if_neg g, if_pos (show ¬ nI a' = nI C.length from fun q => g ((zn_eq (by omega) (by omega)).mp q))]
        rw [e0]
        obtain ⟨n2, hn2⟩ : ∃ n2, n = n2 + 1 := ⟨n - 1, by omega⟩
        rw [hn2, zpar, if_neg hne]
        by_cases g : a' = C.length
        · rw [if_pos g, if_pos g]
          exact ⟨fun f hf => (by cases hf), fun E2 O2 hh => (by cases hh; exact ⟨s', rfl, hz', hZ'⟩)⟩
        · rw [if_neg g, if_neg g]
          exact ⟨fun f hf => (by cases hf; exact ⟨s', rfl, hz'⟩), fun E2 O2 hh => (by cases hh)⟩
      | cons e' st' =>
        have e0 : zf164_188 179 (zf164_50 179 nf) (nI p) s' = zf164_50 179 nf (nI p) s' := by
          unfold zf164_188
          simp only [zgf, r17, r15]
          rw [if_neg (show ¬ (1 : Int32) = 0 by decide), if_pos ((zn_gtL (k := 0) (by omega) (by decide)).mpr (by rw [List.length_cons]; omega))]
        rw [e0]
        obtain ⟨i1, i2⟩ := ih nf a' s' E' (e' :: st') O' (by omega) (by omega) hal' h' hZ' r16 r17 r15 hst' hP' (fun q => by cases q) hin' hO'
        refine ⟨fun f hf => ?_, fun E2 O2 hh => ?_⟩
        · obtain ⟨s2, w1, w2⟩ := i1 f hf
          exact ⟨s2, w1, zFz_t hz' w2⟩
        · obtain ⟨s2, w1, w2, w3⟩ := i2 E2 O2 hh
          exact ⟨s2, w1, zFz_t hz' w2, w3⟩
    have stop : zf164_141 179 (zf164_50 179 nf) (nI p) s = some (nI a, zw (zw s 179 17 0) 179 16 (nI a)) := by
      unfold zf164_141
      simp only [zgf, h16]
      rw [z167]
      exact fin0 _ _ a (by rw [zw_o (Or.inr (by decide)), zw_s]) zw_s
    have sf : zFz p s (zw (zw s 179 17 0) 179 16 (nI a)) := zFz_r zFr_stop
    rw [zf164_50]
    simp only [zgf, h16]
    rw [z165 hp h (by omega)]
    simp only [zbi]
    rw [h15, h16, zn_a1, z165 hp h (by omega)]
    simp only
    cases st with
    | nil =>
      have hE0 := hES rfl
      rw [zpar, if_pos hE0, if_pos (show nI ([] : List Nat).length ≤ 0 by decide)]
      have e97 : ∀ A : Option (Int32 × zS), (if ¬ C.getD a (-1) = 60 then zf164_97 179 (zf164_50 179 nf) (nI p) (C.getD a (-1)) s else zf164_97 179 (zf164_50 179 nf) (nI p) (C.getD a (-1)) s) = A ↔ zf164_97 179 (zf164_50 179 nf) (nI p) (C.getD a (-1)) s = A := by
        intro A
        by_cases g : C.getD a (-1) = 60
        · rw [if_neg (fun q => q g)]
        · rw [if_pos g]
      simp only [e97]
      unfold zf164_97
      by_cases g1 : C.getD a (-1) = 60
      · rw [if_pos g1]
        have hain : a < C.length := Nat.lt_of_not_le (fun q => by rw [zgetD_out q] at g1; exact absurd g1 (by decide))
        simp only [if_neg (show ¬ ¬ C.getD a (-1) = 60 from fun q => q g1)]
        obtain ⟨u1, u2⟩ := zm168 (st := []) hp h hE hain h16 h15 (by decide) h17 trivial
        have hE00 : E.length = 0 := by rw [hE0]; rfl
        rw [hE00] at u1 u2
        rw [List.length_nil] at u1 u2
        cases hz : zbeg C 0 0 a with
        | inl f' =>
          obtain ⟨s', v1, v2, v3, v4⟩ := u1 f' hz
          rw [v1]
          simp only [zbv]
          rw [fin0 _ s' f' v2 v3]
          exact ⟨fun f hf => (by cases hf; exact ⟨s', rfl, v4⟩), fun _ _ hh => (by cases hh)⟩
        | inr x =>
          obtain ⟨cl, b, A⟩ := x
          obtain ⟨s', v1, v2, v3, v4, v5, v6, v7, v8, v9, v10⟩ := u2 cl b A hz
          rw [v1]
          simp only [zbv]
          rw [hE0, List.nil_append] at v4
          refine cont s' b [(C.getD (a + 1) (-1), a, -1, A)] (if cl = true then [] else [0]) O v9 v10 v8 ⟨v4, fun j hj => by rw [v7]; exact hOw j hj⟩ v3 v2 v5 (by cases cl <;> decide) v6 (fun q => by cases q) ?_ (fun q hq => Nat.lt_trans (hO q hq) v9)
          intro e he
          cases cl
          · rw [List.mem_singleton.mp he]
            exact Nat.zero_lt_one
          · exact absurd he List.not_mem_nil
      · rw [if_neg g1]
        simp only [if_pos (show ¬ C.getD a (-1) = 60 from g1), zgf, h15]
        rw [if_pos (show nI ([] : List Nat).length = 0 from rfl), stop]
        exact ⟨fun f hf => (by cases hf; exact ⟨_, rfl, sf⟩), fun _ _ hh => (by cases hh)⟩
    | cons e st =>
      have he := hin e List.mem_cons_self
      have hEne : E ≠ [] := fun q => by rw [q] at he; exact absurd he (Nat.not_lt_zero _)
      rw [List.length_cons] at hst h15
      rw [zpar, if_neg (show ¬ nI (e :: st).length ≤ 0 from fun q => by have := (zn_leL (k := 0) (by rw [List.length_cons]; omega) (by decide)).mp q; rw [List.length_cons] at this; omega)]
      by_cases g1 : C.getD a (-1) = 60
      · have hain : a < C.length := Nat.lt_of_not_le (fun q => by rw [zgetD_out q] at g1; exact absurd g1 (by decide))
        rw [if_pos g1, if_neg (show ¬ ¬ C.getD a (-1) = 60 from fun q => q g1)]
        by_cases g2 : C.getD (a + 1) (-1) = 47
        · rw [if_pos g2, if_neg (show ¬ ¬ C.getD (a + 1) (-1) = 47 from fun q => q g2)]
          obtain ⟨u1, u2, u3⟩ := zm166 hp h hE (by omega) he h16 h15 (by omega) hP
          by_cases g3 : C.getD (a + 2) (-1) = zkd E e
          · rw [if_pos g3]
            by_cases g4 : C.getD (a + 3) (-1) = 62
            · have hin3 : a + 3 < C.length := Nat.lt_of_not_le (fun q => by rw [zgetD_out q] at g4; exact absurd g4 (by decide))
              obtain ⟨s', v1, v2, v3, v4, v5, v6⟩ := u3 g3 g4
              rw [if_pos g4, v1]
              simp only [zbv]
              refine cont s' (a + 4) E st O (by omega) (by omega) v6 ⟨?_, fun j hj => by rw [v5 190 (by decide)]; exact hOw j hj⟩ v3 (v2.trans h17) v4 (by omega) (zPil_z (v5 191 (by decide)) _ hP.2) hEne (fun x hx => hin x (List.mem_cons_of_mem _ hx)) (fun q hq => by have := hO q hq; omega)
              unfold zMe
              rw [v5 186 (by decide), v5 187 (by decide), v5 188 (by decide), v5 189 (by decide)]
              exact hE
            · obtain ⟨s', v1, v2, v3, v4⟩ := u2 g3 g4
              rw [if_neg g4, v1]
              simp only [zbv]
              rw [fin0 _ s' _ v2 v3]
              exact ⟨fun f hf => (by cases hf; exact ⟨s', rfl, v4⟩), fun _ _ hh => (by cases hh)⟩
          · obtain ⟨s', v1, v2, v3, v4⟩ := u1 g3
            rw [if_neg g3, v1]
            simp only [zbv]
            rw [fin0 _ s' _ v2 v3]
            exact ⟨fun f hf => (by cases hf; exact ⟨s', rfl, v4⟩), fun _ _ hh => (by cases hh)⟩
        · rw [if_neg g2, if_pos (show ¬ C.getD (a + 1) (-1) = 47 from g2)]
          unfold zf164_97
          rw [if_neg (show ¬ ¬ C.getD a (-1) = 60 from fun q => q g1)]
          obtain ⟨u1, u2⟩ := zm168 (st := e :: st) hp h hE hain h16 (by rw [List.length_cons]; exact h15) (by rw [List.length_cons]; exact hst) h17 hP
          rw [List.length_cons] at u1 u2
          cases hz : zbeg C E.length (st.length + 1) a with
          | inl f' =>
            obtain ⟨s', v1, v2, v3, v4⟩ := u1 f' hz
            rw [v1]
            simp only [zbv]
            rw [fin0 _ s' f' v2 v3]
            exact ⟨fun f hf => (by cases hf; exact ⟨s', rfl, v4⟩), fun _ _ hh => (by cases hh)⟩
          | inr x =>
            obtain ⟨cl, b, A⟩ := x
            obtain ⟨s', v1, v2, v3, v4, v5, v6, v7, v8, v9, v10⟩ := u2 cl b A hz
            rw [v1]
            simp only [zbv]
            have h8 : st.length + 1 ≠ 8 := by
              intro q
              unfold zbeg at hz
              rw [if_pos (Or.inr q)] at hz
              cases hz
            refine cont s' b (E ++ [(C.getD (a + 1) (-1), a, nI e, A)]) (if cl = true then e :: st else E.length :: e :: st) O v9 v10 v8 ⟨v4, fun j hj => by rw [v7]; exact hOw j hj⟩ v3 v2 v5 ?_ v6 (fun q => by simp at q) ?_ (fun q hq => Nat.lt_trans (hO q hq) v9)
            · cases cl
              · show (E.length :: e :: st).length ≤ 8
                rw [List.length_cons, List.length_cons]
                omega
              · show (e :: st).length ≤ 8
                rw [List.length_cons]
                omega
            · intro x hx
              rw [List.length_append, List.length_singleton]
              cases cl
              · rcases List.mem_cons.mp hx with hx | hx
                · omega
                · have := hin x hx
                  omega
              · have := hin x hx
                omega
      · rw [if_neg g1, if_pos (show ¬ C.getD a (-1) = 60 from g1)]
        unfold zf164_97
        rw [if_pos (show ¬ C.getD a (-1) = 60 from g1)]
        simp only [zgf, h15]
        rw [if_neg (show ¬ nI (st.length + 1) = 0 from fun q => by have := (zn_eqL (k := 0) (by omega) (by decide)).mp q; omega)]
        by_cases g2 : C.getD a (-1) = -1
        · rw [if_pos (Or.inl g2), if_pos g2, stop]
          exact ⟨fun f hf => (by cases hf; exact ⟨_, rfl, sf⟩), fun _ _ hh => (by cases hh)⟩
        rw [if_neg g2]
        have hain : a < C.length := Nat.lt_of_not_le (fun q => g2 (zgetD_out q))
        by_cases g3 : C.getD a (-1) = 62
        · rw [if_pos (Or.inr (Or.inl g3)), if_pos g3, stop]
          exact ⟨fun f hf => (by cases hf; exact ⟨_, rfl, sf⟩), fun _ _ hh => (by cases hh)⟩
        rw [if_neg g3]
        by_cases g4 : C.getD a (-1) = 38
        · rw [if_pos (Or.inr (Or.inr (Or.inl g4))), if_pos g4, stop]
          exact ⟨fun f hf => (by cases hf; exact ⟨_, rfl, sf⟩), fun _ _ hh => (by cases hh)⟩
        rw [if_neg g4]
        by_cases g5 : C.getD a (-1) = 126
        · rw [if_pos (Or.inr (Or.inr (Or.inr g5))), if_neg (show ¬ ¬ C.getD a (-1) = 126 from fun q => q g5), stop]
          exact ⟨fun f hf => (by cases hf; exact ⟨_, rfl, sf⟩), fun _ _ hh => (by cases hh)⟩
        have hno : ¬ (C.getD a (-1) = -1 ∨ C.getD a (-1) = 62 ∨ C.getD a (-1) = 38 ∨ C.getD a (-1) = 126) := fun q => by
          rcases q with q | q | q | q
          · exact g2 q
          · exact g3 q
          · exact g4 q
          · exact g5 q
        rw [if_neg hno, if_pos (show ¬ C.getD a (-1) = 126 from g5), h16, zn_s1, show zrf 179 14 = 191 from rfl, zal_n (by show st.length < 8; omega), hP.1, show zrf 179 13 = 190 from rfl, zn_300, zas_n (by show _ < 600; omega)]
        simp only [zpf]
        rw [zw_ne (by decide), h16, zn_a1]
        obtain ⟨s7, hs7⟩ : ∃ s7, s7 = zw (zw s 190 (300 * p + a) (nI e)) 179 16 (nI (a + 1)) := ⟨_, rfl⟩
        rw [← hs7]
        have z7 : zFz p s s7 := by rw [hs7]; exact zFz_t (zFz_w (by omega)) (zFz_o (by decide) (by decide))
        have k7 : ∀ f, f ≠ 16 → s7 179 f = s 179 f := fun f hf => by rw [hs7, zw_o (Or.inr hf), zw_ne (by decide)]
        have f7 : ∀ q, q ≠ 179 → q ≠ 190 → s7 q = s q := fun q q1 q2 => by rw [hs7, zw_ne q1, zw_ne q2]
        refine cont s7 (a + 1) E (e :: st) (O ++ [(a, e)]) (by omega) (by omega) z7 ⟨?_, ?_⟩ (by rw [hs7, zw_s]) (by rw [k7 17 (by decide), h17]) (by rw [k7 15 (by decide), h15, List.length_cons]) (by rw [List.length_cons]; exact hst) (zPil_z (f7 191 (by decide) (by decide)) _ hP) hEne hin ?_
        · unfold zMe
          rw [f7 186 (by decide) (by decide), f7 187 (by decide) (by decide), f7 188 (by decide) (by decide), f7 189 (by decide) (by decide)]
          exact hE
        · intro j hj
          rw [zow_app hO, hs7, zw_ne (by decide)]
          by_cases ej : j = a
          · rw [if_pos ej, ej, zw_s]
          · rw [if_neg ej, zw_o (Or.inr (by omega))]
            exact hOw j hj
        · intro q hq
          rcases List.mem_append.mp hq with hq | hq
          · have := hO q hq
            omega
          · rw [List.mem_singleton.mp hq]
            show a < a + 1
            omega
