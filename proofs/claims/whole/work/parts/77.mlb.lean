/-! read, the elements on the model's side: beginnings and ends. -/
set_option maxRecDepth 100000
set_option linter.unusedVariables false
/-- the model's elements p -/
def zMe (p : Nat) (s : zS) (E : List zE) : Prop := s 186 p = nI E.length ∧ E.length ≤ 30 ∧ ∀ e, e < E.length → s 187 (30 * p + e) = (E.getD e (0, 0, 0, [])).1 ∧ s 188 (30 * p + e) = nI (E.getD e (0, 0, 0, [])).2.1 ∧ s 189 (30 * p + e) = (E.getD e (0, 0, 0, [])).2.2.1
def zPil (s : zS) : List Nat → Prop
  | [] => True
  | e :: st => s 191 st.length = nI e ∧ zPil s st
/-- what telling the elements p may change -/
def zFz (p : Nat) (s s' : zS) : Prop := (∀ q, q ≠ 179 → q < 186 ∨ 191 < q → s' q = s q) ∧ (∀ f, f < 15 ∨ 18 < f → s' 179 f = s 179 f) ∧ (∀ j, j ≠ p → s' 186 j = s 186 j) ∧ (∀ q, 187 ≤ q → q ≤ 189 → ∀ j, j < 30 * p ∨ 30 * p + 30 ≤ j → s' q j = s q j) ∧ ∀ j, j < 300 * p ∨ 300 * p + 300 ≤ j → s' 190 j = s 190 j
theorem zFz_t {p : Nat} {s s1 s2 : zS} (h1 : zFz p s s1) (h2 : zFz p s1 s2) : zFz p s s2 :=
  ⟨fun q a b => (h2.1 q a b).trans (h1.1 q a b), fun f a => (h2.2.1 f a).trans (h1.2.1 f a), fun j a => (h2.2.2.1 j a).trans (h1.2.2.1 j a), fun q a b j c => (h2.2.2.2.1 q a b j c).trans (h1.2.2.2.1 q a b j c), fun j a => (h2.2.2.2.2 j a).trans (h1.2.2.2.2 j a)⟩
theorem zFz_r {p : Nat} {s s' : zS} (h : zFr s s') : zFz p s s' :=
  ⟨fun q a _ => h.1 q a, fun f a => h.2 f (by omega) (by omega), fun j _ => by rw [h.1 186 (by decide)], fun q a b j _ => by rw [h.1 q (by omega)], fun j _ => by rw [h.1 190 (by decide)]⟩
theorem zFz_o {p f : Nat} {x : Int32} {s : zS} (hf : 15 ≤ f) (hf2 : f ≤ 18) : zFz p s (zw s 179 f x) :=
  ⟨fun q a _ => zw_ne a, fun g a => zw_o (Or.inr (by omega)), fun j _ => zw_o (Or.inl (by decide)), fun q a b j _ => zw_o (Or.inl (by omega)), fun j _ => zw_o (Or.inl (by decide))⟩
theorem zFz_e {p : Nat} {x : Int32} {s : zS} : zFz p s (zw s 186 p x) :=
  ⟨fun q a b => zw_ne (by omega), fun g a => zw_o (Or.inl (by decide)), fun j a => zw_o (Or.inr a), fun q a b j _ => zw_o (Or.inl (by omega)), fun j _ => zw_o (Or.inl (by decide))⟩
theorem zFz_a {p q0 i : Nat} {x : Int32} {s : zS} (h1 : 187 ≤ q0) (h2 : q0 ≤ 189) (hi : i < 30) : zFz p s (zw s q0 (30 * p + i) x) :=
  ⟨fun q a b => zw_ne (by omega), fun g a => zw_o (Or.inl (by omega)), fun j a => zw_o (Or.inl (by omega)), fun q a b j c => by
    by_cases e : q = q0
    · exact zw_o (Or.inr (by omega))
    · exact zw_o (Or.inl e), fun j _ => zw_o (Or.inl (by omega))⟩
theorem zFz_w {p i : Nat} {x : Int32} {s : zS} (hi : i < 300) : zFz p s (zw s 190 (300 * p + i) x) :=
  ⟨fun q a b => zw_ne (by omega), fun g a => zw_o (Or.inl (by decide)), fun j a => zw_o (Or.inl (by decide)), fun q a b j c => zw_o (Or.inl (by omega)), fun j c => zw_o (Or.inr (by omega))⟩
theorem zFz_p {p i : Nat} {x : Int32} {s : zS} : zFz p s (zw s 191 i x) :=
  ⟨fun q a b => zw_ne (by omega), fun g a => zw_o (Or.inl (by decide)), fun j a => zw_o (Or.inl (by decide)), fun q a b j c => zw_o (Or.inl (by omega)), fun j c => zw_o (Or.inl (by decide))⟩
theorem zMs_z {p p' : Nat} {s s' : zS} {C : List Int32} (hf : zFz p' s s') (h : zMs p s C) : zMs p s' C := zMs_fr (hf.1 184 (by decide) (by decide)) (hf.1 185 (by decide) (by decide)) h
/-- the attributes of a beginning -/
theorem zm168_l {p : Nat} {C : List Int32} {x2 : Int32} (hp : p < 2) : ∀ m n a M (s : zS) (A : List (Nat × Nat)), m + 1 < n → A.length + m = 60 → 5 * A.length + 2 ≤ a → a ≤ 302 → zMs p s C → s 179 16 = nI a → s 179 17 = 1 → zMk M (A.map fun q => C.getD q.1 (-1)) →
    (∀ f, zats C m a A = .inl f → ∃ s', zf168_62 179 n (nI p) x2 (nI M) s = some s' ∧ s' 179 17 = 0 ∧ s' 179 16 = nI f ∧ zFr s s') ∧
    (∀ b A', zats C m a A = .inr (b, A') → ∃ s', zf168_62 179 n (nI p) x2 (nI M) s = zf168_95 179 (nI p) x2 s' ∧ s' 179 17 = 1 ∧ s' 179 16 = nI b ∧ zFr s s' ∧ b ≤ 302 ∧ a ≤ b) := by
  have ex : ∀ n a M (s : zS), zMs p s C → s 179 16 = nI a → s 179 17 = 1 → a ≤ 302 → ¬ C.getD a (-1) = 32 → zf168_62 179 (n + 1) (nI p) x2 (nI M) s = zf168_95 179 (nI p) x2 s := by
    intro n a M s h h16 h17 ha g
    rw [zf168_62]
    simp only [zgf, h16, h17]
    rw [if_neg (by decide), z165 hp h (by omega)]
    simp only [zbi]
    rw [if_pos g]
  intro m
  induction m with
  | zero =>
    intro n a M s A hn hA h5 ha h h16 h17 hM
    obtain ⟨n, rfl⟩ : ∃ n', n = n' + 1 := ⟨n - 1, by omega⟩
    have hl := h.1.1
    refine ⟨fun f hf => (by cases hf), fun b A' hb => ?_⟩
    cases hb
    exact ⟨s, ex n a M s h h16 h17 ha (by rw [zgetD_out (by omega)]; decide), h17, h16, ⟨fun _ _ => rfl, fun _ _ _ => rfl⟩, ha, Nat.le_refl _⟩
  | succ m ih =>
    intro n a M s A hn hA h5 ha h h16 h17 hM
    obtain ⟨n, rfl⟩ : ∃ n', n = n' + 1 := ⟨n - 1, by omega⟩
    have hl := h.1.1
    rw [zats]
    by_cases g : C.getD a (-1) = 32
    rotate_left
    · rw [if_neg g]
      refine ⟨fun f hf => (by cases hf), fun b A' hb => ?_⟩
      cases hb
      exact ⟨s, ex n a M s h h16 h17 ha g, h17, h16, ⟨fun _ _ => rfl, fun _ _ _ => rfl⟩, ha, Nat.le_refl _⟩
    rw [if_pos g]
    have e0 : zf168_62 179 (n + 1) (nI p) x2 (nI M) s = zbi (zf170 179 (nI p) (nI M) s) fun v5 s6 => zf168_62 179 n (nI p) x2 (nI M ||| v5) s6 := by
      rw [zf168_62]
      simp only [zgf, h16, h17]
      rw [if_neg (by decide), z165 hp h (by omega)]
      simp only [zbi]
      rw [if_neg (show ¬ ¬ C.getD a (-1) = 32 from fun q => q g)]
    rw [e0]
    obtain ⟨u1, u2⟩ := zm170 (ls := A.map fun q => C.getD q.1 (-1)) hp h h16 h17 (by omega) hM
    cases hz : zat1 C (A.map fun q => C.getD q.1 (-1)) a with
    | inl f' =>
      obtain ⟨s', v1, v2, v3, v4⟩ := u1 f' hz
      rw [v1]
      simp only [zbi]
      obtain ⟨n, rfl⟩ : ∃ n', n = n' + 1 := ⟨n - 1, by omega⟩
      refine ⟨fun f hf => ?_, fun b A' hb => (by cases hb)⟩
      cases hf
      refine ⟨s', ?_, v2, v3, v4⟩
      rw [zf168_62]
      simp only [zgf, v2]
      unfold zf168_95
      simp only [zgf, v2]
      rfl
    | inr m' =>
      obtain ⟨k, s', k1, k2, v1, v2, v3, v4⟩ := u2 m' hz
      rw [v1]
      simp only [zbi]
      have hq : a + 4 + m' < C.length := by
        unfold zat1 at hz
        split at hz
        · split at hz
          · split at hz
            · split at hz
              · next q4 =>
                cases hz
                exact Nat.lt_of_not_le (fun q => by rw [zgetD_out q] at q4; exact absurd q4 (by decide))
              · cases hz
            · cases hz
          · cases hz
        · cases hz
      rw [zn_or]
      have hMk : zMk (M ||| 2 ^ k) ((A ++ [(a + 1, m')]).map fun q => C.getD q.1 (-1)) := by
        rw [List.map_append]
        show zMk (M ||| 2 ^ k) (A.map (fun q => C.getD q.1 (-1)) ++ [C.getD (a + 1) (-1)])
        rw [k2]
        exact zMk_add hM k1
      obtain ⟨i1, i2⟩ := ih n (a + 4 + m' + 1) (M ||| 2 ^ k) s' (A ++ [(a + 1, m')]) (by omega) (by rw [List.length_append, List.length_singleton]; omega) (by rw [List.length_append, List.length_singleton]; omega) (by omega) (zMs_fr (v4.1 184 (by decide)) (v4.1 185 (by decide)) h) v3 v2 hMk
      refine ⟨fun f hf => ?_, fun b A' hb => ?_⟩
      · obtain ⟨s2, w1, w2, w3, w4⟩ := i1 f hf
        exact ⟨s2, w1, w2, w3, zFr_t v4 w4⟩
      · obtain ⟨s2, w1, w2, w3, w4, w5, w6⟩ := i2 b A' hb
        exact ⟨s2, w1, w2, w3, zFr_t v4 w4, w5, by omega⟩
theorem zPil_z {s s' : zS} (h : s' 191 = s 191) : ∀ st, zPil s st → zPil s' st := by
  intro st
  induction st with
  | nil => intro _; exact trivial
  | cons e st ih =>
    intro q
    exact ⟨by rw [h]; exact q.1, ih q.2⟩
theorem zPil_w {s : zS} {i : Nat} {x : Int32} : ∀ st, st.length ≤ i → zPil s st → zPil (zw s 191 i x) st := by
  intro st
  induction st with
  | nil => intro _ _; exact trivial
  | cons e st ih =>
    intro hl q
    rw [List.length_cons] at hl
    exact ⟨by rw [zw_o (Or.inr (by omega))]; exact q.1, ih (by omega) q.2⟩
/-- the last part of a beginning: the element is noted -/
theorem zm168_e {p a b : Nat} {C : List Int32} {E : List zE} {st : List Nat} {s : zS} {A : List (Nat × Nat)} (cl : Bool) (hp : p < 2) (h : zMs p s C) (hE : zMe p s E) (h30 : E.length < 30) (ha : a < 400) (hb : b < 400) (h15 : s 179 15 = nI st.length) (hst : st.length ≤ 7) (h17 : s 179 17 = 1) (h18 : s 179 18 = (if cl = true then 1 else 0)) (hP : zPil s st) :
    (C.getD b (-1) ≠ 62 → ∀ t0 t1, t1 + t0 = nI b → ∃ s', zf168_143 179 (nI p) (nI a) t0 t1 s = some s' ∧ s' 179 17 = 0 ∧ s' 179 16 = nI b ∧ zFz p s s') ∧
    (C.getD b (-1) = 62 → ∀ t0 t1, t1 + t0 = nI b → ∃ s', zf168_143 179 (nI p) (nI a) t0 t1 s = some s' ∧ s' 179 17 = 1 ∧ s' 179 16 = nI (b + 1) ∧ zMe p s' (E ++ [(C.getD (a + 1) (-1), a, ztop st, A)]) ∧ s' 179 15 = nI (if cl = true then st else E.length :: st).length ∧ zPil s' (if cl = true then st else E.length :: st) ∧ s' 190 = s 190 ∧ zFz p s s') := by
  obtain ⟨s1, hs1⟩ : ∃ s1, s1 = zw s 179 16 (nI b) := ⟨_, rfl⟩
  have z1 : zFz p s s1 := by rw [hs1]; exact zFz_o (by decide) (by decide)
  have h1 : zMs p s1 C := zMs_z z1 h
  have k1 : ∀ f, f ≠ 16 → s1 179 f = s 179 f := fun f hf => by rw [hs1, zw_o (Or.inr hf)]
  have f1 : ∀ q, q ≠ 179 → s1 q = s q := fun q hq => by rw [hs1, zw_ne hq]
  have r1 : s1 179 16 = nI b := by rw [hs1, zw_s]
  refine ⟨fun g t0 t1 et => ?_, fun g t0 t1 et => ?_⟩
  · refine ⟨zw (zw s1 179 17 0) 179 16 (nI b), ?_, by rw [zw_o (Or.inr (by decide)), zw_s], zw_s, zFz_t z1 (zFz_r zFr_stop)⟩
    unfold zf168_143
    simp only [zpf, zgf]
    rw [et, ← hs1, r1, z165 hp h1 (by omega)]
    simp only [zbi]
    rw [if_neg g, r1, z167]
    rfl
  · obtain ⟨s6, hs6⟩ : ∃ s6, s6 = zw s1 179 16 (nI (b + 1)) := ⟨_, rfl⟩
    have z6 : zFz p s1 s6 := by rw [hs6]; exact zFz_o (by decide) (by decide)
    have h6 : zMs p s6 C := zMs_z z6 h1
    have k6 : ∀ f, f ≠ 16 → s6 179 f = s 179 f := fun f hf => by rw [hs6, zw_o (Or.inr hf), k1 f hf]
    have f6 : ∀ q, q ≠ 179 → s6 q = s q := fun q hq => by rw [hs6, zw_ne hq, f1 q hq]
    obtain ⟨s11, hs11⟩ : ∃ s11, s11 = zw (zw s6 187 (30 * p + E.length) (C.getD (a + 1) (-1))) 188 (30 * p + E.length) (nI a) := ⟨_, rfl⟩
    have z11 : zFz p s6 s11 := by rw [hs11]; exact zFz_t (zFz_a (by decide) (by decide) h30) (zFz_a (by decide) (by decide) h30)
    have k11 : ∀ f, s11 179 f = s6 179 f := fun f => by rw [hs11, zw_ne (by decide), zw_ne (by decide)]
    have n30 : (30 : Int32) * nI p + nI E.length = nI (30 * p + E.length) := by rw [zn_lit 30, zn_mul, zn_add]
    have e0 : zf168_143 179 (nI p) (nI a) t0 t1 s = zf168_254 179 (nI p) (nI E.length) (ztop st) (nI (30 * p + E.length)) s11 := by
      unfold zf168_143
      simp only [zpf, zgf]
      rw [et, ← hs1, r1, z165 hp h1 (by omega)]
      simp only [zbi]
      rw [if_pos g, r1, zn_a1, ← hs6, show zrf 179 9 = 186 from rfl, zal_n (by show p < 2; omega), f6 186 (by decide), hE.1, zn_a1, z165 hp h6 (by omega)]
      simp only
      rw [n30, show zrf 179 10 = 187 from rfl, zas_n (by show _ < 60; omega), show zrf 179 11 = 188 from rfl, zas_n (by show _ < 60; omega), ← hs11, k11 15, k6 15 (by decide), h15]
      cases st with
      | nil => rw [if_neg (show ¬ ¬ nI ([] : List Nat).length = 0 from fun q => q rfl)]; rfl
      | cons e st =>
        rw [List.length_cons] at hst
        rw [if_pos (show ¬ nI (e :: st).length = 0 from fun q => by have := (zn_eqL (k := 0) (by rw [List.length_cons]; omega) (by decide)).mp q; rw [List.length_cons] at this; omega), show zrf 179 14 = 191 from rfl, List.length_cons, zn_lit 1, zn_sub (by omega), Nat.add_sub_cancel, zal_n (by show st.length < 8; omega)]
        have e5 : s11 191 st.length = nI e := by
          rw [hs11, zw_ne (by decide), zw_ne (by decide), f6 191 (by decide)]
          exact hP.1
        rw [e5]
        rfl
    obtain ⟨s3, hs3⟩ : ∃ s3, s3 = zw (zw s11 189 (30 * p + E.length) (ztop st)) 186 p (nI (E.length + 1)) := ⟨_, rfl⟩
    have z3 : zFz p s11 s3 := by rw [hs3]; exact zFz_t (zFz_a (by decide) (by decide) h30) zFz_e
    have k3 : ∀ f, f ≠ 16 → s3 179 f = s 179 f := fun f hf => by rw [hs3, zw_ne (by decide), zw_ne (by decide), k11 f, k6 f hf]
    have r3 : s3 179 16 = nI (b + 1) := by rw [hs3, zw_ne (by decide), zw_ne (by decide), k11, hs6, zw_s]
    have zz : zFz p s s3 := zFz_t z1 (zFz_t z6 (zFz_t z11 z3))
    have p3 : s3 191 = s 191 := by rw [hs3, zw_ne (by decide), zw_ne (by decide), hs11, zw_ne (by decide), zw_ne (by decide), f6 191 (by decide)]
    have o3 : s3 190 = s 190 := by rw [hs3, zw_ne (by decide), zw_ne (by decide), hs11, zw_ne (by decide), zw_ne (by decide), f6 190 (by decide)]
    have hE3 : zMe p s3 (E ++ [(C.getD (a + 1) (-1), a, ztop st, A)]) := by
      refine ⟨by rw [hs3, zw_s, List.length_append]; rfl, by rw [List.length_append, List.length_singleton]; omega, fun e he => ?_⟩
      rw [List.length_append, List.length_singleton] at he
      have t1 : s3 187 (30 * p + e) = if e = E.length then C.getD (a + 1) (-1) else s 187 (30 * p + e) := by
        rw [hs3, zw_ne (by decide), zw_ne (by decide), hs11, zw_ne (by decide)]
        by_cases e1 : e = E.length
        · rw [if_pos e1, e1, zw_s]
        · rw [if_neg e1, zw_o (Or.inr (by omega)), f6 187 (by decide)]
      have t2 : s3 188 (30 * p + e) = if e = E.length then nI a else s 188 (30 * p + e) := by
        rw [hs3, zw_ne (by decide), zw_ne (by decide), hs11]
        by_cases e1 : e = E.length
        · rw [if_pos e1, e1, zw_s]
        · rw [if_neg e1, zw_o (Or.inr (by omega)), zw_ne (by decide), f6 188 (by decide)]
      have t3 : s3 189 (30 * p + e) = if e = E.length then ztop st else s 189 (30 * p + e) := by
        rw [hs3, zw_ne (by decide)]
        by_cases e1 : e = E.length
        · rw [if_pos e1, e1, zw_s]
        · rw [if_neg e1, zw_o (Or.inr (by omega)), hs11, zw_ne (by decide), zw_ne (by decide), f6 189 (by decide)]
      rw [t1, t2, t3]
      by_cases e1 : e = E.length
      · subst e1
        rw [zgetE_r]
        simp only [if_true]
        exact ⟨trivial, trivial, trivial⟩
      · simp only [e1, if_false]
        rw [zgetE_l (by omega)]
        exact hE.2.2 e (by omega)
    have e1 : zf168_254 179 (nI p) (nI E.length) (ztop st) (nI (30 * p + E.length)) s11 = if cl = true then some s3 else some (zw (zw s3 191 st.length (nI E.length)) 179 15 (nI (st.length + 1))) := by
      unfold zf168_254
      rw [show zrf 179 12 = 189 from rfl, zas_n (by show _ < 60; omega), show zrf 179 9 = 186 from rfl, zal_n (by show p < 2; omega)]
      have e6 : zw s11 189 (30 * p + E.length) (ztop st) 186 p = nI E.length := by rw [zw_ne (by decide), hs11, zw_ne (by decide), zw_ne (by decide), f6 186 (by decide), hE.1]
      rw [e6, zas_n (by show p < 2; omega), zn_a1, ← hs3]
      simp only [zgf, zpf]
      rw [k3 18 (by decide), h18, k3 15 (by decide), h15]
      cases cl with
      | true => rfl
      | false =>
        rw [if_neg (show ¬ ¬ (if (false : Bool) = true then (1 : Int32) else 0) = 0 from fun q => q rfl), show zrf 179 14 = 191 from rfl, zas_n (by show st.length < 8; omega), zw_ne (by decide), k3 15 (by decide), h15, zn_a1]
        rfl
    rw [e0, e1]
    cases cl with
    | true =>
      exact ⟨s3, rfl, by rw [k3 17 (by decide), h17], r3, hE3, by rw [k3 15 (by decide), h15]; rfl, zPil_z p3 _ hP, o3, zz⟩
    | false =>
      refine ⟨_, rfl, ?_, ?_, ?_, ?_, ?_, ?_, ?_⟩
      · rw [zw_o (Or.inr (by decide)), zw_ne (by decide), k3 17 (by decide), h17]
      · rw [zw_o (Or.inr (by decide)), zw_ne (by decide), r3]
      · refine ⟨?_, hE3.2.1, fun e he => ?_⟩
        · rw [zw_ne (by decide), zw_ne (by decide)]
          exact hE3.1
        · rw [zw_ne (by decide), zw_ne (by decide), zw_ne (by decide), zw_ne (by decide), zw_ne (by decide), zw_ne (by decide)]
          exact hE3.2.2 e he
      · rw [zw_s]
        rfl
      · refine ⟨by rw [zw_ne (by decide), zw_s], zPil_z (zw_ne (by decide)) _ (zPil_w _ (Nat.le_refl _) (zPil_z p3 _ hP))⟩
      · rw [zw_ne (by decide), zw_ne (by decide), o3]
      · exact zFz_t zz (zFz_t zFz_p (zFz_o (by decide) (by decide)))
