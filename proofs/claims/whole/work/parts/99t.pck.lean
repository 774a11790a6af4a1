/-! emit: rows that may run over, packing, and the parts of a package, both sides. -/
set_option maxRecDepth 100000
set_option linter.unusedVariables false
/-- the row at r was given the letters T; what is too much was left out and noted -/
def zRo (r : Nat) (s : zS) (T : List Int32) : Prop := s r 1 = nI (min T.length (zca (zrf r 0))) ∧ s r 2 = (if T.length ≤ zca (zrf r 0) then 0 else 1) ∧ ∀ j, j < min T.length (zca (zrf r 0)) → s (zrf r 0) j = T.getD j (-1)
theorem zRo_row {r : Nat} {s : zS} {T : List Int32} (h : zRo r s T) (hl : T.length ≤ zca (zrf r 0)) : zRow r s T ∧ s r 2 = 0 := by
  obtain ⟨a, b, c⟩ := h
  rw [Nat.min_eq_left hl] at a c
  rw [if_pos hl] at b
  exact ⟨⟨a, hl, c⟩, b⟩
theorem zRo_over {r : Nat} {s : zS} {T : List Int32} (h : zRo r s T) (hl : ¬ T.length ≤ zca (zrf r 0)) : s r 2 = 1 := by
  rw [h.2.1, if_neg hl]
theorem zRo_f {r : Nat} {s s' : zS} {T : List Int32} (h : zRo r s T) (h1 : s' r = s r) (h2 : s' (zrf r 0) = s (zrf r 0)) : zRo r s' T := by
  unfold zRo
  rw [h1, h2]
  exact h
theorem zro13 {r : Nat} {c : Int32} {s : zS} {T : List Int32} (hr : zrf r 0 ≠ r) (h : zRo r s T) : ∃ s', zf13 r c s = some s' ∧ zRo r s' (T ++ [c]) ∧ ∀ q, q ≠ r → q ≠ zrf r 0 → s' q = s q := by
  have hcap := zca_lt (zrf r 0)
  obtain ⟨a, b, d⟩ := h
  unfold zf13
  rw [zgf_e, a]
  by_cases g : T.length < zca (zrf r 0)
  · rw [Nat.min_eq_left (by omega)] at a d ⊢
    rw [if_pos (show T.length ≤ zca (zrf r 0) by omega)] at b
    rw [if_neg (show ¬ nI (zca (zrf r 0)) ≤ nI T.length from fun q => by have := (zn_le (by omega) (by omega)).mp q; omega), zgf_e, a, zas_n g, zgf_e, zw_o (Or.inl (fun e => hr e.symm)), a, zn_a1, zpf_e]
    refine ⟨_, rfl, ⟨?_, ?_, fun j hj => ?_⟩, fun q h1 h2 => by rw [zw_ne h1, zw_ne h2]⟩
    · rw [zw_s, List.length_append, List.length_singleton, Nat.min_eq_left (by omega)]
    · rw [zw_o (Or.inr (by decide)), zw_o (Or.inl (fun e => hr e.symm)), b, List.length_append, List.length_singleton, if_pos (by omega)]
    · rw [List.length_append, List.length_singleton, Nat.min_eq_left (by omega)] at hj
      rw [zw_o (Or.inl hr)]
      by_cases e : j = T.length
      · subst e
        rw [zw_s, zgetD_last]
      · rw [zw_o (Or.inr e), d j (by omega), zgetD_app (by omega)]
  · rw [Nat.min_eq_right (by omega)] at a d ⊢
    rw [if_pos (show nI (zca (zrf r 0)) ≤ nI (zca (zrf r 0)) from Int32.le_refl _), zpb_1]
    refine ⟨_, rfl, ⟨?_, ?_, fun j hj => ?_⟩, fun q h1 h2 => zw_ne h1⟩
    · rw [zw_o (Or.inr (by decide)), a, List.length_append, List.length_singleton, Nat.min_eq_right (by omega)]
    · rw [zw_s, List.length_append, List.length_singleton, if_neg (by omega)]
    · rw [List.length_append, List.length_singleton, Nat.min_eq_right (by omega)] at hj
      rw [zw_o (Or.inl hr), d j hj, zgetD_app (by omega)]
theorem zro15 {r : Nat} {s : zS} (hr : zrf r 0 ≠ r) : ∃ s', zf15 r s = some s' ∧ zRo r s' [] ∧ ∀ q, q ≠ r → s' q = s q := by
  unfold zf15
  rw [zpf_e, zpb_0]
  refine ⟨_, rfl, ⟨?_, ?_, fun j hj => ?_⟩, fun q h1 => by rw [zw_ne h1, zw_ne h1]⟩
  · rw [zw_o (Or.inr (by decide)), zw_s, List.length_nil, Nat.zero_min]
    rfl
  · rw [zw_s, List.length_nil, if_pos (Nat.zero_le _)]
  · rw [List.length_nil, Nat.zero_min] at hj
    exact absurd hj (Nat.not_lt_zero _)
theorem zro121 {r : Nat} (hr : zrf r 0 ≠ r) : ∀ (X : List Int32) {s : zS} {T : List Int32}, zRo r s T → ∃ s', zf121 r X s = some s' ∧ zRo r s' (T ++ X) ∧ ∀ q, q ≠ r → q ≠ zrf r 0 → s' q = s q := by
  intro X
  induction X with
  | nil =>
    intro s T h
    exact ⟨s, by rw [zf121], by rw [List.append_nil]; exact h, fun _ _ _ => rfl⟩
  | cons c X ih =>
    intro s T h
    obtain ⟨s1, a1, a2, a3⟩ := zro13 (c := c) hr h
    obtain ⟨s', b1, b2, b3⟩ := ih a2
    refine ⟨s', by rw [zf121, a1, zbv_e, b1], ?_, fun q h1 h2 => by rw [b3 q h1 h2, a3 q h1 h2]⟩
    rw [List.append_assoc] at b2
    exact b2
theorem zro144 {r r2 : Nat} {X : List Int32} (hr : zrf r 0 ≠ r) (h2 : r2 ≠ r ∧ r2 ≠ zrf r 0 ∧ zrf r2 0 ≠ r ∧ zrf r2 0 ≠ zrf r 0) {s : zS} {T : List Int32} (hX : zRow r2 s X) (h : zRo r s T) : ∃ s', zf144 r r2 s = some s' ∧ zRo r s' (T ++ X) ∧ ∀ q, q ≠ r → q ≠ zrf r 0 → s' q = s q := by
  have hX5 := zRow_lt hX
  have l : ∀ m n i (s : zS) T, i + m = X.length → m < n → zRow r2 s X → zRo r s T → ∃ s', zf144_2 r r2 n (nI i) s = some s' ∧ zRo r s' (T ++ X.drop i) ∧ ∀ q, q ≠ r → q ≠ zrf r 0 → s' q = s q := by
    intro m
    induction m with
    | zero =>
      intro n i s T hi hn hX h
      obtain ⟨n, rfl⟩ : ∃ n', n = n' + 1 := ⟨n - 1, by omega⟩
      refine ⟨s, ?_, ?_, fun _ _ _ => rfl⟩
      · rw [zf144_2, zgf_e, hX.1, if_pos ((zn_le (by omega) (by omega)).mpr (by omega))]
      · rw [List.drop_eq_nil_of_le (by omega), List.append_nil]
        exact h
    | succ m ih =>
      intro n i s T hi hn hX h
      obtain ⟨n, rfl⟩ : ∃ n', n = n' + 1 := ⟨n - 1, by omega⟩
      obtain ⟨s1, a1, a2, a3⟩ := zro13 (c := X.getD i (-1)) hr h
      obtain ⟨s', b1, b2, b3⟩ := ih n (i + 1) s1 (T ++ [X.getD i (-1)]) (by omega) (by omega) (zRow_f hX (a3 r2 h2.1 h2.2.1) (a3 (zrf r2 0) h2.2.2.1 h2.2.2.2)) a2
      refine ⟨s', ?_, ?_, fun q u w => by rw [b3 q u w, a3 q u w]⟩
      · rw [zf144_2, zgf_e, hX.1, if_neg (fun q => by have := (zn_le (by omega) (by omega)).mp q; omega), zal_n (by have := hX.2.1; omega), hX.2.2 i (by omega), a1, zbv_e, zn_a1]
        exact b1
      · rw [zdrop (by omega)]
        rw [List.append_assoc] at b2
        exact b2
  unfold zf144
  have := l X.length zfz 0 s T (Nat.zero_add _) (by rw [zfz_e]; omega) hX h
  rw [List.drop_zero] at this
  exact this
/-! packing -/
def zsf (C : List Int32) (a b : Nat) : Nat → Nat → Nat
  | 0, n => n
  | m + 1, n => if a + n < C.length ∧ C.getD (a + n) (-1) = C.getD (a + n - b) (-1) then zsf C a b m (n + 1) else n
/-- how many letters from a on are as those b in front -/
def zsame (C : List Int32) (a b : Nat) : Nat := zsf C a b 14 0
theorem zsf_b {C : List Int32} {a b : Nat} : ∀ m n, a + n ≤ C.length → n ≤ zsf C a b m n ∧ zsf C a b m n ≤ n + m ∧ a + zsf C a b m n ≤ C.length := by
  intro m
  induction m with
  | zero => intro n h; exact ⟨Nat.le_refl _, Nat.le_refl _, h⟩
  | succ m ih =>
    intro n h
    rw [zsf]
    split
    · next g =>
      have := ih (n + 1) (by omega)
      omega
    · exact ⟨Nat.le_refl _, by omega, h⟩
theorem zsame_b {C : List Int32} {a b : Nat} (h : a ≤ C.length) : zsame C a b ≤ 14 ∧ a + zsame C a b ≤ C.length := by
  have := zsf_b (C := C) (a := a) (b := b) 14 0 h
  unfold zsame
  omega
theorem z143 {r a b : Nat} {s : zS} {C : List Int32} (h : zRow r s C) (hb : b ≤ a) (ha : a ≤ C.length) : zf143 r (nI a) (nI b) s = some (nI (zsame C a b), s) := by
  have hl := zRow_lt h
  have l : ∀ m n f, n + m = 14 → m < f → zf143_2 r f (nI a) (nI b) (nI n) s = some (nI (zsf C a b m n), s) := by
    intro m
    induction m with
    | zero =>
      intro n f hn hf
      obtain ⟨f, rfl⟩ : ∃ f', f = f' + 1 := ⟨f - 1, by omega⟩
      rw [zf143_2, if_pos ((zn_geL (k := 14) (by omega) (by decide)).mpr (by omega)), zsf]
    | succ m ih =>
      intro n f hn hf
      obtain ⟨f, rfl⟩ : ∃ f', f = f' + 1 := ⟨f - 1, by omega⟩
      rw [zf143_2, if_neg (fun q => by have := (zn_geL (k := 14) (by omega) (by decide)).mp q; omega), zgf_e, h.1, zn_add, zsf]
      by_cases g : a + n < C.length
      · rw [if_neg (fun q => by have := (zn_le (by omega) (by omega)).mp q; omega), z18 h (by omega), zbi_e, zn_sub (by omega), z18 h (by omega), zbi_e]
        by_cases e : C.getD (a + n) (-1) = C.getD (a + n - b) (-1)
        · rw [if_neg (fun q => q e), if_pos ⟨g, e⟩, zn_a1]
          exact ih (n + 1) f (by omega) (by omega)
        · rw [if_pos e, if_neg (fun q => e q.2)]
      · rw [if_pos ((zn_le (by omega) (by omega)).mpr (by omega)), if_neg (fun q => g q.1)]
  unfold zf143
  exact l 14 0 zfz rfl (by rw [zfz_e]; decide)
/-- what the model has made of part p -/
def zMde (p : Nat) (s : zS) (C : List Int32) : Prop := s 221 p = nI C.length ∧ C.length ≤ 2400 ∧ ∀ j, j < C.length → s 220 (2400 * p + j) = C.getD j (-1)
theorem zn_24 (p j : Nat) : ((2400 : Int32) * nI p) + nI j = nI (2400 * p + j) := by rw [zn_lit 2400, zn_mul, zn_add]
theorem zm238 {p a b : Nat} {s : zS} {C : List Int32} (hp : p < 2) (h : zMde p s C) (hb : b ≤ a) (ha : a ≤ C.length) : zf238 179 (nI p) (nI a) (nI b) s = some (nI (zsame C a b), s) := by
  have hl := h.2.1
  have l : ∀ m n f, n + m = 14 → m < f → zf238_3 179 f (nI p) (nI a) (nI b) (nI n) s = some (nI (zsf C a b m n), s) := by
    intro m
    induction m with
    | zero =>
      intro n f hn hf
      obtain ⟨f, rfl⟩ : ∃ f', f = f' + 1 := ⟨f - 1, by omega⟩
      rw [zf238_3, if_pos ((zn_geL (k := 14) (by omega) (by decide)).mpr (by omega)), zsf]
    | succ m ih =>
      intro n f hn hf
      obtain ⟨f, rfl⟩ : ∃ f', f = f' + 1 := ⟨f - 1, by omega⟩
      rw [zf238_3, if_neg (fun q => by have := (zn_geL (k := 14) (by omega) (by decide)).mp q; omega), show zrf 179 52 = 221 from rfl, zal_n (by show p < 2; omega), h.1, zn_add, zsf]
      by_cases g : a + n < C.length
      · have e1 : s 220 (2400 * p + a + n) = C.getD (a + n) (-1) := by rw [Nat.add_assoc]; exact h.2.2 (a + n) g
        have e2 : s 220 (2400 * p + a + n - b) = C.getD (a + n - b) (-1) := by
          rw [show 2400 * p + a + n - b = 2400 * p + (a + n - b) by omega]
          exact h.2.2 (a + n - b) (by omega)
        rw [if_neg (fun q => by have := (zn_le (by omega) (by omega)).mp q; omega), show zrf 179 51 = 220 from rfl, zn_24, zn_add, zal_n (by show _ < 4800; omega), e1, zn_sub (by omega), zal_n (by show _ < 4800; omega), e2]
        by_cases e : C.getD (a + n) (-1) = C.getD (a + n - b) (-1)
        · rw [if_neg (fun q => q e), if_pos ⟨g, e⟩, zn_a1]
          exact ih (n + 1) f (by omega) (by omega)
        · rw [if_pos e, if_neg (fun q => e q.2)]
      · rw [if_pos ((zn_le (by omega) (by omega)).mpr (by omega)), if_neg (fun q => g q.1)]
  unfold zf238
  exact l 14 0 zfz rfl (by rw [zfz_e]; decide)
/-- the best of the letters in front: how far (0: none), how many -/
def zbb (C : List Int32) (a : Nat) : Nat → Nat → Nat → Nat → Nat × Nat
  | 0, _, b, n => (b, n)
  | m + 1, d, b, n => if 99 < d ∨ a < d then (b, n) else if zsame C a d ≤ n then zbb C a m (d + 1) b n else zbb C a m (d + 1) d (zsame C a d)
def zbest (C : List Int32) (a : Nat) : Nat × Nat := zbb C a 100 1 0 4
theorem zbb_p {C : List Int32} {a : Nat} (ha : a ≤ C.length) : ∀ m d b n, 1 ≤ d → n ≤ 14 → (b ≠ 0 → b ≤ 99 ∧ b ≤ a ∧ n = zsame C a b ∧ 5 ≤ n) → (b = 0 → n = 4) → (zbb C a m d b n).2 ≤ 14 ∧ ((zbb C a m d b n).1 ≠ 0 → (zbb C a m d b n).1 ≤ 99 ∧ (zbb C a m d b n).1 ≤ a ∧ (zbb C a m d b n).2 = zsame C a (zbb C a m d b n).1 ∧ 5 ≤ (zbb C a m d b n).2) := by
  intro m
  induction m with
  | zero => intro d b n _ h14 h _; exact ⟨h14, h⟩
  | succ m ih =>
    intro d b n hd h14 h h0
    rw [zbb]
    by_cases g : 99 < d ∨ a < d
    · rw [if_pos g]; exact ⟨h14, h⟩
    · rw [if_neg g]
      by_cases e : zsame C a d ≤ n
      · rw [if_pos e]; exact ih (d + 1) b n (by omega) h14 h h0
      · rw [if_neg e]
        have hb := zsame_b (b := d) ha
        refine ih (d + 1) d (zsame C a d) (by omega) hb.1 (fun _ => ⟨by omega, by omega, rfl, ?_⟩) (fun q => by omega)
        by_cases q : b = 0
        · have := h0 q; omega
        · have := (h q).2.2.2; omega
theorem zbest_p {C : List Int32} {a : Nat} (ha : a ≤ C.length) : (zbest C a).2 ≤ 14 ∧ ((zbest C a).1 ≠ 0 → (zbest C a).1 ≤ 99 ∧ (zbest C a).1 ≤ a ∧ (zbest C a).2 = zsame C a (zbest C a).1 ∧ 5 ≤ (zbest C a).2) := zbb_p ha 100 1 0 4 (by decide) (by decide) (fun q => absurd rfl q) (fun _ => rfl)
def zob (b : Nat) : Int32 := if b = 0 then -1 else nI b
theorem z142 {r a : Nat} {s : zS} {C : List Int32} (h : zRow r s C) (ha : a ≤ C.length) : zf142 r (nI a) s = some (zob (zbest C a).1, s) := by
  have hl := zRow_lt h
  have l : ∀ m d b n f, d + m = 101 → 1 ≤ d → m < f → n ≤ 14 → zf142_7 r f (nI a) (zob b) (nI n) (nI d) s = some (zob (zbb C a m d b n).1, s) := by
    intro m
    induction m with
    | zero =>
      intro d b n f hd h1 hf hn
      obtain ⟨f, rfl⟩ : ∃ f', f = f' + 1 := ⟨f - 1, by omega⟩
      rw [zf142_7, if_pos ((zn_gtL (k := 99) (by omega) (by decide)).mpr (by omega)), zbb]
    | succ m ih =>
      intro d b n f hd h1 hf hn
      obtain ⟨f, rfl⟩ : ∃ f', f = f' + 1 := ⟨f - 1, by omega⟩
      rw [zf142_7, zbb]
      by_cases g1 : 99 < d
      · rw [if_pos ((zn_gtL (k := 99) (by omega) (by decide)).mpr g1), if_pos (Or.inl g1)]
      · rw [if_neg (fun q => g1 ((zn_gtL (k := 99) (by omega) (by decide)).mp q))]
        by_cases g2 : a < d
        · rw [if_pos ((zn_lt (by omega) (by omega)).mpr g2), if_pos (Or.inr g2)]
        · have hb := zsame_b (b := d) ha
          rw [if_neg (fun q => g2 ((zn_lt (by omega) (by omega)).mp q)), if_neg (fun q => by omega), z143 h (by omega) ha, zbi_e]
          by_cases e : zsame C a d ≤ n
          · rw [if_pos ((zn_le (by omega) (by omega)).mpr e), if_pos e, zn_a1]
            exact ih (d + 1) b n f (by omega) (by omega) (by omega) hn
          · rw [if_neg (fun q => e ((zn_le (by omega) (by omega)).mp q)), if_neg e, zn_a1]
            have := ih (d + 1) d (zsame C a d) f (by omega) (by omega) (by omega) hb.1
            rw [show zob d = nI d from if_neg (by omega)] at this
            exact this
  unfold zf142
  exact l 100 1 0 4 zfz rfl (by decide) (by rw [zfz_e]; decide) (by decide)
theorem zdg3 : ∀ a, a < 301 → ((48 : Int32) + nI a / 100 = nI (48 + a / 100) ∧ (48 : Int32) + (nI a / 10 - nI a / 10 / 10 * 10) = nI (48 + a / 10 % 10) ∧ (48 : Int32) + (nI a - nI a / 10 * 10) = nI (48 + a % 10) ∧ (48 : Int32) + nI a / 10 = nI (48 + a / 10)) := by decide +kernel
/-- a reference -/
def zref (b n : Nat) : List Int32 := [126, nI (48 + b / 10), nI (48 + b % 10), nI (43 + n)]
/-- the packed content -/
def zpa (C : List Int32) (w : Bool) : Nat → Nat → List Int32 → List Int32
  | 0, _, X => X
  | m + 1, a, X => if C.length ≤ a then X else if w = true ∧ (zbest C a).1 ≠ 0 then zpa C w m (a + (zbest C a).2) (X ++ zref (zbest C a).1 (zbest C a).2) else zpa C w m (a + 1) (X ++ [C.getD a (-1)])
theorem zpa_l {C : List Int32} {w : Bool} : ∀ m a X, a ≤ C.length → (zpa C w m a X).length ≤ X.length + (C.length - a) ∧ X.length ≤ (zpa C w m a X).length := by
  intro m
  induction m with
  | zero => intro a X _; exact ⟨Nat.le_add_right _ _, Nat.le_refl _⟩
  | succ m ih =>
    intro a X ha
    rw [zpa]
    split
    · exact ⟨Nat.le_add_right _ _, Nat.le_refl _⟩
    · split
      · next g =>
        obtain ⟨_, h2⟩ := zbest_p ha
        obtain ⟨_, _, h5, h6⟩ := h2 g.2
        have h7 := (zsame_b (b := (zbest C a).1) ha).2
        rw [← h5] at h7
        have := ih (a + (zbest C a).2) (X ++ zref (zbest C a).1 (zbest C a).2) h7
        have e : (zref (zbest C a).1 (zbest C a).2).length = 4 := rfl
        rw [List.length_append, e] at this
        omega
      · have := ih (a + 1) (X ++ [C.getD a (-1)]) (by omega)
        rw [List.length_append, List.length_singleton] at this
        omega
def zpkd (C : List Int32) (w : Bool) : List Int32 := zpa C w (C.length + 1) 0 []
theorem zpkd_l {C : List Int32} {w : Bool} : (zpkd C w).length ≤ C.length := by
  have := (zpa_l (C := C) (w := w) (C.length + 1) 0 [] (Nat.zero_le _)).1
  rw [List.length_nil] at this
  unfold zpkd
  omega
theorem zpa_0 {C : List Int32} : ∀ m a X, C.length < a + m → zpa C false m a X = X ++ C.drop a := by
  intro m
  induction m with
  | zero => intro a X h; rw [zpa, List.drop_eq_nil_of_le (by omega), List.append_nil]
  | succ m ih =>
    intro a X h
    rw [zpa]
    by_cases g : C.length ≤ a
    · rw [if_pos g, List.drop_eq_nil_of_le g, List.append_nil]
    · rw [if_neg g, if_neg (fun q => by cases q.1), ih (a + 1) _ (by omega), zdrop (i := a) (by omega), List.append_assoc]
      rfl
theorem zpkd_0 {C : List Int32} : zpkd C false = C := by
  unfold zpkd
  rw [zpa_0 _ _ _ (by omega), List.drop_zero]
  rfl
/-- the class's pack -/
theorem z141 {r : Nat} {C : List Int32} (hr : r = 172 ∨ r = 174) (hl : C.length ≤ 300) {s : zS} (hC : zRow r s C) (hD : zRo 176 s []) : ∃ s', zf141 169 r s = some s' ∧ zRo 176 s' (zpkd C true) ∧ ∀ q, q ≠ 176 → q ≠ 177 → s' q = s q := by
  have hrr : r ≠ 176 ∧ r ≠ 177 ∧ zrf r 0 ≠ 176 ∧ zrf r 0 ≠ 177 := by rcases hr with rfl | rfl <;> exact ⟨by decide, by decide, by decide, by decide⟩
  have l : ∀ m f a (s : zS) X, a ≤ C.length → C.length < a + m → m < f → zRow r s C → zRo 176 s X → ∃ s', zf141_2 169 r f (nI a) s = some s' ∧ zRo 176 s' (zpa C true m a X) ∧ ∀ q, q ≠ 176 → q ≠ 177 → s' q = s q := by
    intro m
    induction m with
    | zero => intro f a s X h1 h2; omega
    | succ m ih =>
      intro f a s X h1 h2 hf hC hX
      obtain ⟨f, rfl⟩ : ∃ f', f = f' + 1 := ⟨f - 1, by omega⟩
      rw [zf141_2, zgf_e, hC.1, zpa]
      by_cases g : C.length ≤ a
      · rw [if_pos ((zn_le (by omega) (by omega)).mpr g), if_pos g]
        exact ⟨s, rfl, hX, fun _ _ _ => rfl⟩
      · rw [if_neg (fun q => g ((zn_le (by omega) (by omega)).mp q)), if_neg g, z142 hC h1, zbi_e]
        obtain ⟨p1, p2⟩ := zbest_p h1
        obtain ⟨b, hb⟩ : ∃ b, b = (zbest C a).1 := ⟨_, rfl⟩
        obtain ⟨n, hn⟩ : ∃ n, n = (zbest C a).2 := ⟨_, rfl⟩
        rw [← hb] at p2 ⊢
        rw [← hn] at p1 p2 ⊢
        by_cases e : b = 0
        · rw [if_neg (show ¬ ¬ zob b = -1 from fun q => q (if_pos e)), if_neg (fun q => q.2 e), z18 hC (by omega), zbi_e, show zrf 169 3 = 176 from rfl]
          obtain ⟨s1, a1, a2, a3⟩ := zro13 (r := 176) (c := C.getD a (-1)) (by decide) hX
          obtain ⟨s', b1, b2, b3⟩ := ih f (a + 1) s1 _ (by omega) (by omega) (by omega) (zRow_f hC (a3 r hrr.1 hrr.2.1) (a3 (zrf r 0) hrr.2.2.1 hrr.2.2.2)) a2
          exact ⟨s', by rw [a1, zbv_e, zn_a1]; exact b1, b2, fun q u v => by rw [b3 q u v, a3 q u v]⟩
        · obtain ⟨p3, p4, p5, p6⟩ := p2 e
          have eb : zob b = nI b := if_neg e
          have hs7 := (zsame_b (b := b) h1).2
          rw [← p5] at hs7
          obtain ⟨_, _, w3, w4⟩ := zdg3 b (by omega)
          have e43 : ((48 : Int32) + nI n) - 5 = nI (43 + n) := by rw [zn_lit 48, zn_add, zn_lit 5, zn_sub (by omega), show 48 + n - 5 = 43 + n by omega]
          rw [eb, if_pos (show ¬ nI b = -1 from zn_nm (by omega)), if_pos ⟨rfl, e⟩, z143 hC p4 h1, zbi_e, ← p5, show zrf 169 3 = 176 from rfl, w3, w4, e43]
          obtain ⟨s1, a1, a2, a3⟩ := zro13 (r := 176) (c := 126) (by decide) hX
          obtain ⟨s2, b1, b2, b3⟩ := zro13 (r := 176) (c := nI (48 + b / 10)) (by decide) a2
          obtain ⟨s3, c1, c2, c3⟩ := zro13 (r := 176) (c := nI (48 + b % 10)) (by decide) b2
          obtain ⟨s4, d1, d2, d3⟩ := zro13 (r := 176) (c := nI (43 + n)) (by decide) c2
          have f4 : ∀ q, q ≠ 176 → q ≠ 177 → s4 q = s q := fun q u v => by rw [d3 q u v, c3 q u v, b3 q u v, a3 q u v]
          have e4 : X ++ [126] ++ [nI (48 + b / 10)] ++ [nI (48 + b % 10)] ++ [nI (43 + n)] = X ++ zref b n := by
            rw [List.append_assoc, List.append_assoc, List.append_assoc]
            rfl
          rw [e4] at d2
          obtain ⟨s', g1, g2, g3⟩ := ih f (a + n) s4 _ hs7 (by omega) (by omega) (zRow_f hC (f4 r hrr.1 hrr.2.1) (f4 (zrf r 0) hrr.2.2.1 hrr.2.2.2)) d2
          refine ⟨s', ?_, g2, fun q u v => by rw [g3 q u v, f4 q u v]⟩
          have en : nI n - 1 = nI (n - 1) := by rw [show n = (n - 1) + 1 by omega, zn_s1]; rfl
          rw [a1, zbv_e, b1, zbv_e, c1, zbv_e, d1, zbv_e, en, zn_add, zn_a1, show a + (n - 1) + 1 = a + n by omega]
          exact g1
  unfold zf141 zpkd
  exact l (C.length + 1) zfz 0 s [] (Nat.zero_le _) (by omega) (by rw [zfz_e]; omega) hC hD
/-- what the model has packed of part p -/
def zPk (p : Nat) (s : zS) (X : List Int32) : Prop := s 223 p = nI X.length ∧ X.length ≤ 300 ∧ ∀ j, j < X.length → s 222 (300 * p + j) = X.getD j (-1)
/-- what packing part p may change -/
def zFq (p : Nat) (s s' : zS) : Prop := (∀ q, q ≠ 222 → q ≠ 223 → s' q = s q) ∧ (∀ j, j ≠ p → s' 223 j = s 223 j) ∧ ∀ j, j < 300 * p ∨ 300 * p + 300 ≤ j → s' 222 j = s 222 j
theorem zFq_t {p : Nat} {s s1 s2 : zS} (h1 : zFq p s s1) (h2 : zFq p s1 s2) : zFq p s s2 := ⟨fun q a b => (h2.1 q a b).trans (h1.1 q a b), fun j a => (h2.2.1 j a).trans (h1.2.1 j a), fun j a => (h2.2.2 j a).trans (h1.2.2 j a)⟩
theorem zm239 {p : Nat} {c : Int32} {s : zS} {X : List Int32} (hp : p < 2) (h : zPk p s X) (hl : X.length < 300) : ∃ s', zf239 179 (nI p) c s = some s' ∧ zPk p s' (X ++ [c]) ∧ zFq p s s' := by
  unfold zf239
  rw [show zrf 179 54 = 223 from rfl, show zrf 179 53 = 222 from rfl, zal_n (by show p < 2; omega), h.1, zn_300, zas_n (by show _ < 600; omega), zal_n (by show p < 2; omega), zw_o (Or.inl (by decide)), h.1, zn_a1, zas_n (by show p < 2; omega)]
  refine ⟨_, rfl, ⟨?_, ?_, fun j hj => ?_⟩, fun q u v => by rw [zw_ne v, zw_ne u], fun j hj => by rw [zw_o (Or.inr hj), zw_ne (by decide)], fun j hj => by rw [zw_ne (by decide), zw_o (Or.inr (by omega))]⟩
  · rw [zw_s, List.length_append, List.length_singleton]
  · rw [List.length_append, List.length_singleton]; omega
  · rw [List.length_append, List.length_singleton] at hj
    rw [zw_ne (by decide)]
    by_cases e : j = X.length
    · subst e
      rw [zw_s, zgetD_last]
    · rw [zw_o (Or.inr (by omega)), h.2.2 j (by omega), zgetD_app (by omega)]
theorem zMde_f {p : Nat} {s s' : zS} {C : List Int32} (h : zMde p s C) (h1 : s' 220 = s 220) (h2 : s' 221 = s 221) : zMde p s' C := by
  unfold zMde
  rw [h1, h2]
  exact h
/-- the model's pack -/
theorem zm237 {p w : Nat} {C : List Int32} (hp : p < 2) (hw : w < 2) (hl : C.length ≤ 300) {s : zS} (hC : zMde p s C) : ∃ s', zf237 179 (nI p) (nI w) s = some s' ∧ zPk p s' (zpkd C (decide (w = 1))) ∧ zFq p s s' := by
  -- one letter, or one reference
  have stp : ∀ {k9 : Int32 → Int32 → Int32 → zS → Option zS} a b n (s : zS) X, a < C.length → zMde p s C → zPk p s X → n ≤ 14 → (b ≠ 0 → b ≤ 99 ∧ 5 ≤ n) → X.length + 4 ≤ 300 ∨ (b = 0 ∧ X.length < 300) → ∃ s', zf237_94 179 k9 (nI p) (nI w) (nI a) (nI n) (nI b) s = k9 (nI p) (nI w) (nI (if b = 0 then a + 1 else a + n)) s' ∧ zPk p s' (X ++ (if b = 0 then [C.getD a (-1)] else zref b n)) ∧ zFq p s s' := by
    intro k9 a b n s X ha hC hX hn hb hx
    unfold zf237_94
    by_cases e : b = 0
    · obtain ⟨s', a1, a2, a3⟩ := zm239 (c := C.getD a (-1)) hp hX (by omega)
      rw [if_pos (show nI b ≤ 0 by rw [e]; decide), if_pos e, if_pos e, show zrf 179 51 = 220 from rfl, zn_24, zal_n (by show _ < 4800; omega), hC.2.2 a ha, a1, zbv_e, zn_a1]
      exact ⟨s', rfl, a2, a3⟩
    · obtain ⟨h1, h2⟩ := hb e
      have h3 : X.length + 4 ≤ 300 := by
        rcases hx with q | q
        · exact q
        · exact absurd q.1 e
      obtain ⟨_, _, w3, w4⟩ := zdg3 b (by omega)
      have e43 : ((48 : Int32) + nI n) - 5 = nI (43 + n) := by rw [zn_lit 48, zn_add, zn_lit 5, zn_sub (by omega), show 48 + n - 5 = 43 + n by omega]
      obtain ⟨s1, a1, a2, a3⟩ := zm239 (c := 126) hp hX (by omega)
      obtain ⟨s2, b1, b2, b3⟩ := zm239 (c := nI (48 + b / 10)) hp a2 (by rw [List.length_append, List.length_singleton]; omega)
      obtain ⟨s3, c1, c2, c3⟩ := zm239 (c := nI (48 + b % 10)) hp b2 (by rw [List.length_append, List.length_singleton, List.length_append, List.length_singleton]; omega)
      obtain ⟨s4, d1, d2, d3⟩ := zm239 (c := nI (43 + n)) hp c2 (by rw [List.length_append, List.length_singleton, List.length_append, List.length_singleton, List.length_append, List.length_singleton]; omega)
      have e4 : X ++ [126] ++ [nI (48 + b / 10)] ++ [nI (48 + b % 10)] ++ [nI (43 + n)] = X ++ zref b n := by
        rw [List.append_assoc, List.append_assoc, List.append_assoc]
        rfl
      rw [e4] at d2
      rw [if_neg (show ¬ nI b ≤ 0 from fun q => by have := (zn_le (a := b) (b := 0) (by omega) (by decide)).mp q; omega), if_neg e, if_neg e, w3, w4, e43, a1, zbv_e, b1, zbv_e, c1, zbv_e, d1, zbv_e, zn_add]
      exact ⟨s4, rfl, d2, zFq_t (zFq_t (zFq_t a3 b3) c3) d3⟩
  -- the best one
  have bst : ∀ {k9 : Int32 → Int32 → Int32 → zS → Option zS} a (s : zS), a ≤ C.length → zMde p s C → w = 1 → ∀ m d b n f, d + m = 101 → 1 ≤ d → m < f → n ≤ 14 → b ≤ 99 → zf237_28 179 k9 f (nI p) (nI w) (nI a) (nI n) (nI b) (nI d) s = zf237_94 179 k9 (nI p) (nI w) (nI a) (nI (zbb C a m d b n).2) (nI (zbb C a m d b n).1) s := by
    intro k9 a s ha hC hw1 m
    induction m with
    | zero =>
      intro d b n f hd h1 hf hn hb
      obtain ⟨f, rfl⟩ : ∃ f', f = f' + 1 := ⟨f - 1, by omega⟩
      rw [zf237_28, if_pos ((zn_geL (k := 100) (by omega) (by decide)).mpr (by omega)), zbb]
    | succ m ih =>
      intro d b n f hd h1 hf hn hb
      obtain ⟨f, rfl⟩ : ∃ f', f = f' + 1 := ⟨f - 1, by omega⟩
      rw [zf237_28, zbb]
      by_cases g1 : 99 < d
      · rw [if_pos ((zn_geL (k := 100) (by omega) (by decide)).mpr (by omega)), if_pos (Or.inl g1)]
      · rw [if_neg (fun q => by have := (zn_geL (k := 100) (by omega) (by decide)).mp q; omega)]
        by_cases g2 : a < d
        · rw [if_pos ((zn_lt (by omega) (by omega)).mpr g2), if_pos (Or.inr g2)]
        · have hs := zsame_b (b := d) ha
          rw [if_neg (fun q => g2 ((zn_lt (by omega) (by omega)).mp q)), if_neg (show ¬ ¬ nI w = 1 from fun q => q (by rw [hw1]; rfl)), if_neg (fun q => by omega), zm238 hp hC (by omega) ha, zbi_e]
          by_cases e : zsame C a d ≤ n
          · rw [if_pos ((zn_le (by omega) (by omega)).mpr e), if_pos e]
            unfold zf237_70
            rw [if_pos ((zn_le (by omega) (by omega)).mpr e), zn_a1]
            exact ih (d + 1) b n f (by omega) (by omega) (by omega) hn hb
          · rw [if_neg (fun q => e ((zn_le (by omega) (by omega)).mp q)), if_neg e]
            unfold zf237_70
            rw [if_neg (fun q => e ((zn_le (by omega) (by omega)).mp q)), zn_a1]
            exact ih (d + 1) d (zsame C a d) f (by omega) (by omega) (by omega) hs.1 (by omega)
  have l : ∀ m f a (s : zS) X, a ≤ C.length → C.length < a + m → m < f → X.length ≤ a → zMde p s C → zPk p s X → ∃ s', zf237_9 179 f (nI p) (nI w) (nI a) s = some s' ∧ zPk p s' (zpa C (decide (w = 1)) m a X) ∧ zFq p s s' := by
    intro m
    induction m with
    | zero => intro f a s X h1 h2; omega
    | succ m ih =>
      intro f a s X h1 h2 hf hxa hC hX
      obtain ⟨f, rfl⟩ : ∃ f', f = f' + 1 := ⟨f - 1, by omega⟩
      rw [zf237_9, show zrf 179 52 = 221 from rfl, zal_n (by show p < 2; omega), hC.1, zpa]
      by_cases g : C.length ≤ a
      · rw [if_pos ((zn_le (by omega) (by omega)).mpr g), if_pos g]
        exact ⟨s, rfl, hX, fun _ _ _ => rfl, fun _ _ => rfl, fun _ _ => rfl⟩
      · rw [if_neg (fun q => g ((zn_le (by omega) (by omega)).mp q)), if_neg g]
        obtain ⟨p1, p2⟩ := zbest_p h1
        by_cases hw1 : w = 1
        · have e28 := bst (k9 := zf237_9 179 f) a s h1 hC hw1 100 1 0 4 zfz rfl (by decide) (by rw [zfz_e]; decide) (by decide) (by decide)
          have e28' : zf237_28 179 (zf237_9 179 f) zfz (nI p) (nI w) (nI a) 4 0 1 s = zf237_94 179 (zf237_9 179 f) (nI p) (nI w) (nI a) (nI (zbest C a).2) (nI (zbest C a).1) s := e28
          rw [e28']
          obtain ⟨b, hb⟩ : ∃ b, b = (zbest C a).1 := ⟨_, rfl⟩
          obtain ⟨n, hn⟩ : ∃ n, n = (zbest C a).2 := ⟨_, rfl⟩
          rw [← hb] at p2 ⊢
          rw [← hn] at p1 p2 ⊢
          have hx4 : X.length + 4 ≤ 300 ∨ (b = 0 ∧ X.length < 300) := by
            by_cases q : b = 0
            · exact Or.inr ⟨q, by omega⟩
            · obtain ⟨_, _, q5, q6⟩ := p2 q
              have := (zsame_b (b := b) h1).2
              omega
          obtain ⟨s1, a1, a2, a3⟩ := stp (k9 := zf237_9 179 f) a b n s X (by omega) hC hX p1 (fun q => ⟨(p2 q).1, (p2 q).2.2.2⟩) hx4
          rw [a1]
          have C1 := zMde_f hC (a3.1 220 (by decide) (by decide)) (a3.1 221 (by decide) (by decide))
          by_cases e : b = 0
          · rw [if_pos e] at a2 ⊢
            rw [if_neg (fun q => q.2 e)]
            obtain ⟨s', b1, b2, b3⟩ := ih f (a + 1) s1 _ (by omega) (by omega) (by omega) (by rw [List.length_append, List.length_singleton]; omega) C1 a2
            rw [if_pos e] at *
            exact ⟨s', b1, b2, zFq_t a3 b3⟩
          · obtain ⟨_, _, q5, q6⟩ := p2 e
            have h7 := (zsame_b (b := b) h1).2
            rw [← q5] at h7
            rw [if_neg e] at a2 ⊢
            rw [if_pos ⟨decide_eq_true hw1, e⟩]
            have e4 : (zref b n).length = 4 := rfl
            obtain ⟨s', b1, b2, b3⟩ := ih f (a + n) s1 _ h7 (by omega) (by omega) (by rw [List.length_append, e4]; omega) C1 a2
            exact ⟨s', b1, b2, zFq_t a3 b3⟩
        · have e28 : zf237_28 179 (zf237_9 179 f) zfz (nI p) (nI w) (nI a) 4 0 1 s = zf237_94 179 (zf237_9 179 f) (nI p) (nI w) (nI a) (nI 4) (nI 0) s := by
            obtain ⟨M, hM⟩ : ∃ M, zfz = M + 1 := ⟨9999, zfz_e⟩
            rw [hM, zf237_28, if_neg (show ¬ (100 : Int32) ≤ 1 by decide)]
            split
            · rfl
            · rw [if_pos (show ¬ nI w = 1 from fun q => hw1 ((zn_eq (a := w) (b := 1) (by omega) (by decide)).mp q))]
              rfl
          rw [e28]
          obtain ⟨s1, a1, a2, a3⟩ := stp (k9 := zf237_9 179 f) a 0 4 s X (by omega) hC hX (by decide) (fun q => absurd rfl q) (Or.inr ⟨rfl, by omega⟩)
          rw [if_pos rfl] at a1 a2
          have C1 := zMde_f hC (a3.1 220 (by decide) (by decide)) (a3.1 221 (by decide) (by decide))
          obtain ⟨s', b1, b2, b3⟩ := ih f (a + 1) s1 _ (by omega) (by omega) (by omega) (by rw [List.length_append, List.length_singleton]; omega) C1 a2
          rw [a1, if_neg (fun q => by rw [decide_eq_false hw1] at q; cases q.1)]
          exact ⟨s', b1, b2, zFq_t a3 b3⟩
  obtain ⟨s1, hs1⟩ : ∃ s1, s1 = zw s 223 p 0 := ⟨_, rfl⟩
  have f1 : zFq p s s1 := ⟨fun q u v => by rw [hs1, zw_ne v], fun j hj => by rw [hs1, zw_o (Or.inr hj)], fun j _ => by rw [hs1, zw_ne (by decide)]⟩
  obtain ⟨s', b1, b2, b3⟩ := l (C.length + 1) zfz 0 s1 [] (Nat.zero_le _) (by omega) (by rw [zfz_e]; omega) (Nat.zero_le _) (zMde_f hC (f1.1 220 (by decide) (by decide)) (f1.1 221 (by decide) (by decide))) ⟨by rw [hs1, zw_s]; rfl, by decide, fun j hj => absurd hj (Nat.not_lt_zero _)⟩
  refine ⟨s', ?_, b2, zFq_t f1 b3⟩
  unfold zf237
  rw [show zrf 179 54 = 223 from rfl, zas_n (by show p < 2; omega), ← hs1]
  exact b1
/-! the parts -/
def zhd4 (v : Nat) : List Int32 := [nI (if v / 4096 % 16 < 10 then 48 + v / 4096 % 16 else 87 + v / 4096 % 16), nI (if v / 256 % 16 < 10 then 48 + v / 256 % 16 else 87 + v / 256 % 16), nI (if v / 16 % 16 < 10 then 48 + v / 16 % 16 else 87 + v / 16 % 16), nI (if v % 16 < 10 then 48 + v % 16 else 87 + v % 16)]
/-- a part as it is written -/
def zprt (name : Int32) (w : Nat) (C : List Int32) : List Int32 := [name, nI (48 + w), nI (48 + (zpkd C (decide (w = 1))).length / 100), nI (48 + (zpkd C (decide (w = 1))).length / 10 % 10), nI (48 + (zpkd C (decide (w = 1))).length % 10)] ++ zpkd C (decide (w = 1)) ++ zhd4 (zcr 65535 C)
theorem zprt_l {name : Int32} {w : Nat} {C : List Int32} : (zprt name w C).length = 9 + (zpkd C (decide (w = 1))).length := by
  unfold zprt
  rw [List.length_append, List.length_append]
  show 5 + _ + 4 = _
  omega
theorem zshr0 (a : Nat) (ha : a < 65536) : ((nI a >>> ((12 : Int32) &&& 31)) &&& 15 = nI (a / 4096 % 16)) ∧ ((nI a >>> ((8 : Int32) &&& 31)) &&& 15 = nI (a / 256 % 16)) ∧ ((nI a >>> ((4 : Int32) &&& 31)) &&& 15 = nI (a / 16 % 16)) ∧ ((nI a >>> ((0 : Int32) &&& 31)) &&& 15 = nI (a % 16)) := by
  refine ⟨zn_shr a 12 ha (by decide), zn_shr a 8 ha (by decide), zn_shr a 4 ha (by decide), ?_⟩
  have := zn_shr a 0 ha (by decide)
  rw [Nat.pow_zero, Nat.div_one] at this
  exact this
/-- the class's part -/
theorem z140 {r w : Nat} {name : Int32} {C : List Int32} (hr : r = 172 ∨ r = 174) (hw : w < 2) (hl : C.length ≤ 300) (hL : zLt C) {s : zS} {W : List Int32} (hC : zRow r s C) (hW : zRo 170 s W) : ∃ s', zf140 169 name r (nI w) s = some s' ∧ zRo 170 s' (W ++ zprt name w C) ∧ ∀ q, q ≠ 170 → q ≠ 171 → q ≠ 176 → q ≠ 177 → s' q = s q := by
  have hrr : r ≠ 176 ∧ r ≠ 177 ∧ zrf r 0 ≠ 176 ∧ zrf r 0 ≠ 177 ∧ r ≠ 170 ∧ r ≠ 171 ∧ zrf r 0 ≠ 170 ∧ zrf r 0 ≠ 171 := by rcases hr with rfl | rfl <;> exact ⟨by decide, by decide, by decide, by decide, by decide, by decide, by decide, by decide⟩
  obtain ⟨s1, a1, a2, a3⟩ := zro15 (r := 176) (s := s) (by decide)
  have C1 : zRow r s1 C := zRow_f hC (a3 r hrr.1) (a3 (zrf r 0) hrr.2.2.1)
  obtain ⟨P, hP⟩ : ∃ P, P = zpkd C (decide (w = 1)) := ⟨_, rfl⟩
  have hPl : P.length ≤ 300 := by rw [hP]; have := zpkd_l (C := C) (w := decide (w = 1)); omega
  -- the data
  obtain ⟨s2, b0, b2, b3⟩ : ∃ s2, zf140 169 name r (nI w) s = zf140_28 169 r name (nI w) s2 ∧ zRo 176 s2 P ∧ ∀ q, q ≠ 176 → q ≠ 177 → s2 q = s1 q := by
    unfold zf140
    rw [show zrf 169 3 = 176 from rfl, a1, zbv_e]
    by_cases g : w = 1
    · obtain ⟨s2, b1, b2, b3⟩ := z141 hr hl C1 a2
      refine ⟨s2, ?_, by rw [hP, decide_eq_true g]; exact b2, b3⟩
      rw [if_neg (show ¬ ¬ nI w = 1 from fun q => q (by rw [g]; rfl)), b1, zbv_e]
    · obtain ⟨s2, b1, b2, b3⟩ := zro144 (r := 176) (r2 := r) (by decide) ⟨hrr.1, hrr.2.1, hrr.2.2.1, hrr.2.2.2.1⟩ C1 a2
      refine ⟨s2, ?_, by rw [hP, decide_eq_false g, zpkd_0]; exact b2, b3⟩
      rw [if_pos (show ¬ nI w = 1 from fun q => g ((zn_eq (a := w) (b := 1) (by omega) (by decide)).mp q)), b1, zbv_e]
  rw [b0]
  have f2 : ∀ q, q ≠ 176 → q ≠ 177 → s2 q = s q := fun q u v => by rw [b3 q u v, a3 q u]
  have D2 := (zRo_row b2 hPl).1
  have W2 : zRo 170 s2 W := zRo_f hW (f2 170 (by decide) (by decide)) (f2 171 (by decide) (by decide))
  obtain ⟨d1, d2, d3, _⟩ := zdg3 P.length (by omega)
  obtain ⟨s3, c1, c2, c3⟩ := zro13 (r := 170) (c := name) (by decide) W2
  obtain ⟨s4, e1, e2, e3⟩ := zro13 (r := 170) (c := nI (48 + w)) (by decide) c2
  obtain ⟨s5, g1, g2, g3⟩ := zro13 (r := 170) (c := nI (48 + P.length / 100)) (by decide) e2
  obtain ⟨s6, h1, h2, h3⟩ := zro13 (r := 170) (c := nI (48 + P.length / 10 % 10)) (by decide) g2
  obtain ⟨s7, i1, i2, i3⟩ := zro13 (r := 170) (c := nI (48 + P.length % 10)) (by decide) h2
  have f4 : ∀ q, q ≠ 170 → q ≠ 171 → s4 q = s2 q := fun q u v => by rw [e3 q u v, c3 q u v]
  have f5 : ∀ q, q ≠ 170 → q ≠ 171 → s5 q = s2 q := fun q u v => by rw [g3 q u v, f4 q u v]
  have f6 : ∀ q, q ≠ 170 → q ≠ 171 → s6 q = s2 q := fun q u v => by rw [h3 q u v, f5 q u v]
  have f7 : ∀ q, q ≠ 170 → q ≠ 171 → s7 q = s2 q := fun q u v => by rw [i3 q u v, f6 q u v]
  have D7 : zRow 176 s7 P := zRow_f D2 (f7 176 (by decide) (by decide)) (f7 177 (by decide) (by decide))
  obtain ⟨s8, j1, j2, j3⟩ := zro144 (r := 170) (r2 := 176) (by decide) ⟨by decide, by decide, by decide, by decide⟩ D7 i2
  have f8 : ∀ q, q ≠ 170 → q ≠ 171 → s8 q = s2 q := fun q u v => by rw [j3 q u v, f7 q u v]
  have C8 : zRow r s8 C := zRow_f hC (by rw [f8 r hrr.2.2.2.2.1 hrr.2.2.2.2.2.1, f2 r hrr.1 hrr.2.1]) (by rw [f8 _ hrr.2.2.2.2.2.2.1 hrr.2.2.2.2.2.2.2, f2 _ hrr.2.2.1 hrr.2.2.2.1])
  have hv := zcr_lt C 65535 (by decide) hL
  obtain ⟨v, hvv⟩ : ∃ v, v = zcr 65535 C := ⟨_, rfl⟩
  have e38 := z38 C8 hL
  rw [← hvv] at hv e38
  obtain ⟨k1, k2, k3, k4⟩ := zshr0 v hv
  obtain ⟨s9, l1, l2, l3⟩ := zro13 (r := 170) (c := nI (if v / 4096 % 16 < 10 then 48 + v / 4096 % 16 else 87 + v / 4096 % 16)) (by decide) j2
  obtain ⟨s10, m1, m2, m3⟩ := zro13 (r := 170) (c := nI (if v / 256 % 16 < 10 then 48 + v / 256 % 16 else 87 + v / 256 % 16)) (by decide) l2
  obtain ⟨s11, n1, n2, n3⟩ := zro13 (r := 170) (c := nI (if v / 16 % 16 < 10 then 48 + v / 16 % 16 else 87 + v / 16 % 16)) (by decide) m2
  obtain ⟨s12, o1, o2, o3⟩ := zro13 (r := 170) (c := nI (if v % 16 < 10 then 48 + v % 16 else 87 + v % 16)) (by decide) n2
  refine ⟨s12, ?_, ?_, fun q u1 u2 u3 u4 => by rw [o3 q u1 u2, n3 q u1 u2, m3 q u1 u2, l3 q u1 u2, f8 q u1 u2, f2 q u3 u4]⟩
  · unfold zf140_28
    rw [show zrf 169 0 = 170 from rfl, show zrf 169 3 = 176 from rfl, c1, zbv_e, show (48 : Int32) + nI w = nI (48 + w) by rw [zn_lit 48, zn_add], e1, zbv_e, zgf_e, f4 176 (by decide) (by decide), D2.1, d1, g1, zbv_e, zgf_e, f5 176 (by decide) (by decide), D2.1, d2, h1, zbv_e, zgf_e, f6 176 (by decide) (by decide), D2.1, d3, i1, zbv_e, j1, zbv_e, e38, zbi_e]
    obtain ⟨M, hM⟩ : ∃ M, zfz = M + 5 := ⟨9995, zfz_e⟩
    rw [hM, show M + 5 = (M + 4) + 1 by omega, zf140_131, if_neg (show ¬ (12 : Int32) < 0 by decide), k1, z39 (by omega), zbi_e, show zrf 169 0 = 170 from rfl, l1, zbv_e, show (12 : Int32) + (-4) = 8 by decide]
    rw [show M + 4 = (M + 3) + 1 by omega, zf140_131, if_neg (show ¬ (8 : Int32) < 0 by decide), k2, z39 (by omega), zbi_e, show zrf 169 0 = 170 from rfl, m1, zbv_e, show (8 : Int32) + (-4) = 4 by decide]
    rw [show M + 3 = (M + 2) + 1 by omega, zf140_131, if_neg (show ¬ (4 : Int32) < 0 by decide), k3, z39 (by omega), zbi_e, show zrf 169 0 = 170 from rfl, n1, zbv_e, show (4 : Int32) + (-4) = 0 by decide]
    rw [show M + 2 = (M + 1) + 1 by omega, zf140_131, if_neg (show ¬ (0 : Int32) < 0 by decide), k4, z39 (by omega), zbi_e, show zrf 169 0 = 170 from rfl, o1, zbv_e, show (0 : Int32) + (-4) = -4 by decide]
    rw [zf140_131, if_pos (show (-4 : Int32) < 0 by decide)]
  · have e : W ++ zprt name w C = W ++ [name] ++ [nI (48 + w)] ++ [nI (48 + P.length / 100)] ++ [nI (48 + P.length / 10 % 10)] ++ [nI (48 + P.length % 10)] ++ P ++ [nI (if v / 4096 % 16 < 10 then 48 + v / 4096 % 16 else 87 + v / 4096 % 16)] ++ [nI (if v / 256 % 16 < 10 then 48 + v / 256 % 16 else 87 + v / 256 % 16)] ++ [nI (if v / 16 % 16 < 10 then 48 + v / 16 % 16 else 87 + v / 16 % 16)] ++ [nI (if v % 16 < 10 then 48 + v % 16 else 87 + v % 16)] := by
      unfold zprt zhd4
      rw [← hP, ← hvv]
      simp only [List.append_assoc, List.cons_append, List.nil_append]
    rw [e]
    exact o2
