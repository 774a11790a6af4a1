/-! emit: the looks that are needed, both sides. -/
set_option maxRecDepth 100000
set_option linter.unusedVariables false
def zlkn (D : List zN) (n : Nat) : Nat := (zno D n).2.2.1.getD 0
/-- does a node need its look said -/
def zned (D : List zN) (n : Nat) : Bool := if (zno D n).1 = 1 then decide ((zno D n).2.2.1 ≠ some 100) else if (zno D n).1 = 2 then (match zab D n with
  | some a => decide ((zno D n).2.2.1 ≠ (zno D a).2.2.1)
  | none => false) else false
theorem zned_l {D : List zN} {n : Nat} (hW : zWf D) (hn : n < D.length) (h : zned D n = true) : (zno D n).2.2.1 = some (zlkn D n) ∧ zlkn D n < 2000 := by
  have hk : (zno D n).1 = 1 ∨ (zno D n).1 = 2 := by
    unfold zned at h
    by_cases a : (zno D n).1 = 1
    · exact Or.inl a
    · rw [if_neg a] at h
      by_cases b : (zno D n).1 = 2
      · exact Or.inr b
      · rw [if_neg b] at h
        cases h
  have h1 := (hW n hn).2.2.2.2.1 hk
  have h2 := zlk_b (hW n hn).2.2.1
  unfold zlkn
  cases ho : (zno D n).2.2.1 with
  | none => exact absurd ho h1
  | some l => exact ⟨rfl, h2 l ho⟩
theorem z118 {q n : Nat} {s : zS} {D : List zN} (hQ : zQq q) (h : zPc q s D) (hW : zWf D) (hn : n < D.length) : zf118 q (nI n) s = some (if zned D n = true then 1 else 0, s) := by
  obtain ⟨u0, u1, u2, u3, u4, u5, u6, u7, u8, u9, u10, u11, u12⟩ := zQq_e hQ
  have hc := h.2.1
  obtain ⟨v1, v2, v3, v4, v5⟩ := h.2.2.2 n hn
  obtain ⟨w1, w2, w3, w4⟩ := hW n hn
  have lb := zlk_b w3
  unfold zf118
  rw [u1, u0, zal_n (by rw [u7]; omega), zal_n (by omega), v1, v2]
  by_cases k2 : (zno D n).1 = 2
  · rw [if_neg (show ¬ ¬ nI (zno D n).1 = 2 from fun x => x (by rw [k2]; rfl))]
    rcases w2 with ⟨_, _, k0⟩ | ⟨a, a1, a2, _⟩
    · omega
    · have a2' : (zno D n).2.1 = some a := a2
      have lba := zlk_b (hW a (by omega)).2.2.1
      rw [a2', show zoi (some a) = nI a from rfl, if_neg (show ¬ nI a = -1 from zn_nm (by omega)), u2, zal_n (by rw [u8]; omega), zal_n (by rw [u8]; omega), v3, (h.2.2.2 a (by omega)).2.2.1]
      have e := zoi_eq lb lba
      have ez : zned D n = decide ((zno D n).2.2.1 ≠ (zno D a).2.2.1) := by
        unfold zned
        rw [if_neg (by omega), if_pos k2, a2]
      rw [ez]
      by_cases g : (zno D n).2.2.1 = (zno D a).2.2.1
      · rw [if_pos (e.mpr g), zrb0, if_neg (by simp [g])]
      · rw [if_neg (fun x => g (e.mp x)), zrb1, if_pos (by simp [g])]
  · rw [if_pos (show ¬ nI (zno D n).1 = 2 from fun x => k2 ((zn_eq (a := (zno D n).1) (b := 2) (by omega) (by decide)).mp x))]
    unfold zf118_43
    rw [u0, zal_n (by omega), v1]
    by_cases k1 : (zno D n).1 = 1
    · rw [if_neg (show ¬ ¬ nI (zno D n).1 = 1 from fun x => x (by rw [k1]; rfl)), u2, zal_n (by rw [u8]; omega), v3]
      have e := zoi_eq (b := some 100) lb (fun l q => by cases q; decide)
      have ez : zned D n = decide ((zno D n).2.2.1 ≠ some 100) := by
        unfold zned
        rw [if_pos k1]
      rw [ez]
      by_cases g : (zno D n).2.2.1 = some 100
      · rw [if_pos (show zoi (zno D n).2.2.1 = 100 from e.mpr g), zrb0, if_neg (by simp [g])]
      · rw [if_neg (show ¬ zoi (zno D n).2.2.1 = 100 from fun x => g (e.mp x)), zrb1, if_pos (by simp [g])]
    · rw [if_pos (show ¬ nI (zno D n).1 = 1 from fun x => k1 ((zn_eq (a := (zno D n).1) (b := 1) (by omega) (by decide)).mp x)), zrb0]
      have ez : zned D n = false := by
        unfold zned
        rw [if_neg k1, if_neg k2]
      rw [ez, if_neg (by decide)]
theorem zn_3 (i n : Nat) : (3 : Int32) * ((100 * nI i) + nI n) = nI (3 * (100 * i + n)) := by rw [zn_100, zn_lit 3, zn_mul]
theorem zm229 {i n : Nat} {s : zS} {D : List zN} (hi : i < 3) (h : zPm i s D) (hW : zWf D) (hn : n < D.length) : zf229 179 (nI i) (nI n) s = some (if zned D n = true then 1 else 0, s) := by
  have hc := h.2.1
  obtain ⟨v1, v2, v3, v4, v5⟩ := h.2.2.2.2.2 n hn
  obtain ⟨w1, w2, w3, w4⟩ := hW n hn
  have lb := zlk_b w3
  have x0 := v3 0 (by decide)
  have x1 := v3 1 (by decide)
  have x2 := v3 2 (by decide)
  rw [Nat.add_zero] at x0
  unfold zf229
  rw [show zrf 179 23 = 196 from rfl, show zrf 179 24 = 197 from rfl, show zrf 179 25 = 198 from rfl, zn_3, zn_100, zal_n (by show 100 * i + n < 400; omega), v1]
  by_cases k1 : (zno D n).1 = 1
  · rw [if_neg (show ¬ ¬ nI (zno D n).1 = 1 from fun x => x (by rw [k1]; rfl)), zal_n (by show _ < 1200; omega), x0]
    have ez : zned D n = decide ((zno D n).2.2.1 ≠ some 100) := by
      unfold zned
      rw [if_pos k1]
    have hne := w4.2.1 (Or.inl k1)
    rw [ez]
    cases ho : (zno D n).2.2.1 with
    | none => exact absurd ho hne
    | some l =>
      have hl := lb l ho
      rw [ho] at x1 x2
      have e0 : zl3 (some l) 0 = nI (l / 1000) := rfl
      have e1 : zl3 (some l) 1 = nI (l / 10 % 100) := rfl
      have e2 : zl3 (some l) 2 = nI (l % 10) := rfl
      rw [e0]
      rw [e1] at x1
      rw [e2] at x2
      by_cases g0 : l / 1000 = 0
      · rw [if_neg (show ¬ ¬ nI (l / 1000) = 0 from fun x => x (by rw [g0]; rfl)), zn_a1, zal_n (by show _ < 1200; omega), x1]
        by_cases g1 : l / 10 % 100 = 10
        · rw [if_neg (show ¬ ¬ nI (l / 10 % 100) = 10 from fun x => x (by rw [g1]; rfl)), show (nI (3 * (100 * i + n)) : Int32) + 2 = nI (3 * (100 * i + n) + 2) by rw [zn_lit 2, zn_add], zal_n (by show _ < 1200; omega), x2]
          by_cases g2 : l % 10 = 0
          · have : l = 100 := by omega
            rw [if_pos (show nI (l % 10) = 0 by rw [g2]; rfl), zrb0, if_neg (by simp [this])]
          · have : l ≠ 100 := by omega
            rw [if_neg (show ¬ nI (l % 10) = 0 from fun x => g2 ((zn_eq (a := l % 10) (b := 0) (by omega) (by decide)).mp x)), zrb1, if_pos (by simp [this])]
        · have : l ≠ 100 := by omega
          rw [if_pos (show ¬ nI (l / 10 % 100) = 10 from fun x => g1 ((zn_eq (a := l / 10 % 100) (b := 10) (by omega) (by decide)).mp x)), zrb1, if_pos (by simp [this])]
      · have : l ≠ 100 := by omega
        rw [if_pos (show ¬ nI (l / 1000) = 0 from fun x => g0 ((zn_eq (a := l / 1000) (b := 0) (by omega) (by decide)).mp x)), zrb1, if_pos (by simp [this])]
  · rw [if_pos (show ¬ nI (zno D n).1 = 1 from fun x => k1 ((zn_eq (a := (zno D n).1) (b := 1) (by omega) (by decide)).mp x)), zal_n (by show 100 * i + n < 400; omega), v1]
    by_cases k2 : (zno D n).1 = 2
    · rw [if_pos (show nI (zno D n).1 = 2 by rw [k2]; rfl)]
      rcases w2 with ⟨_, _, k0⟩ | ⟨a, a1, a2, _⟩
      · omega
      · have a2' : (zno D n).2.1 = some a := a2
        have lba := zlk_b (hW a (by omega)).2.2.1
        have y := (h.2.2.2.2.2 a (by omega)).2.2.1
        have y0 := y 0 (by decide)
        have y1 := y 1 (by decide)
        have y2 := y 2 (by decide)
        rw [Nat.add_zero] at y0
        rw [zal_n (by show 100 * i + n < 400; omega), v2, a2', show zoi (some a) = nI a from rfl, zn_3, zal_n (by show _ < 1200; omega), zal_n (by show _ < 1200; omega), x0, y0]
        have ez : zned D n = decide ((zno D n).2.2.1 ≠ (zno D a).2.2.1) := by
          unfold zned
          rw [if_neg k1, if_pos k2, a2]
        have p2 : ∀ m : Nat, (nI m : Int32) + 2 = nI (m + 2) := fun m => by rw [zn_lit 2, zn_add]
        rw [ez]
        by_cases g0 : zl3 (zno D n).2.2.1 0 = zl3 (zno D a).2.2.1 0
        · rw [if_neg (fun x => x g0), zn_a1, zn_a1, zal_n (by show _ < 1200; omega), zal_n (by show _ < 1200; omega), x1, y1]
          by_cases g1 : zl3 (zno D n).2.2.1 1 = zl3 (zno D a).2.2.1 1
          · rw [if_neg (fun x => x g1), p2, p2, zal_n (by show _ < 1200; omega), zal_n (by show _ < 1200; omega), x2, y2]
            by_cases g2 : zl3 (zno D n).2.2.1 2 = zl3 (zno D a).2.2.1 2
            · have := zl3_inj lb lba (fun w hw => by
                have h3 : w = 0 ∨ w = 1 ∨ w = 2 := by omega
                rcases h3 with rfl | rfl | rfl
                · exact g0
                · exact g1
                · exact g2)
              rw [if_pos g2, zrb0, if_neg (by simp [this])]
            · rw [if_neg g2, zrb1, if_pos (by simp; exact fun q => g2 (by rw [q]))]
          · rw [if_pos g1, zrb1, if_pos (by simp; exact fun q => g1 (by rw [q]))]
        · rw [if_pos g0, zrb1, if_pos (by simp; exact fun q => g0 (by rw [q]))]
    · have ez : zned D n = false := by
        unfold zned
        rw [if_neg k1, if_neg k2]
      rw [if_neg (show ¬ nI (zno D n).1 = 2 from fun x => k2 ((zn_eq (a := (zno D n).1) (b := 2) (by omega) (by decide)).mp x)), zrb0, ez, if_neg (by decide)]
/-- the looks that are needed by the first nodes -/
def znl (D : List zN) : Nat → List Nat
  | 0 => []
  | m + 1 => if zned D m = true ∧ zlkn D m ∉ znl D m then znl D m ++ [zlkn D m] else znl D m
theorem znl_b {D : List zN} (hW : zWf D) : ∀ m, m ≤ D.length → (∀ x ∈ znl D m, x < 2000) ∧ (znl D m).length ≤ m ∧ ∀ n, n < m → zned D n = true → zlkn D n ∈ znl D m := by
  intro m
  induction m with
  | zero => intro _; exact ⟨fun x hx => absurd hx List.not_mem_nil, Nat.le_refl _, fun n hn => absurd hn (Nat.not_lt_zero _)⟩
  | succ m ih =>
    intro hm
    obtain ⟨h1, h2, h3⟩ := ih (by omega)
    rw [znl]
    by_cases g : zned D m = true ∧ zlkn D m ∉ znl D m
    · rw [if_pos g]
      refine ⟨fun x hx => ?_, by rw [List.length_append, List.length_singleton]; omega, fun n hn hz => ?_⟩
      · rcases List.mem_append.mp hx with q | q
        · exact h1 x q
        · rw [List.mem_singleton.mp q]; exact (zned_l hW (by omega) g.1).2
      · by_cases e : n = m
        · rw [e]; exact List.mem_append_right _ List.mem_cons_self
        · exact List.mem_append_left _ (h3 n (by omega) hz)
    · rw [if_neg g]
      refine ⟨h1, by omega, fun n hn hz => ?_⟩
      by_cases e : n = m
      · subst e
        exact Classical.byContradiction fun q => g ⟨hz, q⟩
      · exact h3 n (by omega) hz
theorem znl_m {D : List zN} : ∀ k m, (znl D m).length ≤ (znl D (m + k)).length := by
  intro k
  induction k with
  | zero => intro m; exact Nat.le_refl _
  | succ k ih =>
    intro m
    refine Nat.le_trans (ih m) ?_
    show (znl D (m + k)).length ≤ (znl D (m + k + 1)).length
    rw [znl]
    split
    · rw [List.length_append]; omega
    · exact Nat.le_refl _
/-- the place of a look -/
def zfi (l : Nat) : List Nat → Nat → Option Nat
  | [], _ => none
  | x :: X, k => if x = l then some k else zfi l X (k + 1)
theorem zfi_n {l : Nat} : ∀ X k, zfi l X k = none ↔ l ∉ X := by
  intro X
  induction X with
  | nil => intro k; exact ⟨fun _ => List.not_mem_nil, fun _ => rfl⟩
  | cons x X ih =>
    intro k
    rw [zfi]
    by_cases g : x = l
    · rw [if_pos g]
      exact ⟨fun q => (by cases q), fun q => absurd (show l ∈ x :: X by rw [g]; exact List.mem_cons_self) q⟩
    · rw [if_neg g, ih]
      constructor
      · intro q w
        rcases List.mem_cons.mp w with w | w
        · exact g w.symm
        · exact q w
      · intro q w
        exact q (List.mem_cons_of_mem _ w)
theorem zfi_l {l : Nat} : ∀ X k j, zfi l X k = some j → k ≤ j ∧ j < k + X.length := by
  intro X
  induction X with
  | nil => intro k j h; cases h
  | cons x X ih =>
    intro k j h
    rw [zfi] at h
    rw [List.length_cons]
    split at h
    · cases h; omega
    · have := ih (k + 1) j h
      omega
/-- the class's list of looks -/
def zNc (s : zS) (X : List Nat) : Prop := s 169 5 = nI X.length ∧ X.length ≤ 26 ∧ (∀ k, k < X.length → s 178 k = nI (X.getD k 0)) ∧ ∀ x ∈ X, x < 2000
theorem z119 {s : zS} {X : List Nat} {l : Nat} (h : zNc s X) (hl : l < 2000) : zf119 169 (nI l) s = some (zoi (zfi l X 0), s) := by
  obtain ⟨h1, h2, h3, h4⟩ := h
  have lp : ∀ m f k, k + m = X.length → m < f → zf119_2 169 f (nI l) (nI k) s = some (zoi (zfi l (X.drop k) k), s) := by
    intro m
    induction m with
    | zero =>
      intro f k hk hf
      obtain ⟨f, rfl⟩ : ∃ f', f = f' + 1 := ⟨f - 1, by omega⟩
      rw [zf119_2, zgf_e, h1, if_pos ((zn_le (by omega) (by omega)).mpr (by omega)), List.drop_eq_nil_of_le (by omega)]
      rfl
    | succ m ih =>
      intro f k hk hf
      obtain ⟨f, rfl⟩ : ∃ f', f = f' + 1 := ⟨f - 1, by omega⟩
      have hkl : k < X.length := by omega
      have hx := h4 _ (zgetN_m hkl)
      rw [zf119_2, zgf_e, h1, if_neg (fun q => by have := (zn_le (by omega) (by omega)).mp q; omega), show zrf 169 4 = 178 from rfl, zal_n (by show k < 26; omega), h3 k hkl, zdropN hkl, zfi]
      by_cases g : X.getD k 0 = l
      · rw [if_neg (show ¬ ¬ nI (X.getD k 0) = nI l from fun q => q (by rw [g])), if_pos g]
        rfl
      · rw [if_pos (show ¬ nI (X.getD k 0) = nI l from fun q => g ((zn_eq (by omega) (by omega)).mp q)), if_neg g, zn_a1]
        exact ih f (k + 1) (by omega) (by omega)
  unfold zf119
  have := lp X.length zfz 0 (Nat.zero_add _) (by rw [zfz_e]; omega)
  rw [List.drop_zero] at this
  exact this
/-- the class's gathering -/
theorem z117 {q : Nat} {s : zS} {D : List zN} (hQ : zQq q) (hq : q < 29) (hP : zPc q s D) (hW : zWf D) : ∃ s', ((znl D D.length).length ≤ 26 → zf117 169 q s = some (1, s') ∧ zNc s' (znl D D.length)) ∧ (¬ (znl D D.length).length ≤ 26 → zf117 169 q s = some (0, s')) ∧ ∀ p, p ≠ 169 → p ≠ 178 → s' p = s p := by
  obtain ⟨u0, u1, u2, u3, u4, u5, u6, u7, u8, u9, u10, u11, u12⟩ := zQq_e hQ
  have hcap := hP.2.1
  have lp : ∀ m f n (s : zS), n + m = D.length → m < f → zPc q s D → zNc s (znl D n) → ∃ s', ((znl D D.length).length ≤ 26 → zf117_7 169 q f (nI n) s = some (1, s') ∧ zNc s' (znl D D.length)) ∧ (¬ (znl D D.length).length ≤ 26 → zf117_7 169 q f (nI n) s = some (0, s')) ∧ ∀ p, p ≠ 169 → p ≠ 178 → s' p = s p := by
    intro m
    induction m with
    | zero =>
      intro f n s hn hf hP hN
      obtain ⟨f, rfl⟩ : ∃ f', f = f' + 1 := ⟨f - 1, by omega⟩
      have e : n = D.length := by omega
      subst e
      refine ⟨s, fun _ => ⟨?_, hN⟩, fun g => absurd hN.2.1 g, fun _ _ _ => rfl⟩
      rw [zf117_7, zgf_e, hP.1, if_pos ((zn_le (by omega) (by omega)).mpr (Nat.le_refl _)), zrb1]
    | succ m ih =>
      intro f n s hn hf hP hN
      obtain ⟨f, rfl⟩ : ∃ f', f = f' + 1 := ⟨f - 1, by omega⟩
      have hnl : n < D.length := by omega
      have ez : znl D (n + 1) = if zned D n = true ∧ zlkn D n ∉ znl D n then znl D n ++ [zlkn D n] else znl D n := by rw [znl]
      rw [zf117_7, zgf_e, hP.1, if_neg (fun x => by have := (zn_le (by omega) (by omega)).mp x; omega), z118 hQ hP hW hnl, zbi_e]
      cases hz : zned D n with
      | false =>
        rw [if_neg (show ¬ false = true by decide), if_pos rfl, zn_a1]
        exact ih f (n + 1) s (by omega) (by omega) hP (by rw [ez, if_neg (fun x => by rw [hz] at x; cases x.1)]; exact hN)
      | true =>
        obtain ⟨l1, l2⟩ := zned_l hW hnl hz
        have vl : s (q + 3) n = nI (zlkn D n) := by rw [(hP.2.2.2 n hnl).2.2.1, l1]; rfl
        rw [if_pos rfl, if_neg (show ¬ (1 : Int32) = 0 by decide), u2, zal_n (by rw [u8]; omega), vl, z119 hN l2, zbi_e]
        cases hf' : zfi (zlkn D n) (znl D n) 0 with
        | some j =>
          have hj := (zfi_l _ _ _ hf').2
          have h26 := hN.2.1
          have hin : ¬ zlkn D n ∉ znl D n := fun x => by rw [(zfi_n _ 0).mpr x] at hf'; cases hf'
          rw [if_pos (show ¬ zoi (some j) = -1 from zn_nm (by omega)), zn_a1]
          exact ih f (n + 1) s (by omega) (by omega) hP (by rw [ez, if_neg (fun x => hin x.2)]; exact hN)
        | none =>
          have hout : zlkn D n ∉ znl D n := (zfi_n _ 0).mp hf'
          rw [if_neg (show ¬ ¬ zoi none = -1 from fun x => x rfl), zgf_e, hN.1]
          have ez' : znl D (n + 1) = znl D n ++ [zlkn D n] := by rw [ez, if_pos ⟨hz, hout⟩]
          have h26 := hN.2.1
          by_cases g : (znl D n).length = 26
          · rw [if_neg (show ¬ ¬ nI (znl D n).length = 26 from fun x => x (by rw [g]; rfl)), zrb0]
            have hm := znl_m (D := D) (D.length - (n + 1)) (n + 1)
            rw [show n + 1 + (D.length - (n + 1)) = D.length by omega, ez', List.length_append, List.length_singleton] at hm
            exact ⟨s, fun x => by omega, fun _ => rfl, fun _ _ _ => rfl⟩
          · rw [if_pos (show ¬ nI (znl D n).length = 26 from fun x => g ((zn_eq (a := (znl D n).length) (b := 26) (by omega) (by decide)).mp x)), zgf_e, hN.1, zal_n (by rw [u8]; omega), vl, show zrf 169 4 = 178 from rfl, zas_n (by show (znl D n).length < 26; omega), zgf_e, zw_ne (q := 169) (by decide), hN.1, zpf_e, zn_a1, zn_a1]
            obtain ⟨s1, hs1⟩ : ∃ s1, s1 = zw (zw s 178 (znl D n).length (nI (zlkn D n))) 169 5 (nI ((znl D n).length + 1)) := ⟨_, rfl⟩
            have f1 : ∀ p, p ≠ 169 → p ≠ 178 → s1 p = s p := fun p a b => by rw [hs1, zw_ne a, zw_ne b]
            rw [← hs1]
            obtain ⟨s', b1, b2, b3⟩ := ih f (n + 1) s1 (by omega) (by omega) (zPc_f hQ hP (fun p a b => f1 p (by omega) (by omega))) (by
              rw [ez']
              refine ⟨by rw [hs1, zw_s, List.length_append, List.length_singleton], by rw [List.length_append, List.length_singleton]; omega, fun k hk => ?_, fun x hx => ?_⟩
              · rw [List.length_append, List.length_singleton] at hk
                rw [hs1, zw_ne (by decide)]
                by_cases e : k = (znl D n).length
                · rw [e, zw_s, zgetN_r]
                · rw [zw_o (Or.inr e), zgetN_a (by omega)]; exact hN.2.2.1 k (by omega)
              · rcases List.mem_append.mp hx with x' | x'
                · exact hN.2.2.2 x x'
                · rw [List.mem_singleton.mp x']; exact l2)
            exact ⟨s', b1, b2, fun p a b => by rw [b3 p a b, f1 p a b]⟩
  obtain ⟨s1, hs1⟩ : ∃ s1, s1 = zw s 169 5 0 := ⟨_, rfl⟩
  have f1 : ∀ p, p ≠ 169 → s1 p = s p := fun p a => by rw [hs1, zw_ne a]
  obtain ⟨s', b1, b2, b3⟩ := lp D.length zfz 0 s1 (Nat.zero_add _) (by rw [zfz_e]; omega) (zPc_f hQ hP (fun p a b => f1 p (by omega))) ⟨by rw [hs1, zw_s]; rfl, Nat.zero_le _, fun k hk => absurd hk (Nat.not_lt_zero _), fun x hx => absurd hx List.not_mem_nil⟩
  have e : zf117 169 q s = zf117_7 169 q zfz (nI 0) s1 := by
    unfold zf117
    rw [zpf_e, ← hs1]
    rfl
  rw [e]
  exact ⟨s', b1, b2, fun p a b => by rw [b3 p a b, f1 p a]⟩
/-- the model's list of looks -/
def zNd (s : zS) (X : List Nat) : Prop := s 179 56 = nI X.length ∧ X.length ≤ 80 ∧ (∀ k, k < X.length → ∀ w, w < 3 → s 224 (3 * k + w) = zl3 (some (X.getD k 0)) w) ∧ ∀ x ∈ X, x < 2000
def zFl2 (s s' : zS) : Prop := (∀ q, q ≠ 179 → q ≠ 224 → s' q = s q) ∧ ∀ f, f ≠ 56 → s' 179 f = s 179 f
theorem zm230 {i n l : Nat} {s : zS} {X : List Nat} (hi : i < 3) (hn : n < 100) (hv : ∀ w, w < 3 → s 198 (3 * (100 * i + n) + w) = zl3 (some l) w) (hl : l < 2000) (h : zNd s X) (h80 : X.length < 80) :
    (∀ j, zfi l X 0 = some j → zf230 179 (nI i) (nI n) s = some (nI j, s)) ∧ (zfi l X 0 = none → ∃ s', zf230 179 (nI i) (nI n) s = some (nI X.length, s') ∧ zNd s' (X ++ [l]) ∧ zFl2 s s') := by
  obtain ⟨h1, h2, h3, h4⟩ := h
  obtain ⟨F, hF⟩ : ∃ F, F = 3 * (100 * i + n) := ⟨_, rfl⟩
  rw [← hF] at hv
  have v0 := hv 0 (by decide)
  have v1 := hv 1 (by decide)
  have v2 := hv 2 (by decide)
  rw [Nat.add_zero] at v0
  have p2 : ∀ m : Nat, (nI m : Int32) + 2 = nI (m + 2) := fun m => by rw [zn_lit 2, zn_add]
  have p3 : ∀ m : Nat, (3 : Int32) * nI m = nI (3 * m) := fun m => by rw [zn_lit 3, zn_mul]
  have lp : ∀ m f k, k + m = X.length → m < f → zf230_12 179 f (nI F) (nI k) s = match zfi l (X.drop k) k with | some j => some (nI j, s) | none => zf230_95 179 zfz (nI F) 0 s := by
    intro m
    induction m with
    | zero =>
      intro f k hk hf
      obtain ⟨f, rfl⟩ : ∃ f', f = f' + 1 := ⟨f - 1, by omega⟩
      rw [zf230_12, zgf_e, h1, if_pos ((zn_le (by omega) (by omega)).mpr (by omega)), List.drop_eq_nil_of_le (by omega)]
      rfl
    | succ m ih =>
      intro f k hk hf
      obtain ⟨f, rfl⟩ : ∃ f', f = f' + 1 := ⟨f - 1, by omega⟩
      have hkl : k < X.length := by omega
      have hx := h4 _ (zgetN_m hkl)
      have y0 := h3 k hkl 0 (by decide)
      have y1 := h3 k hkl 1 (by decide)
      have y2 := h3 k hkl 2 (by decide)
      rw [Nat.add_zero] at y0
      have go := ih f (k + 1) (by omega) (by omega)
      rw [zf230_12, zgf_e, h1, if_neg (fun q => by have := (zn_le (by omega) (by omega)).mp q; omega), show zrf 179 55 = 224 from rfl, show zrf 179 25 = 198 from rfl, p3, zal_n (by show _ < 240; omega), zal_n (by show _ < 1200; omega), y0, v0, zdropN hkl, zfi]
      have next : X.getD k 0 ≠ l → (match (if X.getD k 0 = l then some k else zfi l (X.drop (k + 1)) (k + 1)) with | some j => some (nI j, s) | none => zf230_95 179 zfz (nI F) 0 s) = zf230_12 179 f (nI F) (nI (k + 1)) s := by
        intro g
        rw [if_neg g]
        exact go.symm
      by_cases g0 : zl3 (some (X.getD k 0)) 0 = zl3 (some l) 0
      · rw [if_neg (fun q => q g0), zn_a1, zn_a1, zal_n (by show _ < 240; omega), zal_n (by show _ < 1200; omega), y1, v1]
        by_cases g1 : zl3 (some (X.getD k 0)) 1 = zl3 (some l) 1
        · rw [if_neg (fun q => q g1), p2, p2, zal_n (by show _ < 240; omega), zal_n (by show _ < 1200; omega), y2, v2]
          by_cases g2 : zl3 (some (X.getD k 0)) 2 = zl3 (some l) 2
          · have e := zl3_inj (a := some (X.getD k 0)) (b := some l) (fun x q => by cases q; exact hx) (fun x q => by cases q; exact hl) (fun w hw => by
              have h3 : w = 0 ∨ w = 1 ∨ w = 2 := by omega
              rcases h3 with rfl | rfl | rfl
              · exact g0
              · exact g1
              · exact g2)
            rw [if_neg (fun q => q g2), if_pos (Option.some.inj e)]
          · rw [if_pos g2, next (fun q => g2 (by rw [q])), zn_a1]
        · rw [if_pos g1, next (fun q => g1 (by rw [q])), zn_a1]
      · rw [if_pos g0, next (fun q => g0 (by rw [q])), zn_a1]
  have e0 : zf230 179 (nI i) (nI n) s = match zfi l X 0 with | some j => some (nI j, s) | none => zf230_95 179 zfz (nI F) 0 s := by
    unfold zf230
    rw [zn_3, ← hF]
    have := lp X.length zfz 0 (Nat.zero_add _) (by rw [zfz_e]; omega)
    rw [List.drop_zero] at this
    exact this
  refine ⟨fun j hj => by rw [e0, hj], fun hno => ?_⟩
  rw [e0, hno]
  dsimp only
  -- the new one
  obtain ⟨N, hN⟩ : ∃ N, N = X.length := ⟨_, rfl⟩
  obtain ⟨s3, hs3⟩ : ∃ s3, s3 = zw (zw (zw s 224 (3 * N) (zl3 (some l) 0)) 224 (3 * N + 1) (zl3 (some l) 1)) 224 (3 * N + 2) (zl3 (some l) 2) := ⟨_, rfl⟩
  have f3 : ∀ q, q ≠ 224 → s3 q = s q := fun q hq => by rw [hs3, zw_ne hq, zw_ne hq, zw_ne hq]
  refine ⟨zw s3 179 56 (nI (N + 1)), ?_, ⟨?_, ?_, fun k hk w hw => ?_, fun x hx => ?_⟩, fun q a b => by rw [zw_ne a, f3 q b], fun f hf => by rw [zw_o (Or.inr hf), f3 179 (by decide)]⟩
  · obtain ⟨M, hM⟩ : ∃ M, zfz = M + 4 := ⟨9996, zfz_e⟩
    rw [hM, show M + 4 = (M + 3) + 1 by omega, zf230_95, if_neg (show ¬ (3 : Int32) ≤ 0 by decide), zgf_e, h1, ← hN, show zrf 179 25 = 198 from rfl, show zrf 179 55 = 224 from rfl, p3, zn_a0, zn_a0, zal_n (by show _ < 1200; omega), v0, zas_n (by show _ < 240; omega), show (0 : Int32) + 1 = 1 by decide]
    rw [show M + 3 = (M + 2) + 1 by omega, zf230_95, if_neg (show ¬ (3 : Int32) ≤ 1 by decide), zgf_e, zw_ne (q := 179) (by decide), h1, ← hN, show zrf 179 25 = 198 from rfl, show zrf 179 55 = 224 from rfl, p3, zn_a1, zn_a1, zal_n (by show _ < 1200; omega), zw_ne (q := 198) (by decide), v1, zas_n (by show _ < 240; omega), show (1 : Int32) + 1 = 2 by decide]
    rw [show M + 2 = (M + 1) + 1 by omega, zf230_95, if_neg (show ¬ (3 : Int32) ≤ 2 by decide), zgf_e, zw_ne (q := 179) (by decide), zw_ne (q := 179) (by decide), h1, ← hN, show zrf 179 25 = 198 from rfl, show zrf 179 55 = 224 from rfl, p3, p2, p2, zal_n (by show _ < 1200; omega), zw_ne (q := 198) (by decide), zw_ne (q := 198) (by decide), v2, zas_n (by show _ < 240; omega), ← hs3, show (2 : Int32) + 1 = 3 by decide]
    rw [zf230_95, if_pos (show (3 : Int32) ≤ 3 by decide), zgf_e, f3 179 (by decide), h1, ← hN, zn_a1, zpf_e, zgf_e, zw_s, zn_s1]
  · rw [zw_s, List.length_append, List.length_singleton, hN]
  · rw [List.length_append, List.length_singleton]; omega
  · rw [List.length_append, List.length_singleton] at hk
    rw [zw_ne (by decide)]
    by_cases e : k = N
    · rw [e, hN, zgetN_r, ← hN, hs3]
      have h3 : w = 0 ∨ w = 1 ∨ w = 2 := by omega
      rcases h3 with rfl | rfl | rfl
      · rw [zw_o (Or.inr (by omega)), zw_o (Or.inr (by omega)), Nat.add_zero, zw_s]
      · rw [zw_o (Or.inr (by omega)), zw_s]
      · rw [zw_s]
    · rw [hs3, zw_o (Or.inr (by omega)), zw_o (Or.inr (by omega)), zw_o (Or.inr (by omega)), zgetN_a (by omega)]
      exact h3 k (by omega) w hw
  · rcases List.mem_append.mp hx with x' | x'
    · exact h4 x x'
    · rw [List.mem_singleton.mp x']; exact hl
