/-! emit: the body on the model's side. -/
set_option maxRecDepth 100000
set_option linter.unusedVariables false
/-- how deep a node lies -/
def zdq (D : List zN) : Nat → Nat → Nat
  | 0, _ => 0
  | n + 1, x => match zab D x with
    | none => 1
    | some y => zdq D n y + 1
theorem zdq_i {D : List zN} (hW : zWf D) : ∀ n m x, x < n → x < m → zdq D n x = zdq D m x := by
  intro n
  induction n with
  | zero => intro m x h; exact absurd h (Nat.not_lt_zero _)
  | succ n ih =>
    intro m x h1 h2
    obtain ⟨m, rfl⟩ : ∃ m', m = m' + 1 := ⟨m - 1, by omega⟩
    rw [zdq, zdq]
    cases hy : zab D x with
    | none => rfl
    | some y =>
      have := (zab_b hW hy).1
      dsimp only
      rw [ih m y (by omega) (by omega)]
def zdp (D : List zN) (o : Option Nat) : Nat := match o with
  | none => 0
  | some x => zdq D (x + 1) x
theorem zdp_s {D : List zN} (hW : zWf D) {x : Nat} : zdp D (some x) = zdp D (zab D x) + 1 := by
  show zdq D (x + 1) x = _
  rw [zdq]
  cases hy : zab D x with
  | none => rfl
  | some y =>
    have := (zab_b hW hy).1
    show zdq D x y + 1 = zdq D (y + 1) y + 1
    rw [zdq_i hW x (y + 1) y (by omega) (by omega)]
theorem ze_el {D : List zN} (hW : zWf D) {t : Option Nat} : ∀ n o, (∀ x, o = some x → x < n) → ze_P D o t → (ze_e D n o t).length + 4 * zdp D t = 4 * zdp D o := by
  intro n
  induction n with
  | zero =>
    intro o ho hp
    cases o with
    | some x => exact absurd (ho x rfl) (Nat.not_lt_zero _)
    | none =>
      rcases hp.2 with q | ⟨x, a, q, _⟩
      · rw [q, ze_e]; rfl
      · cases q
  | succ n ih =>
    intro o ho hp
    cases o with
    | none =>
      rcases hp.2 with q | ⟨x, a, q, _⟩
      · rw [q, ze_e]; rfl
      · cases q
    | some x =>
      rw [ze_e]
      by_cases e : some x = t
      · rw [if_pos e, ← e, List.length_nil, Nat.zero_add]
      · have hx := ho x rfl
        have := ih (zab D x) (fun y hy => by have := (zab_b hW hy).1; omega) (ze_Pn hW hp e)
        rw [if_neg e, List.length_append, zdp_s hW]
        have e4 : (zed D x).length = 4 := rfl
        omega
theorem ze_yl {D : List zN} {X : List Nat} {n : Nat} : (ze_y D X n).length ≤ 6 := by
  unfold ze_y
  split
  · exact Nat.le_refl _
  · exact Nat.zero_le _
theorem ze_cl {D : List zN} {n : Nat} : (ze_c D n).length ≤ 1 := by
  unfold ze_c
  split
  · exact Nat.zero_le _
  · exact Nat.le_refl _
theorem ze_bl {D : List zN} {X : List Nat} {n : Nat} : (ze_b D X n).length ≤ 9 + (ze_c D n).length := by
  unfold ze_b
  have := ze_yl (D := D) (X := X) (n := n)
  simp only [List.length_append, List.length_cons, List.length_nil]
  omega
/-- the room of the body -/
theorem ze_tl {D : List zN} {X : List Nat} (hW : zWf D) (h100 : D.length ≤ 100) : ∀ m, m ≤ D.length → (ze_t D X m).length + 4 * zdp D (ze_o D m) ≤ 13 * m + zof D m := by
  intro m
  induction m with
  | zero => intro _; exact Nat.zero_le _
  | succ m ih =>
    intro hm
    have h1 := ih (by omega)
    have hml : m < D.length := by omega
    have h2 := ze_el hW 100 (ze_o D m) (fun x hx => by have := (ze_ob hW m (by omega) x hx).1; omega) (ze_oP hW hml)
    have h3 := zof_s hml
    have hc := ze_cl (D := D) (n := m)
    have hb := ze_bl (D := D) (X := X) (n := m)
    have hd := zdp_s hW (x := m)
    rw [ze_t, List.length_append, List.length_append, h3, ze_o, ze_n]
    by_cases g : (zno D m).1 = 2
    · rw [if_pos g, if_neg (fun w => w.1 g)]
      have hr : (ze_r D X m).length ≤ 13 + (zno D m).2.2.2.length := by
        have c0 : ze_c D m = [] := by unfold ze_c; rw [if_pos (Or.inl g)]
        rw [c0] at hb
        unfold ze_r
        split
        · simp only [List.length_append]
          have e4 : (zed D m).length = 4 := rfl
          have : (ze_b D X m).length ≤ 9 := hb
          omega
        · simp only [List.length_append, List.length_nil]
          omega
      omega
    · rw [if_neg g]
      by_cases g2 : zab D (m + 1) = some m
      · rw [if_pos ⟨g, g2⟩, hd]
        have c0 : ze_c D m = [] := by unfold ze_c; rw [if_pos (Or.inr g2)]
        rw [c0] at hb
        have : (ze_b D X m).length ≤ 9 := hb
        omega
      · rw [if_neg (fun w => g2 w.2)]
        omega
theorem zbdy_l {D : List zN} {X : List Nat} (hW : zWf D) (h80 : D.length ≤ 80) (h600 : (zlt D).length ≤ 600) : (zbdy D X).length ≤ 1640 ∧ ∀ m, m ≤ D.length → (ze_t D X m).length ≤ 1640 := by
  have all : ∀ m, m ≤ D.length → (ze_t D X m).length + 4 * zdp D (ze_o D m) ≤ 1640 := by
    intro m hm
    have h1 := ze_tl (X := X) hW (by omega) m hm
    have h2 := zof_m hm (Nat.le_refl D.length)
    rw [zof_n] at h2
    omega
  refine ⟨?_, fun m hm => by have := all m hm; omega⟩
  have h1 := all D.length (Nat.le_refl _)
  have h2 := ze_el hW 100 (ze_o D D.length) (fun x hx => by have := (ze_ob hW D.length (Nat.le_refl _) x hx).1; omega) (t := none) ⟨ze_ob hW _ (Nat.le_refl _), Or.inl rfl⟩
  unfold zbdy
  rw [List.length_append]
  have : zdp D none = 0 := rfl
  omega
theorem zm235 {k : Nat} {s : zS} (hk : k < 5) (h2 : k ≠ 2) : zf235 (nI k) s = some (zkl k, s) := by
  have h : k = 0 ∨ k = 1 ∨ k = 3 ∨ k = 4 := by omega
  rcases h with rfl | rfl | rfl | rfl <;> rfl
theorem zm232' {p : Nat} {c : Int32} {s : zS} {C : List Int32} (hp : p < 2) (h : zMde p s C) (hl : C.length + 1 ≤ 2400) : zMw p s (C ++ [c]) (zf232 179 (nI p) c s) := zm232 hp h (by omega)
/-- what stands behind the ends -/
noncomputable def ze_4 (k : Int32 → Int32 → Int32 → zS → Option zS) (x1 x2 x3 : Int32) (s : zS) : Option zS :=
  zal s (zrf 179 22) x1 fun v1 =>
      if v1 ≤ x3 then
        zf234_137 179 k x1 x2 x3 s
      else
        zal s (zrf 179 23) ((100 * x1) + x3) fun v2 =>
        if ¬ v2 = 2 then
          zf234_137 179 k x1 x2 x3 s
        else
          zbv (zf236 179 x1 x3 s) fun s4 =>
          k x1 x2 (x3 + 1) s4
theorem zm234_e {i : Nat} {D : List zN} {t : Option Nat} {k : Int32 → Int32 → Int32 → zS → Option zS} {x3 : Int32} {C2 : List Int32} (hi : i < 3) (hW : zWf D) (h100 : D.length ≤ 100) (ht : ∀ a, t = some a → a < 2000) : ∀ n f o (s : zS) C, n < f → (∀ x, o = some x → x < n) → ze_P D o t → zPm i s D → zMde 1 s C → C.length + (ze_e D n o t).length ≤ 2400 → (∀ s1, zMde 1 s1 (C ++ ze_e D n o t) → zFs2 1 s s1 → zMw 1 s1 C2 (ze_4 k (nI i) (zoi t) x3 s1)) → zMw 1 s C2 (zf234_48 179 k f (nI i) (zoi o) x3 (zoi t) s) := by
  have stop : ∀ f (s : zS), zf234_48 179 k (f + 1) (nI i) (zoi t) x3 (zoi t) s = ze_4 k (nI i) (zoi t) x3 s := by
    intro f s
    rw [zf234_48, if_pos rfl]
    rfl
  intro n
  induction n with
  | zero =>
    intro f o s C hf ho hp hP hC hl hk
    obtain ⟨f, rfl⟩ : ∃ f', f = f' + 1 := ⟨f - 1, by omega⟩
    cases o with
    | some x => exact absurd (ho x rfl) (Nat.not_lt_zero _)
    | none =>
      rcases hp.2 with q | ⟨x, a, q, _⟩
      · have st := stop f s
        rw [q] at st hk ⊢
        rw [st]
        exact hk s (by rw [ze_e, List.append_nil]; exact hC) zFs2_r
      · cases q
  | succ n ih =>
    intro f o s C hf ho hp hP hC hl hk
    obtain ⟨f, rfl⟩ : ∃ f', f = f' + 1 := ⟨f - 1, by omega⟩
    cases o with
    | none =>
      rcases hp.2 with q | ⟨x, a, q, _⟩
      · have st := stop f s
        rw [q] at st hk ⊢
        rw [st]
        exact hk s (by rw [ze_e, List.append_nil]; exact hC) zFs2_r
      · cases q
    | some x =>
      have hx := ho x rfl
      obtain ⟨hxl, hx2⟩ := hp.1 x rfl
      rw [ze_e] at hl hk
      by_cases e : some x = t
      · rw [if_pos e] at hl hk
        rw [e, stop]
        exact hk s (by rw [List.append_nil]; exact hC) zFs2_r
      · rw [if_neg e] at hl hk
        have e4 : (zed D x).length = 4 := rfl
        rw [List.length_append, e4] at hl
        have L : ∀ (A B : List Int32), (A ++ B).length = A.length + B.length := fun A B => List.length_append
        rw [zf234_48, if_neg (fun w => e ((zoi_eq (fun l w => by cases w; omega) ht).mp w))]
        refine zmwB (zm231 (p := 1) (by decide) zby_8 (by decide) hC (by show C.length + 2 ≤ 2400; omega)) (fun s1 h1 f1 => ?_)
        rw [show zoi (some x) = nI x from rfl, show zrf 179 23 = 196 from rfl, zn_100, zal_n (by show _ < 400; omega), f1.1 196 (by decide) (by decide), (hP.2.2.2.2.2 x hxl).1, zm235 (hW x hxl).1 hx2, zbi_e]
        refine zmwB (zm232' (p := 1) (by decide) h1 (by rw [L]; show C.length + 2 + 1 ≤ 2400; omega)) (fun s2 h2 f2 => ?_)
        refine zmwB (zm232' (p := 1) (by decide) h2 (by rw [L, L]; show C.length + 2 + 1 + 1 ≤ 2400; omega)) (fun s3 h3 f3 => ?_)
        have F := zFs2_t (zFs2_t f1 f2) f3
        rw [show zrf 179 24 = 197 from rfl, zal_n (by show _ < 400; omega), F.1 197 (by decide) (by decide), (hP.2.2.2.2.2 x hxl).2.1]
        have h3' : zMde 1 s3 (C ++ zed D x) := by
          unfold zed
          rw [← List.append_assoc, ← List.append_assoc]
          exact h3
        refine ih f (zab D x) s3 _ (by omega) (fun y hy => by have := (zab_b hW hy).1; omega) (ze_Pn hW hp e) (zPm_g hP F) h3' (by rw [L, e4]; omega) (fun s4 h4 f4 => ?_)
        exact hk s4 (by rw [← List.append_assoc]; exact h4) (zFs2_t F f4)
/-- the style of a node, in the model -/
theorem zm234_y {i n : Nat} {D : List zN} {X : List Nat} {s : zS} {C C2 : List Int32} {k : zS → Option zS} (hi : i < 3) (hW : zWf D) (h100 : D.length ≤ 100) (hn : n < D.length) (hP : zPm i s D) (hN : zNd s X) (h80 : X.length < 80) (hz : zned D n = true) (hX : zlkn D n ∈ X) (hC : zMde 1 s C) (hl : C.length + 7 ≤ 2400) (hk : ∀ s1, zMde 1 s1 (C ++ ze_y D X n) → zFs2 1 s s1 → zMw 1 s1 C2 (k s1)) : zMw 1 s C2 (zbi (zf230 179 (nI i) (nI n) s) fun v5 s6 => zbv (zf233 179 1 121 0 (65 + v5) s6) k) := by
  obtain ⟨l1, l2⟩ := zned_l hW hn hz
  have hv := (hP.2.2.2.2.2 n hn).2.2.1
  rw [l1] at hv
  obtain ⟨r1, r2⟩ := zm230 (n := n) hi (by omega) hv l2 hN h80
  cases hf : zfi (zlkn D n) X 0 with
  | none => exact absurd hX ((zfi_n _ 0).mp hf)
  | some j =>
    rw [r1 j hf, zbi_e, show (65 : Int32) + nI j = nI (65 + j) by rw [zn_lit 65, zn_add]]
    refine zmwB (zm233 (p := 1) (l := 121) (x := 0) (y := nI (65 + j)) (by decide) hC hl) (fun s1 h1 f1 => hk s1 ?_ f1)
    have ey : ze_y D X n = [32, 121, 61, 34] ++ [] ++ [nI (65 + j), 34] := by
      unfold ze_y
      rw [if_pos hz, hf]
      rfl
    rw [ey]
    exact h1
/-- the model's run -/
theorem zm236 {i n : Nat} {D : List zN} {X : List Nat} {s : zS} {C : List Int32} (hi : i < 3) (hW : zWf D) (h100 : D.length ≤ 100) (hn : n < D.length) (h2 : (zno D n).1 = 2) (hP : zPm i s D) (hN : zNd s X) (h80 : X.length < 80) (hX : zned D n = true → zlkn D n ∈ X) (hC : zMde 1 s C) (hl : C.length + (ze_r D X n).length + 10 ≤ 2400) : zMw 1 s (C ++ ze_r D X n) (zf236 179 (nI i) (nI n) s) := by
  have L : ∀ (A B : List Int32), (A ++ B).length = A.length + B.length := fun A B => List.length_append
  have hof := zof_le hn
  have h700 := hP.2.2.2.1
  obtain ⟨E, hE⟩ : ∃ E, E = if zned D n = true then zed D n else [] := ⟨_, rfl⟩
  have lp : ∀ m f k (s : zS) C (b : Int32), k + m = (zno D n).2.2.2.length → m < f → zPm i s D → zMde 1 s C → C.length + m + 4 ≤ 2400 → (b = if zned D n = true then 1 else 0) → zMw 1 s (C ++ (zno D n).2.2.2.drop k ++ E) (zf236_46 179 f (nI i) (nI n) b (nI k) s) := by
    intro m
    induction m with
    | zero =>
      intro f k s C b hk hf hP hC hl hb
      obtain ⟨f, rfl⟩ : ∃ f', f = f' + 1 := ⟨f - 1, by omega⟩
      rw [zf236_46, show zrf 179 27 = 200 from rfl, zn_100, zal_n (by show _ < 400; omega), (hP.2.2.2.2.2 n hn).2.2.2.2, if_pos ((zn_le (by omega) (by omega)).mpr (by omega)), List.drop_eq_nil_of_le (by omega), List.append_nil]
      cases hz : zned D n with
      | false =>
        rw [hz, if_neg (show ¬ false = true by decide)] at hb hE
        rw [if_pos hb, hE, List.append_nil]
        exact zmwE hC
      | true =>
        rw [hz, if_pos rfl] at hb hE
        have e : zed D n = [60, 47, 120, 62] := by unfold zed; rw [h2]; rfl
        rw [if_neg (show ¬ b = 0 by rw [hb]; decide), hE, e]
        exact zmwB (zm231 (p := 1) (by decide) zby_6 (by decide) hC hl) (fun s1 h1 f1 => zmwE h1)
    | succ m ih =>
      intro f k s C b hk hf hP hC hl hb
      obtain ⟨f, rfl⟩ : ∃ f', f = f' + 1 := ⟨f - 1, by omega⟩
      rw [zf236_46, show zrf 179 27 = 200 from rfl, zn_100, zal_n (by show _ < 400; omega), (hP.2.2.2.2.2 n hn).2.2.2.2, if_neg (fun w => by have := (zn_le (by omega) (by omega)).mp w; omega), show zrf 179 26 = 199 from rfl, zal_n (by show _ < 400; omega), (hP.2.2.2.2.2 n hn).2.2.2.1, show zrf 179 29 = 202 from rfl, show ((700 * nI i) + nI (zof D n)) + nI k = nI (700 * i + (zof D n + k)) by rw [zn_lit 700, zn_mul, zn_add, zn_add, Nat.add_assoc], zal_n (by show _ < 2800; omega), hP.2.2.2.2.1 _ (by omega), zlt_at D n k hn (by omega), zgetD_drop (show k < (zno D n).2.2.2.length by omega), zn_a1]
      refine zmwB (zm232' (p := 1) (by decide) hC (by omega)) (fun s1 h1 f1 => ?_)
      have := ih f (k + 1) s1 _ b (by omega) (by omega) (zPm_g hP f1) h1 (by rw [L]; show C.length + 1 + m + 4 ≤ 2400; omega) hb
      rw [List.append_assoc C, List.singleton_append] at this
      exact this
  unfold zf236
  unfold ze_r at hl ⊢
  rw [← hE] at hl ⊢
  rw [L, L] at hl
  rw [zm229 hi hP hW hn, zbi_e]
  cases hz : zned D n with
  | false =>
    rw [hz] at hl
    have hl' : C.length + (0 + (zno D n).2.2.2.length + E.length) + 10 ≤ 2400 := hl
    rw [show (if false = true then ze_b D X n else []) = [] from rfl, if_neg (show ¬ false = true by decide), if_pos rfl, List.nil_append, ← List.append_assoc]
    have := lp _ zfz 0 s C 0 (Nat.zero_add _) (by rw [zfz_e]; omega) hP hC (by omega) (by rw [hz]; rfl)
    rw [List.drop_zero] at this
    exact this
  | true =>
    have c0 : ze_c D n = [] := by unfold ze_c; rw [if_pos (Or.inl h2)]
    have y6 : (ze_y D X n).length = 6 := by unfold ze_y; rw [hz]; rfl
    have eb : C ++ ze_b D X n = C ++ [60, 120] ++ ze_y D X n ++ [62] := by
      unfold ze_b
      rw [c0, h2, List.append_nil, show zkl 2 = 120 from rfl]
      simp only [List.append_assoc, List.cons_append, List.nil_append]
    have lb : (ze_b D X n).length = 9 := by
      have := congrArg List.length eb
      rw [L, L, L, L, y6] at this
      have : C.length + (ze_b D X n).length = C.length + 2 + 6 + 1 := this
      omega
    rw [hz] at hl
    have hl' : C.length + ((ze_b D X n).length + (zno D n).2.2.2.length + E.length) + 10 ≤ 2400 := hl
    rw [show (if true = true then ze_b D X n else []) = ze_b D X n from rfl, if_pos rfl, if_neg (show ¬ (1 : Int32) = 0 by decide), ← List.append_assoc, ← List.append_assoc, eb]
    refine zmwB (zm231 (p := 1) (by decide) zby_7 (by decide) hC (by show C.length + 2 ≤ 2400; omega)) (fun s1 h1 f1 => ?_)
    refine zm234_y hi hW h100 hn (zPm_g hP f1) (zNd_f hN f1) h80 hz (hX hz) h1 (by rw [L]; show C.length + 2 + 7 ≤ 2400; omega) (fun s2 h2' f2 => ?_)
    refine zmwB (zm232' (p := 1) (by decide) h2' (by rw [L, L, y6]; show C.length + 2 + 6 + 1 ≤ 2400; omega)) (fun s3 h3 f3 => ?_)
    have := lp _ zfz 0 s3 _ 1 (Nat.zero_add _) (by rw [zfz_e]; omega) (zPm_g hP (zFs2_t (zFs2_t f1 f2) f3)) h3 (by rw [L, L, L, y6]; show C.length + 2 + 6 + 1 + _ + 4 ≤ 2400; omega) (by rw [hz]; rfl)
    rw [List.drop_zero] at this
    exact this
/-- the model's body -/
theorem zm234 {i : Nat} {D : List zN} {X : List Nat} {s : zS} (hi : i < 3) (hW : zWf D) (h80 : D.length ≤ 80) (h600 : (zlt D).length ≤ 600) (hP : zPm i s D) (hN : zNd s X) (hX8 : X.length < 80) (hX : ∀ n, n < D.length → zned D n = true → zlkn D n ∈ X) : zMw 1 s (zbdy D X) (zf234 179 (nI i) s) := by
  have L : ∀ (A B : List Int32), (A ++ B).length = A.length + B.length := fun A B => List.length_append
  obtain ⟨b1, b2⟩ := zbdy_l (X := X) hW h80 h600
  have hb : ∀ n, ∀ a, zab D n = some a → a < 2000 := fun n a ha => by have := zab_b hW ha; omega
  have lp : ∀ m f n (s : zS), n + m = D.length → m + 1 < f → zPm i s D → zNd s X → zMde 1 s (ze_t D X n) → zMw 1 s (zbdy D X) (zf234_11 179 f (nI i) (zoi (ze_o D n)) (nI n) s) := by
    intro m
    induction m with
    | zero =>
      intro f n s hn hf hP hN hC
      obtain ⟨f, rfl⟩ : ∃ f', f = f' + 1 := ⟨f - 1, by omega⟩
      have e : n = D.length := by omega
      subst e
      rw [zf234_11, show zrf 179 22 = 195 from rfl, zal_n (show i < 4 by omega), hP.1, if_neg (fun w => by have := (zn_lt (by omega) (by omega)).mp w; omega), zal_n (show i < 4 by omega), hP.1, if_pos ((zn_le (by omega) (by omega)).mpr (Nat.le_refl _))]
      refine zm234_e (t := none) hi hW (by omega) (fun a w => by cases w) 100 zfz _ s _ (by rw [zfz_e]; decide) (fun x hx => by have := (ze_ob hW D.length (Nat.le_refl _) x hx).1; omega) ⟨ze_ob hW _ (Nat.le_refl _), Or.inl rfl⟩ hP hC (by unfold zbdy at b1; rw [L] at b1; omega) (fun s1 h1 f1 => ?_)
      have P1 := zPm_g hP f1
      unfold ze_4
      rw [show zrf 179 22 = 195 from rfl, zal_n (show i < 4 by omega), P1.1, if_pos ((zn_le (by omega) (by omega)).mpr (Nat.le_refl _)), zf234_137, show zrf 179 22 = 195 from rfl, zal_n (show i < 4 by omega), P1.1, if_pos ((zn_le (by omega) (by omega)).mpr (Nat.le_refl _)), zn_a1]
      obtain ⟨f, rfl⟩ : ∃ f', f = f' + 1 := ⟨f - 1, by omega⟩
      rw [zf234_11, show zrf 179 22 = 195 from rfl, zal_n (show i < 4 by omega), P1.1, if_pos ((zn_lt (by omega) (by omega)).mpr (by omega))]
      exact zmwE h1
    | succ m ih =>
      intro f n s hn hf hP hN hC
      obtain ⟨f, rfl⟩ : ∃ f', f = f' + 1 := ⟨f - 1, by omega⟩
      have hnl : n < D.length := by omega
      have k5 := (hW n hnl).1
      have bn := b2 (n + 1) (by omega)
      rw [ze_t, L, L] at bn
      rw [zf234_11, show zrf 179 22 = 195 from rfl, zal_n (show i < 4 by omega), hP.1, if_neg (fun w => by have := (zn_lt (by omega) (by omega)).mp w; omega), zal_n (show i < 4 by omega), hP.1, if_neg (fun w => by have := (zn_le (by omega) (by omega)).mp w; omega), show zrf 179 24 = 197 from rfl, zn_100, zal_n (by show _ < 400; omega), (hP.2.2.2.2.2 n hnl).2.1]
      refine zm234_e (t := zab D n) hi hW (by omega) (hb n) 100 zfz _ s _ (by rw [zfz_e]; decide) (fun x hx => by have := (ze_ob hW n (by omega) x hx).1; omega) (ze_oP hW hnl) hP hC (by omega) (fun s1 h1 f1 => ?_)
      have P1 := zPm_g hP f1
      have N1 := zNd_f hN f1
      unfold ze_4
      rw [show zrf 179 22 = 195 from rfl, zal_n (show i < 4 by omega), P1.1, if_neg (fun w => by have := (zn_le (by omega) (by omega)).mp w; omega), show zrf 179 23 = 196 from rfl, zn_100, zal_n (by show _ < 400; omega), (P1.2.2.2.2.2 n hnl).1]
      by_cases g : (zno D n).1 = 2
      · rw [if_neg (show ¬ ¬ nI (zno D n).1 = 2 from fun w => w (by rw [g]; rfl))]
        rw [ze_n, if_pos g] at bn
        refine zmwB (zm236 hi hW (by omega) hnl g P1 N1 hX8 (hX n hnl) h1 (by rw [L]; omega)) (fun s2 h2 f2 => ?_)
        have eo : ze_o D (n + 1) = zab D n := by rw [ze_o, if_neg (fun w => w.1 g)]
        have := ih f (n + 1) s2 (by omega) (by omega) (zPm_g P1 f2) (zNd_f N1 f2) (by rw [ze_t, ze_n, if_pos g]; exact h2)
        rw [eo] at this
        rw [zn_a1]
        exact this
      · rw [if_pos (show ¬ nI (zno D n).1 = 2 from fun w => g ((zn_eq (a := (zno D n).1) (b := 2) (by omega) (by decide)).mp w))]
        obtain ⟨C1, hC1⟩ : ∃ C1, C1 = ze_t D X n ++ ze_e D 100 (ze_o D n) (zab D n) := ⟨_, rfl⟩
        rw [← hC1] at h1
        have l1 : C1.length ≤ 1640 := by rw [hC1, L]; omega
        unfold zf234_137
        rw [show zrf 179 22 = 195 from rfl, zal_n (show i < 4 by omega), P1.1, if_neg (fun w => by have := (zn_le (by omega) (by omega)).mp w; omega)]
        refine zmwB (zm232' (p := 1) (by decide) h1 (by omega)) (fun s2 h2 f2 => ?_)
        have P2 := zPm_g P1 f2
        rw [show zrf 179 23 = 196 from rfl, zn_100, zal_n (by show _ < 400; omega), (P2.2.2.2.2.2 n hnl).1, zm235 k5 g, zbi_e]
        refine zmwB (zm232' (p := 1) (by decide) h2 (by rw [L]; show C1.length + 1 + 1 ≤ 2400; omega)) (fun s3 h3 f3 => ?_)
        have P3 := zPm_g P2 f3
        have N3 := zNd_f (zNd_f N1 f2) f3
        have hy := ze_yl (D := D) (X := X) (n := n)
        -- behind the style
        have tl : ∀ s4, zMde 1 s4 (C1 ++ [60] ++ [zkl (zno D n).1] ++ ze_y D X n) → zFs2 1 s3 s4 → zMw 1 s4 (zbdy D X) (zf234_199 179 (zf234_11 179 f) (nI i) (zoi (zab D n)) (nI n) s4) := by
          intro s4 h4 f4
          have P4 := zPm_g P3 f4
          have N4 := zNd_f N3 f4
          have l4 : (C1 ++ [60] ++ [zkl (zno D n).1] ++ ze_y D X n).length ≤ 1650 := by rw [L, L, L]; show C1.length + 1 + 1 + _ ≤ 1650; omega
          have go : ∀ b : Nat, b = (if zab D (n + 1) = some n then 1 else 0) → zMw 1 s4 (zbdy D X) (zf234_233 179 (zf234_11 179 f) (nI i) (zoi (zab D n)) (nI n) (nI b) s4) := by
            intro b hb'
            by_cases g2 : zab D (n + 1) = some n
            · rw [if_pos g2] at hb'
              subst hb'
              unfold zf234_233 zf234_251
              rw [if_neg (show ¬ nI 1 = 0 by decide)]
              refine zmwB (zm231 (p := 1) (by decide) zby_2 (by decide) h4 (by show _ + 1 ≤ 2400; omega)) (fun s5 h5 f5 => ?_)
              rw [if_neg (show ¬ nI 1 = 0 by decide), zn_a1]
              have := ih f (n + 1) s5 (by omega) (by omega) (zPm_g P4 f5) (zNd_f N4 f5) (by
                rw [ze_t, ze_n, if_neg g, ← hC1]
                unfold ze_b
                have c0 : ze_c D n = [] := by unfold ze_c; rw [if_pos (Or.inr g2)]
                rw [c0, List.append_nil, ← List.append_assoc, ← List.append_assoc, ← List.append_assoc]
                exact h5)
              rw [ze_o, if_pos ⟨g, g2⟩] at this
              exact this
            · rw [if_neg g2] at hb'
              subst hb'
              unfold zf234_233 zf234_251
              rw [if_pos (show nI 0 = 0 from rfl)]
              refine zmwB (zm231 (p := 1) (by decide) zby_3 (by decide) h4 (by show _ + 2 ≤ 2400; omega)) (fun s5 h5 f5 => ?_)
              rw [if_pos (show nI 0 = 0 from rfl), zn_a1]
              have := ih f (n + 1) s5 (by omega) (by omega) (zPm_g P4 f5) (zNd_f N4 f5) (by
                rw [ze_t, ze_n, if_neg g, ← hC1]
                unfold ze_b
                have c0 : ze_c D n = [47] := by unfold ze_c; rw [if_neg (fun w => w.elim g g2)]
                rw [c0, ← List.append_assoc, ← List.append_assoc, ← List.append_assoc, ← List.append_assoc]
                rw [List.append_assoc _ [47] [62]]
                exact h5)
              rw [ze_o, if_neg (fun w => g2 w.2)] at this
              exact this
          unfold zf234_199
          rw [show zrf 179 22 = 195 from rfl, zal_n (show i < 4 by omega), P4.1, zn_a1]
          by_cases g3 : D.length ≤ n + 1
          · rw [if_pos ((zn_le (by omega) (by omega)).mpr g3)]
            exact go 0 (by rw [if_neg (fun w => by have := zab_lt w; omega)])
          · rw [if_neg (fun w => g3 ((zn_le (by omega) (by omega)).mp w)), show zrf 179 24 = 197 from rfl, zn_100, zn_a1, Nat.add_assoc, zal_n (by show _ < 400; omega), (P4.2.2.2.2.2 (n + 1) (by omega)).2.1]
            have e : zoi (zno D (n + 1)).2.1 = nI n ↔ zab D (n + 1) = some n := zoi_eq (a := zab D (n + 1)) (b := some n) (hb (n + 1)) (fun l w => by cases w; omega)
            by_cases g2 : zab D (n + 1) = some n
            · rw [if_neg (fun w => w (e.mpr g2))]
              exact go 1 (by rw [if_pos g2])
            · rw [if_pos (fun w => g2 (e.mp w))]
              exact go 0 (by rw [if_neg g2])
        rw [zm229 hi P3 hW hnl, zbi_e]
        cases hz : zned D n with
        | false =>
          rw [if_neg (show ¬ false = true by decide), if_pos rfl]
          have ey : ze_y D X n = [] := by unfold ze_y; rw [hz]; rfl
          exact tl s3 (by rw [ey, List.append_nil]; exact h3) zFs2_r
        | true =>
          rw [if_pos rfl, if_neg (show ¬ (1 : Int32) = 0 by decide)]
          exact zm234_y hi hW (by omega) hnl P3 N3 hX8 hz (hX n hnl hz) h3 (by rw [L, L]; show C1.length + 1 + 1 + 7 ≤ 2400; omega) tl
  unfold zf234
  have z0 : ∀ (c : zS → Option zS), zas s 221 1 0 c = c (zw s 221 1 0) := fun c => zas_n (j := 1) (by decide)
  rw [show zrf 179 52 = 221 from rfl, z0]
  obtain ⟨s1, hs1⟩ : ∃ s1, s1 = zw s 221 1 0 := ⟨_, rfl⟩
  have F : zFs2 1 s s1 := ⟨fun q a b => by rw [hs1, zw_ne b], fun j hj => by rw [hs1, zw_o (Or.inr hj)], fun j hj => by rw [hs1, zw_ne (by decide)]⟩
  rw [← hs1]
  exact zmwS (lp D.length zfz 0 s1 (Nat.zero_add _) (by rw [zfz_e]; omega) (zPm_g hP F) (zNd_f hN F) ⟨by rw [hs1, zw_s]; rfl, Nat.zero_le _, fun j hj => absurd hj (Nat.not_lt_zero _)⟩) F
