/-! read on the model's side. -/
set_option maxRecDepth 100000
set_option linter.unusedVariables false
theorem zf6_y {C : List Int32} {E : List zE} {C' : List Int32} {F : List zE} {S : Nat → Option Nat} (h : zf6 C E C' F = .inr S) : zn2 C' F 121 S F.length 0 = none := by
  unfold zf6 at h
  split at h
  · cases h
  · split at h
    · cases h
    · split at h
      · cases h
      · split at h
        · cases h
        · next g => cases h; exact g
theorem zpb_0 {R : Type} {s : zS} {k f : Nat} {c : zS → Option R} : zpb s k f 0 c = c (zw s k f 0) := by
  unfold zpb
  exact if_pos (Or.inl rfl)
/-- the plain form has at most 90 nodes -/
theorem zbl_90 {LO : Nat → Nat} {C : List Int32} {E : List zE} {C' : List Int32} {F : List zE} {O' : List (Nat × Nat)} (hG : zGe C E C' F O') : (zbl LO C' F O' C'.length 0 ([], fun _ => none)).1.length ≤ 90 := by
  obtain ⟨_, g21, g22, g23, g24, g25, g26, g27, g28, g29, g210, g211, g212, g213⟩ := hG
  exact zbl_b g26 g29 g22.1 g25 g212 C'.length 0 0 ([], fun _ => none) [] O' rfl (fun q hq => absurd hq List.not_mem_nil) (fun _ _ => Nat.zero_le _) (Nat.zero_le _) (fun e he => absurd he (Nat.not_lt_zero _)) (fun e _ _ => Nat.zero_le _) (Nat.zero_le _) (fun q hq => (by cases hq))
/-- form -/
theorem zm189 {s : zS} {C : List Int32} {E : List zE} {O : List (Nat × Nat)} {C' : List Int32} {F : List zE} {O' : List (Nat × Nat)} {S : Nat → Option Nat} (hG : zGe C E C' F O') (h6 : zf6 C E C' F = .inr S) (hSg : zSg C E S) (hM : zMd s C E O C' F O') (hN : zNa s C E S) :
    ∃ s', zf189 179 s = some s' ∧ zPm 3 s' (zbl (fun e => zpk (zLo C E S C' F e)) C' F O' C'.length 0 ([], fun _ => none)).1 ∧ (∀ q, q < 195 ∨ 203 < q → s' q = s q) ∧ ∀ i D, i ≠ 3 → zPm i s D → zPm i s' D := by
  have hb := zbl_90 (LO := fun e => zpk (zLo C E S C' F e)) hG
  obtain ⟨⟨g11, g12, g13, g14, g15, g16, g17, g18⟩, g21, g22, g23, g24, g25, g26, g27, g28, g29, g210, g211, g212, g213⟩ := hG
  have hpos : 0 < F.length := List.length_pos_iff.mpr g24
  have h30 := g22.1
  have hH : zHm C E C' F S := ⟨g21, g22, g13, g23, hSg, fun e f he h => zn2_n _ _ (zf6_y h6) e f (Nat.zero_le _) (by omega) h, g25⟩
  obtain ⟨s2, hs2⟩ : ∃ s2, s2 = zw (zw s 195 3 0) 201 3 0 := ⟨_, rfl⟩
  have f2 : ∀ q, q ≠ 195 → q ≠ 201 → s2 q = s q := fun q h1 h2 => by rw [hs2, zw_ne h2, zw_ne h1]
  have P2 : zPm 3 s2 [] := by
    refine ⟨?_, by decide, ?_, by decide, fun k hk => absurd hk (Nat.not_lt_zero _), fun j hj => absurd hj (Nat.not_lt_zero _)⟩
    · rw [hs2, zw_ne (by decide), zw_s]; rfl
    · rw [hs2, zw_s]; rfl
  have k2 : ∀ i D, i ≠ 3 → zPm i s D → zPm i s2 D := by
    intro i D hi hD
    refine zPm_f (i := 3) hD hi ⟨fun p hp => f2 p (by omega) (by omega), fun j hj => ⟨?_, ?_⟩, fun j _ => ⟨?_, ?_, ?_, ?_⟩, fun j _ => ?_, fun j _ => ?_⟩
    · rw [hs2, zw_ne (by decide), zw_o (Or.inr hj)]
    · rw [hs2, zw_o (Or.inr hj), zw_ne (by decide)]
    all_goals rw [f2 _ (by decide) (by decide)]
  have hbg0 := g211 0 hpos
  have k0 : zkd F 0 ≠ 120 := by
    rcases g25 0 hpos with ⟨_, _, z⟩ | ⟨j, z, _⟩
    · rw [z]; decide
    · omega
  have hps : zps C' F F.length 0 = (F.getD 0 (0, 0, 0, [])).2.1 := by
    obtain ⟨m, hm⟩ : ∃ m, F.length = m + 1 := ⟨F.length - 1, by omega⟩
    rw [hm, zps, if_neg k0]
  have ge0 : ∀ x, x < F.length → (F.getD 0 (0, 0, 0, [])).2.1 ≤ (F.getD x (0, 0, 0, [])).2.1 := by
    intro x hx
    by_cases q : x = 0
    · rw [q]; exact Nat.le_refl _
    · exact Nat.le_of_lt (g26 0 x (by omega) hx)
  have hid : zbl (fun e => zpk (zLo C E S C' F e)) C' F O' (zps C' F F.length 0) 0 ([], fun _ => none) = ([], fun _ => none) := by
    rw [hps]
    refine zbl_id _ _ _ (fun k x a b hz => ?_) (fun k a b => ?_)
    · obtain ⟨y1, y2⟩ := zea_s hz
      have := ge0 x y1
      omega
    · cases ho : zoO O' k with
      | none => rfl
      | some o =>
        have hm := zoO_m ho
        obtain ⟨w1, w2, w3⟩ := (g29.1 _ hm).1
        dsimp only at w1 w2
        obtain ⟨y1, y2⟩ := zpO_k g25 h30 o w1 (g28 _ hm)
        have := ge0 (zpO F o) (by omega)
        omega
  obtain ⟨s', c1, c2, c3, c4⟩ := zm189_l hH g210 g26 g27 g28 g29 g212 g211 hb F.length zfz 0 s2 ([], fun _ => none) (Nat.zero_add _) (by rw [zfz_e]; omega) (zMd_f hM (fun q a b => f2 q (by omega) (by omega))) (zNa_f hN (fun q a b => f2 q (by omega) (by omega))) P2 (fun x hx => absurd hx (Nat.not_lt_zero _)) (fun d hd => (by cases hd)) (fun x y q => (by cases q)) hid.symm (by rw [hps]; omega)
  refine ⟨s', ?_, c2, fun q hq => by rw [c3 q hq, f2 q (by omega) (by omega)], fun i D hi hD => c4 i D hi (k2 i D hi hD)⟩
  unfold zf189
  rw [show zrf 179 22 = 195 from rfl, show zrf 179 28 = 201 from rfl]
  have e0 : ∀ (t : zS) (c : zS → Option zS), zas t 195 3 0 c = c (zw t 195 3 0) := fun t c => zas_n (j := 3) (by decide)
  have e1 : ∀ (t : zS) (c : zS → Option zS), zas t 201 3 0 c = c (zw t 201 3 0) := fun t c => zas_n (j := 3) (by decide)
  rw [e0, e1, ← hs2]
  exact c1
/-- the copying into a slot -/
theorem zm152_l {i : Nat} {D : List zN} (hi : i < 3) : ∀ m n j (s : zS), j + m = D.length → m < n → zPm 3 s D → zPm i s (D.take j) →
    ∃ t s', zf152_72 179 n (nI i) (nI j) s = some (0, s') ∧ s' = zw t 179 31 0 ∧ zPm i t D ∧ zFm i s t := by
  intro m
  induction m with
  | zero =>
    intro n j s hj hn h3 hP
    obtain ⟨n, rfl⟩ : ∃ n', n = n' + 1 := ⟨n - 1, by omega⟩
    have e0 : ∀ (c : Int32 → Option (Int32 × zS)), zal s 195 3 c = c (s 195 3) := fun c => zal_n (j := 3) (by decide)
    have h100 := h3.2.1
    refine ⟨s, zw s 179 31 0, ?_, rfl, ?_, zFm_r⟩
    · rw [zf152_72, show zrf 179 22 = 195 from rfl, e0, h3.1, if_pos ((zn_le (by omega) (by omega)).mpr (by omega)), zpb_0]
    · rw [List.take_of_length_le (by omega)] at hP
      exact hP
  | succ m ih =>
    intro n j s hj hn h3 hP
    obtain ⟨n, rfl⟩ : ∃ n', n = n' + 1 := ⟨n - 1, by omega⟩
    have e0 : ∀ (c : Int32 → Option (Int32 × zS)), zal s 195 3 c = c (s 195 3) := fun c => zal_n (j := 3) (by decide)
    have hjl : j < D.length := by omega
    have h100 := h3.2.1
    have h700 := h3.2.2.2.1
    have hof := zof_le hjl
    have k1 : s 197 (300 + j) = zoi (zno D j).2.1 := (h3.2.2.2.2.2 j hjl).2.1
    obtain ⟨s1, a1, a2, a3⟩ := zm198 (i := i) (f := 3) (j := j) (a := (zno D j).2.1) (by omega) (by decide) (by omega) hP (by rw [List.length_take]; omega) h3 hjl (by show zof D j + _ ≤ 700; omega)
    have e2 : D.take j ++ [((zno D j).1, (zno D j).2.1, (zno D j).2.2.1, (zno D j).2.2.2)] = D.take (j + 1) := by
      rw [List.take_succ_eq_append_getElem hjl, zno_e hjl]
    rw [e2] at a2
    obtain ⟨t, s', b1, b2, b3, b4⟩ := ih n (j + 1) s1 (by omega) (by omega) (zPm_f h3 (by omega) a3) a2
    refine ⟨t, s', ?_, b2, b3, zFm_t a3 b4⟩
    have a1' : zf198 179 (nI i) 3 (nI j) (zoi (zno D j).2.1) s = some s1 := a1
    rw [zf152_72, show zrf 179 22 = 195 from rfl, e0, h3.1, if_neg (fun q => by have := (zn_le (by omega) (by omega)).mp q; omega), show zrf 179 24 = 197 from rfl, show (300 : Int32) + nI j = nI (300 + j) by rw [zn_lit 300, zn_add], zal_n (by show 300 + j < 400; omega), k1, a1', zbv_e, zn_a1]
    exact b1
/-- what stays when the model reads; i: the slot that may change -/
def zFk (i : Nat) (s s' : zS) : Prop := (∀ q, q < 179 ∨ 203 < q ∨ q = 180 → s' q = s q) ∧ (∀ f, f ≠ 0 → f ≠ 3 → f < 15 ∨ 18 < f → f ≠ 31 → s' 179 f = s 179 f) ∧ ∀ j D, j ≠ i → j ≠ 3 → zPm j s D → zPm j s' D
theorem zFk_t {i : Nat} {s s1 s2 : zS} (h1 : zFk i s s1) (h2 : zFk i s1 s2) : zFk i s s2 := ⟨fun q h => (h2.1 q h).trans (h1.1 q h), fun f a b c d => (h2.2.1 f a b c d).trans (h1.2.1 f a b c d), fun j D a b h => h2.2.2 j D a b (h1.2.2 j D a b h)⟩
theorem zFk_w {f : Nat} {x : Int32} {i : Nat} {s : zS} (h : f = 0 ∨ f = 3 ∨ f = 31) : zFk i s (zw s 179 f x) := ⟨fun q hq => zw_ne (by omega), fun g a b c d => zw_o (Or.inr (by omega)), fun j D a b hP => zPm_e hP (fun q _ _ => zw_ne (by omega))⟩
theorem zFk_f {i : Nat} {s s' : zS} (h : zFt s s') : zFk i s s' := ⟨fun q hq => h.1 q (by omega) (by omega), fun f a b c d => h.2 f b c, fun j D a b hP => zPm_e hP (fun q c d => h.1 q (by omega) (by omega))⟩
theorem zFk_3 {i : Nat} {s s' : zS} (h : zFk 3 s s') : zFk i s s' := ⟨h.1, h.2.1, fun j D a b hP => h.2.2 j D b b hP⟩
/-- read, from the text's letters on -/
theorem zm173 {s : zS} {C : List Int32} {E : List zE} {O : List (Nat × Nat)} {C' : List Int32} {F : List zE} {O' : List (Nat × Nat)} (hM : zMd s C E O C' F O') (hb : zEb E) (hb' : zEb F) (hl : C.length ≤ 300) (hl' : C'.length ≤ 300) (hp : zpar C 400 0 [] [] [] = .inr (E, O)) (hp' : zpar C' 400 0 [] [] [] = .inr (F, O')) :
    (∀ k p, (match zff C E O 116 E.length 0 with
        | some f => (.inl (5, f) : (Nat × Nat) ⊕ List zN)
        | none => match zff C' F O' 100 F.length 0 with
          | some f => .inl (5, 1000 + f)
          | none => match zf6 C E C' F with
            | .inl f => .inl (6, f)
            | .inr S => if (zbl (fun e => zpk (zLo C E S C' F e)) C' F O' C'.length 0 ([], fun _ => none)).1.length ≤ 40 then .inr (zbl (fun e => zpk (zLo C E S C' F e)) C' F O' C'.length 0 ([], fun _ => none)).1 else .inl (7, 0)) = .inl (k, p) → ∃ s', zf173 179 s = some (nI k, s') ∧ s' 179 3 = nI p ∧ 1 ≤ k ∧ k ≤ 7 ∧ zFk 3 s s' ∧ s' 179 31 = s 179 31 ∧ s' 179 0 = s 179 0) ∧
      (∀ D, (match zff C E O 116 E.length 0 with
        | some f => (.inl (5, f) : (Nat × Nat) ⊕ List zN)
        | none => match zff C' F O' 100 F.length 0 with
          | some f => .inl (5, 1000 + f)
          | none => match zf6 C E C' F with
            | .inl f => .inl (6, f)
            | .inr S => if (zbl (fun e => zpk (zLo C E S C' F e)) C' F O' C'.length 0 ([], fun _ => none)).1.length ≤ 40 then .inr (zbl (fun e => zpk (zLo C E S C' F e)) C' F O' C'.length 0 ([], fun _ => none)).1 else .inl (7, 0)) = .inr D → ∃ s', zf173 179 s = some (0, s') ∧ s' 179 3 = s 179 3 ∧ zPm 3 s' D ∧ zFk 3 s s' ∧ s' 179 31 = s 179 31 ∧ s' 179 0 = s 179 0) := by
  obtain ⟨o1, o2, _, _⟩ := zpar_ok hl 400 0 [] [] [] E O (fun e he => absurd he (Nat.not_lt_zero _)) (fun e he => absurd he List.not_mem_nil) (fun _ => rfl) (fun q hq => absurd hq List.not_mem_nil) (fun e e' _ he => absurd he (Nat.not_lt_zero _)) (fun e he => absurd he (Nat.not_lt_zero _)) hp
  obtain ⟨p1, p2, _, _⟩ := zpar_ok hl' 400 0 [] [] [] F O' (fun e he => absurd he (Nat.not_lt_zero _)) (fun e he => absurd he List.not_mem_nil) (fun _ => rfl) (fun q hq => absurd hq List.not_mem_nil) (fun e e' _ he => absurd he (Nat.not_lt_zero _)) (fun e he => absurd he (Nat.not_lt_zero _)) hp'
  obtain ⟨t1, t2⟩ := z174 (p := 0) (by decide) hM.1 hM.2.2.1 hb o1 o2
  obtain ⟨u1, u2⟩ := z174 (p := 1) (by decide) hM.2.1 hM.2.2.2 hb' p1 p2
  rw [if_pos rfl] at t1 t2
  rw [if_neg (show ¬ (1 : Nat) = 0 by decide)] at u1 u2
  have ex : ∀ (k : Nat) (t : zS), k ≠ 0 → k < 100 → zf173_58 179 (nI k) t = some (nI k, t) := by
    intro k t h1 h2
    unfold zf173_58
    rw [if_pos (show ¬ nI k = 0 from fun q => h1 ((zn_eq (a := k) (b := 0) (by omega) (by decide)).mp q))]
  have ex5 : ∀ (t : zS), zf173_19 179 5 t = some (5, t) := by
    intro t
    unfold zf173_19
    rw [if_pos (show ¬ (5 : Int32) = 0 by decide)]
    exact ex 5 t (by decide) (by decide)
  cases hf : zff C E O 116 E.length 0 with
  | some f =>
    have h1 : zf174 179 0 s = some (5, zw s 179 3 (nI (1000 * 0 + f))) := t2 f hf
    refine ⟨fun k p h => ?_, fun D h => (by cases h)⟩
    cases h
    refine ⟨zw s 179 3 (nI f), ?_, zw_s, by decide, by decide, zFk_w (by omega), zw_o (Or.inr (by decide)), zw_o (Or.inr (by decide))⟩
    unfold zf173
    rw [h1, zbi_e, if_pos (show ¬ (5 : Int32) = 0 by decide), ex5, Nat.mul_zero, Nat.zero_add]
    rfl
  | none =>
    have h1 : zf174 179 0 s = some (0, s) := (t1 hf).1
    have e1 : zf173 179 s = zbi (zf174 179 1 s) (fun v3 s4 => zf173_19 179 v3 s4) := by
      unfold zf173
      rw [h1, zbi_e, if_neg (show ¬ ¬ (0 : Int32) = 0 from fun q => q rfl)]
    dsimp only
    rw [e1]
    cases hf' : zff C' F O' 100 F.length 0 with
    | some f =>
      have h2 : zf174 179 1 s = some (5, zw s 179 3 (nI (1000 * 1 + f))) := u2 f hf'
      refine ⟨fun k p h => ?_, fun D h => (by cases h)⟩
      cases h
      refine ⟨zw s 179 3 (nI (1000 + f)), ?_, zw_s, by decide, by decide, zFk_w (by omega), zw_o (Or.inr (by decide)), zw_o (Or.inr (by decide))⟩
      rw [h2, zbi_e, ex5, Nat.mul_one]
      rfl
    | none =>
      have h2 : zf174 179 1 s = some (0, s) := (u1 hf').1
      dsimp only
      rw [h2, zbi_e]
      have hG := zGe_of hl hl' hb hb' hp hp' hf hf'
      obtain ⟨⟨g11, g12, g13, g14, g15, g16, g17, g18⟩, g21, g22, g23, g24, g25, g26, g27, g28, g29, g210, g211, g212, g213⟩ := id hG
      obtain ⟨s1, a1, a2, a3⟩ := zm184 hM g11 g12 g13 g21 g22 g23 g14 g15 g16 (fun e he => by have := g18 e he; omega) (fun e he => by have := g211 e he; omega)
      have F1 : zFk 3 s s1 := ⟨fun q hq => a1 q (by omega), fun f _ _ _ _ => by rw [a1 179 (by omega)], fun j D _ _ hP => zPm_e hP (fun q _ _ => a1 q (by omega))⟩
      cases h6 : zf6 C E C' F with
      | inl f =>
        refine ⟨fun k p h => ?_, fun D h => (by cases h)⟩
        cases h
        refine ⟨zw s1 179 3 (nI f), ?_, zw_s, by decide, by decide, zFk_t F1 (zFk_w (by omega)), by rw [zw_o (Or.inr (by decide)), a1 179 (by omega)], by rw [zw_o (Or.inr (by decide)), a1 179 (by omega)]⟩
        rw [(a2 f h6).1]
        exact ex 6 _ (by decide) (by decide)
      | inr S =>
        obtain ⟨a4, a5, a6⟩ := a3 S h6
        obtain ⟨s2, b1, b2, b3, b4⟩ := zm189 hG h6 a6 (zMd_f hM (fun q a b => a1 q (by omega))) a5
        have F2 : zFk 3 s s2 := zFk_t F1 ⟨fun q hq => b3 q (by omega), fun f _ _ _ _ => by rw [b3 179 (by omega)], fun j D hj _ hP => b4 j D hj hP⟩
        have k179 : s2 179 = s 179 := by rw [b3 179 (by omega), a1 179 (by omega)]
        have e0 : ∀ (c : Int32 → Option (Int32 × zS)), zal s2 195 3 c = c (s2 195 3) := fun c => zal_n (j := 3) (by decide)
        have h100 := b2.2.1
        have e2 : zf173_58 179 0 s1 = if nI (zbl (fun e => zpk (zLo C E S C' F e)) C' F O' C'.length 0 ([], fun _ => none)).1.length ≤ 40 then some (0, s2) else some (7, zw s2 179 3 0) := by
          unfold zf173_58
          rw [if_neg (show ¬ ¬ (0 : Int32) = 0 from fun q => q rfl), b1, zbv_e, show zrf 179 22 = 195 from rfl, e0, b2.1, z158, zbi_e]
        have e40 : nI (zbl (fun e => zpk (zLo C E S C' F e)) C' F O' C'.length 0 ([], fun _ => none)).1.length ≤ (40 : Int32) ↔ (zbl (fun e => zpk (zLo C E S C' F e)) C' F O' C'.length 0 ([], fun _ => none)).1.length ≤ 40 := zn_le (b := 40) (by omega) (by decide)
        dsimp only
        rw [a4, e2]
        by_cases g40 : (zbl (fun e => zpk (zLo C E S C' F e)) C' F O' C'.length 0 ([], fun _ => none)).1.length ≤ 40
        · rw [if_pos g40, if_pos (e40.mpr g40)]
          refine ⟨fun k p h => (by cases h), fun D h => ?_⟩
          cases h
          exact ⟨s2, rfl, by rw [k179], b2, F2, by rw [k179], by rw [k179]⟩
        · rw [if_neg g40, if_neg (fun q => g40 (e40.mp q))]
          refine ⟨fun k p h => ?_, fun D h => (by cases h)⟩
          cases h
          exact ⟨zw s2 179 3 0, rfl, zw_s, by decide, by decide, zFk_t F2 (zFk_w (by omega)), by rw [zw_o (Or.inr (by decide)), k179], by rw [zw_o (Or.inr (by decide)), k179]⟩
theorem ztf_k {T : List Int32} {k p : Nat} (h : ztf T = .inl (k, p)) : 1 ≤ k ∧ k ≤ 4 := by
  unfold ztf at h
  split at h
  · cases h; decide
  · split at h
    · cases h; decide
    · split at h
      · split at h
        · cases h; decide
        · split at h
          · split at h
            · cases h; decide
            · split at h
              · cases h; decide
              · cases h
          · cases h; decide
      · cases h; decide
/-- read of the model -/
theorem zm152 {s : zS} {T : List Int32} {i : Nat} (hi : i < 2) (hM : zMtx s T) (hL : zLt T) (hb : ∀ C C' X X', ztf T = .inr (C, C', X, X') → zEb X.1 ∧ zEb X'.1 ∧ C.length ≤ 300 ∧ C'.length ≤ 300 ∧ zLt C') :
    (∀ k p, zrd T = .inl (k, p) → ∃ s', zf152 179 (nI i) s = some (nI k, s') ∧ s' 179 0 = 0 ∧ s' 179 3 = nI p ∧ zFk 3 s s' ∧ s' 179 31 = s 179 31) ∧
    (∀ D, zrd T = .inr D → ∃ s', zf152 179 (nI i) s = some (0, s') ∧ s' 179 0 = 0 ∧ s' 179 3 = -1 ∧ s' 179 31 = 0 ∧ zPm i s' D ∧ zFk i s s') := by
  obtain ⟨s1, hs1⟩ : ∃ s1, s1 = zw (zw s 179 0 0) 179 3 (-1) := ⟨_, rfl⟩
  have F1 : zFk 3 s s1 := by rw [hs1]; exact zFk_t (zFk_w (by omega)) (zFk_w (by omega))
  have k31 : s1 179 31 = s 179 31 := by rw [hs1, zw_o (Or.inr (by decide)), zw_o (Or.inr (by decide))]
  have k0 : s1 179 0 = 0 := by rw [hs1, zw_o (Or.inr (by decide)), zw_s]
  have k3 : s1 179 3 = -1 := by rw [hs1, zw_s]
  have M1 : zMtx s1 T := by
    rw [hs1]
    unfold zMtx at hM ⊢
    rw [zw_ne (q := 180) (by decide), zw_ne (q := 180) (by decide), zw_o (Or.inr (by decide)), zw_o (Or.inr (by decide))]
    exact hM
  have e0 : zf152 179 (nI i) s = zbi (zf153 179 s1) (fun v4 s5 => if ¬ v4 = 0 then zf152_49 179 (nI i) v4 s5 else zbi (zf173 179 s5) (fun v6 s7 => zf152_49 179 (nI i) v6 s7)) := by
    have e1 : zf152_15 179 (nI i) 0 s = zbi (zf153 179 s1) (fun v4 s5 => if ¬ v4 = 0 then zf152_49 179 (nI i) v4 s5 else zbi (zf173 179 s5) (fun v6 s7 => zf152_49 179 (nI i) v6 s7)) := by
      unfold zf152_15
      rw [zpf_e, zgf_e, zw_s, if_pos (show (0 : Int32) ≤ 0 by decide), zpf_e, ← hs1]
    rw [← e1]
    unfold zf152
    have : i = 0 ∨ i = 1 := by omega
    rcases this with rfl | rfl
    · rw [if_pos (show nI 0 = 0 from rfl)]
    · rw [if_neg (show ¬ nI 1 = 0 by decide), if_neg (show ¬ ¬ nI 1 = 1 from fun q => q rfl)]
  have ex : ∀ (k : Nat) (t : zS), 1 ≤ k → k < 100 → zf152_49 179 (nI i) (nI k) t = some (nI k, t) := by
    intro k t h1 h2
    unfold zf152_49
    rw [if_neg (fun q => by have := (zn_le (a := k) (b := 0) (by omega) (by decide)).mp q; omega)]
  obtain ⟨a1, a2⟩ := zm153 M1 hL
  rw [e0]
  unfold zrd
  cases ht : ztf T with
  | inl f =>
    refine ⟨fun k p h => ?_, fun D h => (by cases h)⟩
    cases h
    obtain ⟨s', b1, b2, b3⟩ := a1 k p ht
    have hk := ztf_k ht
    refine ⟨s', ?_, by rw [b3.2 0 (by decide) (by decide), k0], b2, zFk_t F1 (zFk_f b3), by rw [b3.2 31 (by decide) (by decide), k31]⟩
    rw [b1, zbi_e, if_pos (show ¬ nI k = 0 from fun q => by have := (zn_eq (a := k) (b := 0) (by omega) (by decide)).mp q; omega), ex k s' (by omega) (by omega)]
  | inr R =>
    obtain ⟨C, C', ⟨E, O⟩, ⟨F, O'⟩⟩ := R
    obtain ⟨s2, b1, b2, b3, b4, b5, b6, b7⟩ := a2 _ _ _ _ ht
    obtain ⟨c1, c2, c3, c4, c5⟩ := hb _ _ _ _ ht
    obtain ⟨hp, hp'⟩ := ztf_p ht
    obtain ⟨d1, d2⟩ := zm173 ⟨b4, b5, b6, b7⟩ c1 c2 c3 c4 hp hp'
    have F2 : zFk 3 s s2 := zFk_t F1 (zFk_f b2)
    dsimp only
    rw [b1, zbi_e, if_neg (show ¬ ¬ (0 : Int32) = 0 from fun q => q rfl)]
    refine ⟨fun k p h => ?_, fun D h => ?_⟩
    · obtain ⟨s3, e1, e2, e3, e4, e5, e6, e7⟩ := d1 k p h
      refine ⟨s3, ?_, by rw [e7, b2.2 0 (by decide) (by decide), k0], e2, zFk_t F2 e5, by rw [e6, b2.2 31 (by decide) (by decide), k31]⟩
      rw [e1, zbi_e, ex k s3 e3 (by omega)]
    · obtain ⟨s3, e1, e2, e3, e4, e5, e6⟩ := d2 D h
      obtain ⟨s5, hs5⟩ : ∃ s5, s5 = zw (zw s3 195 i 0) 201 i 0 := ⟨_, rfl⟩
      have f5 : ∀ q, q ≠ 195 → q ≠ 201 → s5 q = s3 q := fun q h1 h2 => by rw [hs5, zw_ne h2, zw_ne h1]
      have P5 : zPm i s5 [] := by
        refine ⟨?_, by decide, ?_, by decide, fun k hk => absurd hk (Nat.not_lt_zero _), fun j hj => absurd hj (Nat.not_lt_zero _)⟩
        · rw [hs5, zw_ne (by decide), zw_s]; rfl
        · rw [hs5, zw_s]; rfl
      have m5 : zFm i s3 s5 := by
        refine ⟨fun p hp => f5 p (by omega) (by omega), fun j hj => ⟨?_, ?_⟩, fun j _ => ⟨?_, ?_, ?_, ?_⟩, fun j _ => ?_, fun j _ => ?_⟩
        · rw [hs5, zw_ne (by decide), zw_o (Or.inr hj)]
        · rw [hs5, zw_o (Or.inr hj), zw_ne (by decide)]
        all_goals rw [f5 _ (by decide) (by decide)]
      obtain ⟨t, s', w1, w2, w3, w4⟩ := zm152_l (i := i) (D := D) (by omega) D.length zfz 0 s5 (Nat.zero_add _) (by have := e3.2.1; rw [zfz_e]; omega) (zPm_f e3 (by omega) m5) P5
      have mt : zFm i s3 t := zFm_t m5 w4
      have F3 : zFk i s s' := zFk_t (zFk_t (zFk_3 (zFk_t F2 e4)) ⟨fun q hq => mt.1 q (by omega), fun f _ _ _ _ => by rw [mt.1 179 (by omega)], fun j D hj _ hP => zPm_f hP hj mt⟩) (by rw [w2]; exact zFk_w (by omega))
      have k179 : t 179 = s3 179 := mt.1 179 (by omega)
      refine ⟨s', ?_, ?_, ?_, by rw [w2, zw_s], by rw [w2]; exact zPm_e w3 (fun q _ _ => zw_ne (by omega)), F3⟩
      · rw [e1, zbi_e]
        unfold zf152_49
        rw [if_pos (show (0 : Int32) ≤ 0 by decide), show zrf 179 22 = 195 from rfl, show zrf 179 28 = 201 from rfl, zas_n (by show i < 4; omega), zas_n (by show i < 4; omega), ← hs5]
        exact w1
      · rw [w2, zw_o (Or.inr (by decide)), k179, e6, b2.2 0 (by decide) (by decide), k0]
      · rw [w2, zw_o (Or.inr (by decide)), k179, e2, b3, k3]
