/-! read, the elements on the model's side: the scan. -/
set_option maxRecDepth 100000
set_option linter.unusedVariables false
theorem zpf_e {R : Type} {s : zS} {k f : Nat} {x : Int32} {c : zS → Option R} : zpf s k f x c = c (zw s k f x) := rfl
theorem zgf_e {R : Type} {s : zS} {k f : Nat} {c : Int32 → Option R} : zgf s k f c = c (s k f) := rfl
theorem zbi_e {R : Type} {v : Int32} {s : zS} {c : Int32 → zS → Option R} : zbi (some (v, s)) c = c v s := rfl
theorem zbv_e {R : Type} {s : zS} {c : zS → Option R} : zbv (some s) c = c s := rfl
theorem zpb_1 {R : Type} {s : zS} {k f : Nat} {c : zS → Option R} : zpb s k f 1 c = c (zw s k f 1) := by
  unfold zpb
  exact if_pos (Or.inr rfl)
theorem zm164_f {p : Nat} (hp : p < 2) : ∀ m i n (s : zS), i + m = 300 → m < n → ∃ s', zf164_24 179 n (nI p) (nI i) s = zf164_50 179 zfz (nI p) s' ∧ (∀ j, j < i → s' 190 (300 * p + j) = s 190 (300 * p + j)) ∧ (∀ j, i ≤ j → j < 300 → s' 190 (300 * p + j) = -1) ∧ (∀ q, q ≠ 190 → s' q = s q) ∧ zFz p s s' := by
  intro m
  induction m with
  | zero =>
    intro i n s hi hn
    obtain ⟨n, rfl⟩ : ∃ n', n = n' + 1 := ⟨n - 1, by omega⟩
    refine ⟨s, ?_, fun _ _ => rfl, fun j h1 h2 => by omega, fun _ _ => rfl, zFz_r ⟨fun _ _ => rfl, fun _ _ _ => rfl⟩⟩
    rw [zf164_24, if_pos ((zn_geL (k := 300) (by omega) (by decide)).mpr (by omega))]
  | succ m ih =>
    intro i n s hi hn
    obtain ⟨n, rfl⟩ : ∃ n', n = n' + 1 := ⟨n - 1, by omega⟩
    obtain ⟨s', h1, h2, h3, h4, h5⟩ := ih (i + 1) n (zw s 190 (300 * p + i) (-1)) (by omega) (by omega)
    refine ⟨s', ?_, fun j hj => ?_, fun j j1 j2 => ?_, fun q hq => ?_, zFz_t (zFz_w (by omega)) h5⟩
    · rw [zf164_24, if_neg (fun q => by have := (zn_geL (k := 300) (by omega) (by decide)).mp q; omega), show zrf 179 13 = 190 from rfl, zn_300, zas_n (by show _ < 600; omega), zn_a1]
      exact h1
    · rw [h2 j (by omega), zw_o (Or.inr (by omega))]
    · by_cases e : j = i
      · rw [h2 j (by omega), e, zw_s]
      · exact h3 j (by omega) j2
    · rw [h4 q hq, zw_ne hq]
theorem zm164 {p : Nat} {C : List Int32} {s : zS} (hp : p < 2) (h : zMs p s C) :
    (∀ f, zpar C 400 0 [] [] [] = .inl f → ∃ s', zf164 179 (nI p) s = some (nI f, s') ∧ zFz p s s') ∧
    (∀ E O, zpar C 400 0 [] [] [] = .inr (E, O) → ∃ s', zf164 179 (nI p) s = some (-1, s') ∧ zFz p s s' ∧ zMz p s' E O) := by
  have hl := h.1.1
  obtain ⟨s4, hs4⟩ : ∃ s4, s4 = zw (zw (zw (zw s 186 p 0) 179 15 0) 179 16 0) 179 17 1 := ⟨_, rfl⟩
  have z4 : zFz p s s4 := by rw [hs4]; exact zFz_t zFz_e (zFz_t (zFz_o (by decide) (by decide)) (zFz_t (zFz_o (by decide) (by decide)) (zFz_o (by decide) (by decide))))
  obtain ⟨s5, h1, h2, h3, h4, h5⟩ := zm164_f hp 300 0 zfz s4 rfl (by rw [zfz_e]; decide)
  have z5 : zFz p s s5 := zFz_t z4 h5
  have e0 : zf164 179 (nI p) s = zf164_50 179 zfz (nI p) s5 := by
    unfold zf164
    rw [show zrf 179 9 = 186 from rfl, zas_n (by show p < 2; omega)]
    rw [zpf_e, zpf_e, zpb_1, ← hs4]
    exact h1
  have k5 : s5 179 = s4 179 := h4 179 (by decide)
  have a15 : s5 179 15 = nI 0 := by rw [k5, hs4, zw_o (Or.inr (by decide)), zw_o (Or.inr (by decide)), zw_s]; rfl
  have a16 : s5 179 16 = nI 0 := by rw [k5, hs4, zw_o (Or.inr (by decide)), zw_s]; rfl
  have a17 : s5 179 17 = 1 := by rw [k5, hs4, zw_s]
  have a186 : s5 186 p = nI 0 := by rw [h4 186 (by decide), hs4, zw_ne (by decide), zw_ne (by decide), zw_ne (by decide), zw_s]; rfl
  rw [e0]
  obtain ⟨i1, i2⟩ := zm164_l (C := C) hp 400 zfz 0 s5 [] [] [] (by rw [zfz_e]; decide) (by omega) (Nat.zero_le _) (zMs_z z5 h) ⟨⟨a186, Nat.zero_le _, fun e he => absurd he (Nat.not_lt_zero _)⟩, fun j hj => h3 j (Nat.zero_le _) hj⟩ a16 a17 a15 (Nat.zero_le _) trivial (fun _ => rfl) (fun e he => absurd he List.not_mem_nil) (fun q hq => absurd hq List.not_mem_nil)
  refine ⟨fun f hf => ?_, fun E O hh => ?_⟩
  · obtain ⟨s', w1, w2⟩ := i1 f hf
    exact ⟨s', w1, zFz_t z5 w2⟩
  · obtain ⟨s', w1, w2, w3⟩ := i2 E O hh
    exact ⟨s', w1, zFz_t z5 w2, w3⟩
/-! The text's faults on the model's side (textFault). -/
/-- what the model does with a text before its elements' rules: the fault and its place, or contents and elements -/
def ztf (T : List Int32) : (Nat × Nat) ⊕ (List Int32 × List Int32 × (List zE × List (Nat × Nat)) × (List zE × List (Nat × Nat))) :=
  match zol T with
  | .inl p => .inl (1, p)
  | .inr (b, c, b', c') => match zup T b (5 + c) (5 + c) 5 [] with
    | .inl p => .inl (2, p)
    | .inr C => if zcO T (5 + c) (zcr 65535 C) = true then (match zup T b' (5 + c + 4 + 5 + c') (5 + c + 4 + 5 + c') (5 + c + 4 + 5) [] with
      | .inl p => .inl (2, p)
      | .inr C' => if zcO T (5 + c + 4 + 5 + c') (zcr 65535 C') = true then (match zpar C 400 0 [] [] [] with
        | .inl p => .inl (4, p)
        | .inr X => match zpar C' 400 0 [] [] [] with
          | .inl p => .inl (4, 1000 + p)
          | .inr X' => .inr (C, C', X, X')) else .inl (3, 5 + c + 4 + 5 + c')) else .inl (3, 5 + c)
