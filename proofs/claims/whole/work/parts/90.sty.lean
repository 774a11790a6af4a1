/-! Styles, on the class's side: names, faults. -/
set_option maxRecDepth 100000
set_option linter.unusedVariables false
def znm (C : List Int32) (E : List zE) (l : Int32) (e : Nat) : Option Nat := zcn C l (E.getD e (0, 0, 0, [])).2.2.2
def znu (C : List Int32) (E : List zE) (l : Int32) (e : Nat) : Option Nat := znb C l (E.getD e (0, 0, 0, [])).2.2.2
/-- the names told: the first that is told again, or who has which -/
def zn1 (C : List Int32) (E : List zE) : Nat → Nat → (Nat → Option Nat) → Nat ⊕ (Nat → Option Nat)
  | 0, _, S => .inr S
  | m + 1, e, S => match znm C E 110 e with
    | none => zn1 C E m (e + 1) S
    | some n => match S n with
      | some _ => .inl e
      | none => zn1 C E m (e + 1) (fun x => if x = n then some e else S x)
/-- the first that speaks of a name that nobody has -/
def zn2 (C : List Int32) (E : List zE) (l : Int32) (S : Nat → Option Nat) : Nat → Nat → Option Nat
  | 0, _ => none
  | m + 1, e => match znm C E l e with
    | none => zn2 C E l S m (e + 1)
    | some f => match S f with
      | none => some e
      | some _ => zn2 C E l S m (e + 1)
def zpr (C : List Int32) (E : List zE) (S : Nat → Option Nat) (e : Nat) : Option Nat := (znm C E 102 e).bind S
def zit (C : List Int32) (E : List zE) (S : Nat → Option Nat) : Nat → Option Nat → Option Nat
  | 0, o => o
  | _ + 1, none => none
  | k + 1, some e => zit C E S k (zpr C E S e)
/-- the first without an end -/
def zn3 (C : List Int32) (E : List zE) (S : Nat → Option Nat) (K : Nat) : Nat → Nat → Option Nat
  | 0, _ => none
  | m + 1, e => match zit C E S K (some e) with
    | none => zn3 C E S K m (e + 1)
    | some _ => some e
/-- what the faults 6 are -/
def zf6 (C : List Int32) (E : List zE) (C' : List Int32) (E' : List zE) : Nat ⊕ (Nat → Option Nat) :=
  match zn1 C E (E.length - 1) 1 (fun _ => none) with
  | .inl e => .inl (E.getD e (0, 0, 0, [])).2.1
  | .inr S => match zn2 C E 102 S E.length 0 with
    | some e => .inl (E.getD e (0, 0, 0, [])).2.1
    | none => match zn3 C E S 26 (E.length - 1) 1 with
      | some e => .inl (E.getD e (0, 0, 0, [])).2.1
      | none => match zn2 C' E' 121 S E'.length 0 with
        | some e => .inl (1000 + (E'.getD e (0, 0, 0, [])).2.1)
        | none => .inr S
/-- the class's elements -/
def zCs (s : zS) (C : List Int32) (E : List zE) (O : List (Nat × Nat)) (C' : List Int32) (E' : List zE) (O' : List (Nat × Nat)) : Prop := zRow 38 s C ∧ zRow 41 s C' ∧ zPz 43 s E O ∧ zPz 52 s E' O'
theorem zRow_f {r : Nat} {s s' : zS} {T : List Int32} (h : zRow r s T) (h1 : s' r = s r) (h2 : s' (zrf r 0) = s (zrf r 0)) : zRow r s' T := by
  unfold zRow
  rw [h1, h2]
  exact h
theorem zPz_f {a : Nat} {s s' : zS} {E : List zE} {O : List (Nat × Nat)} (h : zPz a s E O) (h1 : ∀ q, a ≤ q → q ≤ a + 8 → s' q = s q) : zPz a s' E O := by
  unfold zPz zEl zEl1
  rw [h1 a (Nat.le_refl _) (by omega), h1 (a + 1) (by omega) (by omega), h1 (a + 2) (by omega) (by omega), h1 (a + 3) (by omega) (by omega), h1 (a + 4) (by omega) (by omega), h1 (a + 5) (by omega) (by omega), h1 (a + 6) (by omega) (by omega), h1 (a + 7) (by omega) (by omega), h1 (a + 8) (by omega) (by omega)]
  exact h
theorem zCs_f {s s' : zS} {C : List Int32} {E : List zE} {O : List (Nat × Nat)} {C' : List Int32} {E' : List zE} {O' : List (Nat × Nat)} (h : zCs s C E O C' E' O') (h1 : ∀ q, 38 ≤ q → q ≤ 60 → s' q = s q) : zCs s' C E O C' E' O' :=
  ⟨zRow_f h.1 (h1 _ (by decide) (by decide)) (h1 39 (by decide) (by decide)), zRow_f h.2.1 (h1 _ (by decide) (by decide)) (h1 42 (by decide) (by decide)), zPz_f h.2.2.1 (fun q a b => h1 q (by omega) (by omega)), zPz_f h.2.2.2 (fun q a b => h1 q (by omega) (by omega))⟩
/-- all attributes of all elements may stand there -/
def zgA (C : List Int32) (E : List zE) : Prop := ∀ e, e < E.length → zga C (zkd E e) (E.getD e (0, 0, 0, [])).2.2.2
theorem zoi_m {o : Option Nat} (h : ∀ f, o = some f → f < 2000000) : (zoi o = -1 ↔ o = none) := by
  cases o with
  | none => exact ⟨fun _ => rfl, fun _ => rfl⟩
  | some f => exact ⟨fun q => absurd q (zn_nm (by have := h f rfl; omega)), fun q => (by cases q)⟩
theorem znm_b {C : List Int32} {E : List zE} {l : Int32} {e n : Nat} (hg : zgA C E) (he : e < E.length) (hl : l = 110 ∨ l = 102 ∨ l = 121) (h : znm C E l e = some n) : n < 26 := (zcn_b (hg e he) hl h).1
theorem z63a {s : zS} {C : List Int32} {E : List zE} {O : List (Nat × Nat)} {C' : List Int32} {E' : List zE} {O' : List (Nat × Nat)} {l : Int32} {e : Nat} (h : zCs s C E O C' E' O') (hg : zgA C E) (he : e < E.length) (hl : l = 110 ∨ l = 102 ∨ l = 121) : zf63 43 (nI e) l s = some (zoi (znm C E l e), s) :=
  z63 (Or.inl ⟨rfl, rfl⟩) h.1 h.2.2.1.1 h.2.2.1.2.1 he (hg e he) hl
theorem z63b {s : zS} {C : List Int32} {E : List zE} {O : List (Nat × Nat)} {C' : List Int32} {E' : List zE} {O' : List (Nat × Nat)} {l : Int32} {e : Nat} (h : zCs s C E O C' E' O') (hg : zgA C' E') (he : e < E'.length) (hl : l = 110 ∨ l = 102 ∨ l = 121) : zf63 52 (nI e) l s = some (zoi (znm C' E' l e), s) :=
  z63 (Or.inr ⟨rfl, rfl⟩) h.2.1 h.2.2.2.1 h.2.2.2.2.1 he (hg e he) hl
def zSt (s : zS) (S : Nat → Option Nat) : Prop := ∀ n, n < 26 → s 62 n = zoi (S n)
def zSb (E : List zE) (S : Nat → Option Nat) : Prop := ∀ n e, S n = some e → e < E.length
theorem z62_l {C : List Int32} {E : List zE} {O : List (Nat × Nat)} {C' : List Int32} {E' : List zE} {O' : List (Nat × Nat)} (hg : zgA C E) : ∀ m n e (s : zS) S, e + m = E.length → m < n → zCs s C E O C' E' O' → zSt s S → zSb E S → ∃ s', (∀ q, q ≠ 62 → s' q = s q) ∧ (∀ f, zn1 C E m e S = .inl f → zf62_10 61 n (nI e) s = some (nI f, s') ∧ f < E.length) ∧ (∀ S', zn1 C E m e S = .inr S' → zf62_10 61 n (nI e) s = some (-1, s') ∧ zSt s' S' ∧ zSb E S') := by
  intro m
  induction m with
  | zero =>
    intro n e s S hi hn hC hS hb
    obtain ⟨n, rfl⟩ : ∃ n', n = n' + 1 := ⟨n - 1, by omega⟩
    have h30 := hC.2.2.1.2.1.1
    refine ⟨s, fun _ _ => rfl, fun f q => (by cases q), fun S' q => ?_⟩
    cases q
    rw [zf62_10, show zrf 61 0 = 43 from rfl, zgf_e, hC.2.2.1.1.1, if_pos ((zn_le (by omega) (by omega)).mpr (by omega))]
    exact ⟨rfl, hS, hb⟩
  | succ m ih =>
    intro n e s S hi hn hC hS hb
    obtain ⟨n, rfl⟩ : ∃ n', n = n' + 1 := ⟨n - 1, by omega⟩
    have h30 := hC.2.2.1.2.1.1
    have he : e < E.length := by omega
    have step : zf62_10 61 (n + 1) (nI e) s = zbi (zf63 43 (nI e) 110 s) (fun v2 s3 => if v2 = (-1) then zf62_49 61 (zf62_10 61 n) (nI e) v2 s3 else zal s3 62 v2 fun v4 => if v4 = (-1) then zf62_49 61 (zf62_10 61 n) (nI e) v2 s3 else some (nI e, s3)) := by
      rw [zf62_10, show zrf 61 0 = 43 from rfl, zgf_e, hC.2.2.1.1.1, if_neg (fun q => by have := (zn_le (by omega) (by omega)).mp q; omega)]
      rfl
    rw [step, z63a hC hg he (Or.inl rfl), zbi_e, zn1]
    cases hnm : znm C E 110 e with
    | none =>
      obtain ⟨s', r⟩ := ih n (e + 1) s S (by omega) (by omega) hC hS hb
      refine ⟨s', ?_⟩
      show _ ∧ (∀ f, _ → (if (-1 : Int32) = -1 then _ else _) = _ ∧ _) ∧ _
      rw [if_pos rfl]
      unfold zf62_49
      rw [show zoi none = -1 from rfl, if_pos rfl, zn_a1]
      exact r
    | some k =>
      have hk := znm_b hg he (Or.inl rfl) hnm
      have e1 : zoi (some k) = nI k := rfl
      rw [e1, if_neg (zn_nm (by omega)), zal_n (by show k < 26; omega), hS k hk]
      dsimp only
      cases hSk : S k with
      | some x =>
        have := hb k x hSk
        refine ⟨s, fun _ _ => rfl, fun f q => ?_, fun S' q => (by cases q)⟩
        cases q
        rw [if_neg (show ¬ zoi (some x) = -1 from zn_nm (by omega))]
        exact ⟨rfl, he⟩
      | none =>
        obtain ⟨s', r1, r2⟩ := ih n (e + 1) (zw s 62 k (nI e)) (fun x => if x = k then some e else S x) (by omega) (by omega) (zCs_f hC (fun q a b => zw_ne (by omega))) (by
          intro j hj
          by_cases g : j = k
          · rw [g, zw_s]
            show _ = zoi (if k = k then some e else S k)
            rw [if_pos rfl]
            rfl
          · rw [zw_o (Or.inr g), hS j hj]
            show _ = zoi (if j = k then some e else S j)
            rw [if_neg g]) (by
          intro j x hx
          have hx2 : (if j = k then some e else S j) = some x := hx
          by_cases g : j = k
          · rw [if_pos g] at hx2
            cases hx2
            exact he
          · rw [if_neg g] at hx2
            exact hb j x hx2)
        refine ⟨s', fun q hq => by rw [r1 q hq, zw_ne hq], ?_⟩
        rw [if_pos (show zoi none = -1 from rfl)]
        unfold zf62_49
        rw [if_neg (zn_nm (by omega)), show zrf 61 2 = 62 from rfl, zas_n (by show k < 26; omega), zn_a1]
        exact r2
theorem z64_l {C : List Int32} {E : List zE} {a r : Nat} {l : Int32} {s : zS} {S : Nat → Option Nat} (hE : s a 6 = nI E.length) (h30 : E.length ≤ 30) (hg : zgA C E) (h63 : ∀ e, e < E.length → zf63 a (nI e) l s = some (zoi (znm C E l e), s)) (hl : l = 110 ∨ l = 102 ∨ l = 121) (hS : zSt s S) (hb : ∀ n e, S n = some e → e < 30) : ∀ m n e, e + m = E.length → m < n → zf64_2 61 a n l (nI e) s = some (zoi (zn2 C E l S m e), s) := by
  intro m
  induction m with
  | zero =>
    intro n e hi hn
    obtain ⟨n, rfl⟩ : ∃ n', n = n' + 1 := ⟨n - 1, by omega⟩
    rw [zf64_2, zgf_e, hE, if_pos ((zn_le (by omega) (by omega)).mpr (by omega))]
    rfl
  | succ m ih =>
    intro n e hi hn
    obtain ⟨n, rfl⟩ : ∃ n', n = n' + 1 := ⟨n - 1, by omega⟩
    rw [zf64_2, zgf_e, hE, if_neg (fun q => by have := (zn_le (by omega) (by omega)).mp q; omega), h63 e (by omega), zbi_e, zn2, zn_a1, ih n (e + 1) (by omega) (by omega)]
    cases hnm : znm C E l e with
    | none => exact if_pos rfl
    | some k =>
      have hk := znm_b hg (by omega) hl hnm
      rw [show zoi (some k) = nI k from rfl, if_neg (zn_nm (by omega)), show zrf 61 2 = 62 from rfl, zal_n (by show k < 26; omega), hS k hk]
      dsimp only
      cases hSk : S k with
      | none => exact if_neg (show ¬ ¬ zoi none = -1 from fun q => q rfl)
      | some x =>
        have := hb k x hSk
        exact if_pos (show ¬ zoi (some x) = -1 from zn_nm (by omega))
theorem z66 {s : zS} {C : List Int32} {E : List zE} {O : List (Nat × Nat)} {C' : List Int32} {E' : List zE} {O' : List (Nat × Nat)} {S : Nat → Option Nat} {e : Nat} (h : zCs s C E O C' E' O') (hg : zgA C E) (hS : zSt s S) (he : e < E.length) : zf66 61 (nI e) s = some (zoi (zpr C E S e), s) := by
  unfold zf66 zpr
  rw [show zrf 61 0 = 43 from rfl, z63a h hg he (Or.inr (Or.inl rfl)), zbi_e]
  cases hnm : znm C E 102 e with
  | none => exact if_neg (fun q => q rfl)
  | some k =>
    have hk := znm_b hg he (Or.inr (Or.inl rfl)) hnm
    rw [show zoi (some k) = nI k from rfl, if_pos (show ¬ nI k = -1 from zn_nm (by omega)), show zrf 61 2 = 62 from rfl, zal_n (by show k < 26; omega), hS k hk]
    rfl
theorem zpr_b {C : List Int32} {E : List zE} {S : Nat → Option Nat} {e x : Nat} (hb : zSb E S) (h : zpr C E S e = some x) : x < E.length := by
  unfold zpr at h
  cases hn : znm C E 102 e with
  | none => rw [hn] at h; cases h
  | some k => rw [hn] at h; exact hb k x h
theorem z65_17 {s : zS} {C : List Int32} {E : List zE} {O : List (Nat × Nat)} {C' : List Int32} {E' : List zE} {O' : List (Nat × Nat)} {S : Nat → Option Nat} {k2 : Int32 → zS → Option (Int32 × zS)} {x1 : Int32} (h : zCs s C E O C' E' O') (hg : zgA C E) (hS : zSt s S) (hb : zSb E S) : ∀ m n i o, i + m = 26 → m < n → (∀ x, o = some x → x < E.length) → zf65_17 61 k2 n x1 (zoi o) (nI i) s = zf65_40 61 k2 x1 (zoi (zit C E S m o)) s := by
  have h30 := h.2.2.1.2.1.1
  intro m
  induction m with
  | zero =>
    intro n i o hi hn ho
    obtain ⟨n, rfl⟩ : ∃ n', n = n' + 1 := ⟨n - 1, by omega⟩
    rw [zf65_17, if_pos ((zn_geL (k := 26) (by omega) (by decide)).mpr (by omega)), zit]
  | succ m ih =>
    intro n i o hi hn ho
    obtain ⟨n, rfl⟩ : ∃ n', n = n' + 1 := ⟨n - 1, by omega⟩
    rw [zf65_17, if_neg (fun q => by have := (zn_geL (k := 26) (by omega) (by decide)).mp q; omega)]
    cases o with
    | none => rw [show zoi none = -1 from rfl, if_pos rfl, zit]; rfl
    | some e =>
      have he := ho e rfl
      rw [show zoi (some e) = nI e from rfl, if_neg (zn_nm (by omega)), z66 h hg hS he, zbi_e, zn_a1, zit]
      exact ih n (i + 1) _ (by omega) (by omega) (fun x hx => zpr_b hb hx)
theorem zit_b {C : List Int32} {E : List zE} {S : Nat → Option Nat} (hb : zSb E S) : ∀ k o x, (∀ y, o = some y → y < E.length) → zit C E S k o = some x → x < E.length := by
  intro k
  induction k with
  | zero => intro o x ho h; exact ho x h
  | succ k ih =>
    intro o x ho h
    cases o with
    | none => cases h
    | some e => exact ih _ x (fun y hy => zpr_b hb hy) h
theorem z65_l {s : zS} {C : List Int32} {E : List zE} {O : List (Nat × Nat)} {C' : List Int32} {E' : List zE} {O' : List (Nat × Nat)} {S : Nat → Option Nat} (h : zCs s C E O C' E' O') (hg : zgA C E) (hS : zSt s S) (hb : zSb E S) : ∀ m n e, e + m = E.length → m < n → zf65_2 61 n (nI e) s = some (zoi (zn3 C E S 26 m e), s) := by
  have h30 := h.2.2.1.2.1.1
  intro m
  induction m with
  | zero =>
    intro n e hi hn
    obtain ⟨n, rfl⟩ : ∃ n', n = n' + 1 := ⟨n - 1, by omega⟩
    rw [zf65_2, show zrf 61 0 = 43 from rfl, zgf_e, h.2.2.1.1.1, if_pos ((zn_le (by omega) (by omega)).mpr (by omega))]
    rfl
  | succ m ih =>
    intro n e hi hn
    obtain ⟨n, rfl⟩ : ∃ n', n = n' + 1 := ⟨n - 1, by omega⟩
    have t := z65_17 (k2 := zf65_2 61 n) (x1 := nI e) h hg hS hb 26 zfz 0 (some e) rfl (by rw [zfz_e]; decide) (fun x hx => by cases hx; omega)
    have t2 : zf65_17 61 (zf65_2 61 n) zfz (nI e) (nI e) 0 s = _ := t
    rw [zf65_2, show zrf 61 0 = 43 from rfl, zgf_e, h.2.2.1.1.1, if_neg (fun q => by have := (zn_le (by omega) (by omega)).mp q; omega), t2, zn3]
    unfold zf65_40
    rw [zn_a1, ih n (e + 1) (by omega) (by omega)]
    cases hz : zit C E S 26 (some e) with
    | none => exact if_pos rfl
    | some x =>
      have := zit_b hb 26 (some e) x (fun y hy => by cases hy; omega) hz
      exact if_neg (show ¬ zoi (some x) = -1 from zn_nm (by omega))
theorem zn2_b {C : List Int32} {E : List zE} {l : Int32} {S : Nat → Option Nat} : ∀ m e x, zn2 C E l S m e = some x → x < e + m := by
  intro m
  induction m with
  | zero => intro e x h; cases h
  | succ m ih =>
    intro e x h
    rw [zn2] at h
    split at h
    · have := ih _ _ h; omega
    · split at h
      · cases h; omega
      · have := ih _ _ h; omega
theorem zn3_b {C : List Int32} {E : List zE} {S : Nat → Option Nat} {K : Nat} : ∀ m e x, zn3 C E S K m e = some x → x < e + m := by
  intro m
  induction m with
  | zero => intro e x h; cases h
  | succ m ih =>
    intro e x h
    rw [zn3] at h
    split at h
    · have := ih _ _ h; omega
    · cases h; omega
theorem z61 {s : zS} {C : List Int32} {E : List zE} {O : List (Nat × Nat)} {C' : List Int32} {E' : List zE} {O' : List (Nat × Nat)} (h : zCs s C E O C' E' O') (hg : zgA C E) (hg' : zgA C' E') (hne : E ≠ []) :
    ∃ s', (∀ q, q ≠ 62 → s' q = s q) ∧ (∀ f, zf6 C E C' E' = .inl f → zf61 61 s = some (nI f, s')) ∧ (∀ S, zf6 C E C' E' = .inr S → zf61 61 s = some (-1, s') ∧ zSt s' S ∧ zSb E S) := by
  have h30 := h.2.2.1.2.1.1
  have h30' := h.2.2.2.2.1.1
  have hpos : 0 < E.length := List.length_pos_iff.mpr hne
  obtain ⟨s1, a1, a2, a3, a4⟩ := z41 (q := 62) (N := 26) (x := -1) rfl 26 0 zfz s rfl (by rw [zfz_e]; decide)
  have hC1 : zCs s1 C E O C' E' O' := zCs_f h (fun q a b => a4 q (by omega))
  obtain ⟨s2, b1, b2, b3⟩ := z62_l hg (E.length - 1) zfz 1 s1 (fun _ => none) (by omega) (by rw [zfz_e]; omega) hC1 (fun n hn => a3 n (Nat.zero_le _) hn) (fun n e q => (by cases q))
  have hC2 : zCs s2 C E O C' E' O' := zCs_f hC1 (fun q a b => b1 q (by omega))
  have e62 : zf62 61 s = zf62_10 61 zfz (nI 1) s1 := by
    unfold zf62
    rw [show zrf 61 2 = 62 from rfl]
    unfold zf41
    have q : zf41_5 62 zfz (-1) 0 (nI (zca 62)) s = some s1 := a1
    rw [q]
    rfl
  refine ⟨s2, fun q hq => by rw [b1 q hq, a4 q hq], ?_⟩
  have t31 : ∀ e, e < E.length → zf61_31 61 (nI e) s2 = some (nI (E.getD e (0, 0, 0, [])).2.1, s2) := by
    intro e he
    unfold zf61_31
    rw [if_neg (zn_nm (by omega)), show zrf 61 0 = 43 from rfl, show zrf 43 2 = 45 from rfl, zal_n (by show e < 30; omega), (hC2.2.2.1.1.2.2 e he).2.1]
  have t21 : ∀ e, e < E.length → zf61_21 61 (nI e) s2 = some (nI (E.getD e (0, 0, 0, [])).2.1, s2) := by
    intro e he
    unfold zf61_21
    rw [if_pos (show ¬ nI e = -1 from zn_nm (by omega)), t31 e he]
  unfold zf61 zf6
  rw [e62]
  cases h1 : zn1 C E (E.length - 1) 1 (fun _ => none) with
  | inl e =>
    obtain ⟨c1, c2⟩ := b2 e h1
    refine ⟨fun f q => ?_, fun S q => (by cases q)⟩
    cases q
    rw [c1, zbi_e, if_pos (show ¬ nI e = -1 from zn_nm (by omega)), t21 e c2]
  | inr S =>
    obtain ⟨c1, c2, c3⟩ := b3 S h1
    have c30 : ∀ n e, S n = some e → e < 30 := fun n e q => by have := c3 n e q; omega
    have t64 := z64_l (C := C) (E := E) (a := 43) (r := 0) (l := 102) hC2.2.2.1.1.1 h30 hg (fun e he => z63a hC2 hg he (Or.inr (Or.inl rfl))) (Or.inr (Or.inl rfl)) c2 c30 E.length zfz 0 (Nat.zero_add _) (by rw [zfz_e]; omega)
    have t64b := z64_l (C := C') (E := E') (a := 52) (r := 0) (l := 121) hC2.2.2.2.1.1 h30' hg' (fun e he => z63b hC2 hg' he (Or.inr (Or.inr rfl))) (Or.inr (Or.inr rfl)) c2 c30 E'.length zfz 0 (Nat.zero_add _) (by rw [zfz_e]; omega)
    have u64 : zf64 61 (zrf 61 0) 102 s2 = _ := t64
    have u64b : zf64 61 (zrf 61 1) 121 s2 = _ := t64b
    have u65 : zf65 61 s2 = _ := z65_l hC2 hg c2 c3 (E.length - 1) zfz 1 (by omega) (by rw [zfz_e]; omega)
    rw [c1, zbi_e, if_neg (show ¬ ¬ (-1 : Int32) = -1 from fun q => q rfl), u64, zbi_e]
    dsimp only
    cases h2 : zn2 C E 102 S E.length 0 with
    | some e =>
      have he := zn2_b _ _ _ h2
      refine ⟨fun f q => ?_, fun S q => (by cases q)⟩
      cases q
      exact t21 e (by omega)
    | none =>
      unfold zf61_21
      rw [if_neg (show ¬ ¬ zoi none = -1 from fun q => q rfl), u65, zbi_e]
      dsimp only
      cases h3 : zn3 C E S 26 (E.length - 1) 1 with
      | some e =>
        have he := zn3_b _ _ _ h3
        refine ⟨fun f q => ?_, fun S q => (by cases q)⟩
        cases q
        exact t31 e (by omega)
      | none =>
        unfold zf61_31
        rw [if_pos (show zoi none = -1 from rfl), u64b, zbi_e]
        dsimp only
        cases h4 : zn2 C' E' 121 S E'.length 0 with
        | some e =>
          have he := zn2_b _ _ _ h4
          refine ⟨fun f q => ?_, fun S q => (by cases q)⟩
          cases q
          rw [show zoi (some e) = nI e from rfl, if_pos (show ¬ nI e = -1 from zn_nm (by omega)), show zrf (zrf 61 1) 2 = 54 from rfl, zal_n (by show e < 30; omega), (hC2.2.2.2.1.2.2 e (by omega)).2.1, zn_lit 1000, zn_add]
        | none =>
          refine ⟨fun f q => (by cases q), fun S' q => ?_⟩
          cases q
          exact ⟨if_neg (fun q => q rfl), c2, c3⟩
