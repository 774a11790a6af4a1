/-! Styles, on the model's side: names, faults. -/
set_option maxRecDepth 100000
set_option linter.unusedVariables false
theorem zbs_1 {R : Type} {s : zS} {a j : Nat} {c : zS → Option R} (h : j < zca a) : zbs s a (nI j) 1 c = c (zw s a j 1) := zas_n h
theorem zbs_0 {R : Type} {s : zS} {a j : Nat} {c : zS → Option R} (h : j < zca a) : zbs s a (nI j) 0 c = c (zw s a j 0) := zas_n h
/-- the model's elements -/
def zMd (s : zS) (C : List Int32) (E : List zE) (O : List (Nat × Nat)) (C' : List Int32) (E' : List zE) (O' : List (Nat × Nat)) : Prop := zMs 0 s C ∧ zMs 1 s C' ∧ zMz 0 s E O ∧ zMz 1 s E' O'
theorem zMz_f {p : Nat} {s s' : zS} {E : List zE} {O : List (Nat × Nat)} (h : zMz p s E O) (h1 : ∀ q, 186 ≤ q → q ≤ 190 → s' q = s q) : zMz p s' E O := by
  unfold zMz zMe
  rw [h1 186 (by decide) (by decide), h1 187 (by decide) (by decide), h1 188 (by decide) (by decide), h1 189 (by decide) (by decide), h1 190 (by decide) (by decide)]
  exact h
theorem zMd_f {s s' : zS} {C : List Int32} {E : List zE} {O : List (Nat × Nat)} {C' : List Int32} {E' : List zE} {O' : List (Nat × Nat)} (h : zMd s C E O C' E' O') (h1 : ∀ q, 184 ≤ q → q ≤ 190 → s' q = s q) : zMd s' C E O C' E' O' :=
  ⟨zMs_fr (h1 184 (by decide) (by decide)) (h1 185 (by decide) (by decide)) h.1, zMs_fr (h1 184 (by decide) (by decide)) (h1 185 (by decide) (by decide)) h.2.1, zMz_f h.2.2.1 (fun q a b => h1 q (by omega) b), zMz_f h.2.2.2 (fun q a b => h1 q (by omega) b)⟩
theorem zn1_S {C : List Int32} {E : List zE} : ∀ m e S S', zn1 C E m e S = .inr S' → (∀ n x, S n = some x → S' n = some x) ∧ (∀ n x, S' n = some x → S n = some x ∨ (e ≤ x ∧ x < e + m ∧ znm C E 110 x = some n)) ∧ ∀ x n, e ≤ x → x < e + m → znm C E 110 x = some n → S' n = some x := by
  intro m
  induction m with
  | zero =>
    intro e S S' h
    cases h
    exact ⟨fun _ _ q => q, fun _ _ q => Or.inl q, fun x n a b => by omega⟩
  | succ m ih =>
    intro e S S' h
    rw [zn1] at h
    cases hn : znm C E 110 e with
    | none =>
      rw [hn] at h
      obtain ⟨a, b, c⟩ := ih _ _ _ h
      refine ⟨a, fun n x q => ?_, fun x n h1 h2 h3 => ?_⟩
      · rcases b n x q with g | ⟨g1, g2, g3⟩
        · exact Or.inl g
        · exact Or.inr ⟨by omega, by omega, g3⟩
      · by_cases g : x = e
        · rw [g, hn] at h3; cases h3
        · exact c x n (by omega) (by omega) h3
    | some k =>
      rw [hn] at h
      dsimp only at h
      cases hk : S k with
      | some y => rw [hk] at h; cases h
      | none =>
        rw [hk] at h
        obtain ⟨a, b, c⟩ := ih _ _ _ h
        refine ⟨fun n x q => a n x ?_, fun n x q => ?_, fun x n h1 h2 h3 => ?_⟩
        · show (if n = k then some e else S n) = some x
          rw [if_neg (fun g => by rw [g, hk] at q; cases q)]
          exact q
        · rcases b n x q with g | ⟨g1, g2, g3⟩
          · have g' : (if n = k then some e else S n) = some x := g
            by_cases gg : n = k
            · rw [if_pos gg] at g'
              cases g'
              exact Or.inr ⟨by omega, by omega, by rw [gg]; exact hn⟩
            · rw [if_neg gg] at g'
              exact Or.inl g'
          · exact Or.inr ⟨by omega, by omega, g3⟩
        · by_cases g : x = e
          · rw [g, hn] at h3
            cases h3
            rw [g]
            exact a k e (show (if k = k then some e else S k) = some e from if_pos rfl)
          · exact c x n (by omega) (by omega) h3
theorem zn2_n {C : List Int32} {E : List zE} {l : Int32} {S : Nat → Option Nat} : ∀ m e, zn2 C E l S m e = none → ∀ x f, e ≤ x → x < e + m → znm C E l x = some f → ∃ y, S f = some y := by
  intro m
  induction m with
  | zero => intro e h x f h1 h2; omega
  | succ m ih =>
    intro e h x f h1 h2 h3
    rw [zn2] at h
    by_cases g : x = e
    · rw [← g, h3] at h
      dsimp only at h
      cases hf : S f with
      | none => rw [hf] at h; cases h
      | some y => exact ⟨y, rfl⟩
    · split at h
      · exact ih _ h x f (by omega) (by omega) h3
      · split at h
        · cases h
        · exact ih _ h x f (by omega) (by omega) h3
/-- n + 1 numbers below n: two are the same -/
theorem zpig_l : ∀ n (l : List Nat), l.Nodup → (∀ x ∈ l, x < n) → l.length ≤ n := by
  intro n
  induction n with
  | zero =>
    intro l _ h
    cases l with
    | nil => exact Nat.le_refl _
    | cons x l => exact absurd (h x List.mem_cons_self) (Nat.not_lt_zero _)
  | succ n ih =>
    intro l hd h
    have h1 := ih (l.erase n) (hd.erase n) (fun x hx => by
      have h2 := h x (List.mem_of_mem_erase hx)
      have h3 : x ≠ n := fun e => by rw [e] at hx; exact (List.Nodup.not_mem_erase hd) hx
      omega)
    by_cases g : n ∈ l
    · have := List.length_erase_of_mem g
      omega
    · rw [List.erase_of_not_mem g] at h1
      omega
theorem zpig {n : Nat} {f : Nat → Nat} (h : ∀ i, i ≤ n → f i < n) : ∃ i j, i < j ∧ j ≤ n ∧ f i = f j := by
  refine Classical.byContradiction fun hc => ?_
  have hd : ((List.range (n + 1)).map f).Nodup := by
    unfold List.Nodup
    rw [List.pairwise_map]
    refine List.Pairwise.imp_of_mem ?_ List.pairwise_lt_range
    intro a b ha hb hab e
    exact hc ⟨a, b, hab, by have := List.mem_range.mp hb; omega, e⟩
  have := zpig_l n _ hd (fun x hx => by
    obtain ⟨i, hi, rfl⟩ := List.mem_map.mp hx
    exact h i (by have := List.mem_range.mp hi; omega))
  rw [List.length_map, List.length_range] at this
  omega
theorem zit_add {C : List Int32} {E : List zE} {S : Nat → Option Nat} : ∀ a b o, zit C E S (a + b) o = zit C E S b (zit C E S a o) := by
  intro a
  induction a with
  | zero => intro b o; rw [Nat.zero_add]; rfl
  | succ a ih =>
    intro b o
    rw [show a + 1 + b = (a + b) + 1 by omega]
    cases o with
    | none =>
      show none = zit C E S b none
      cases b <;> rfl
    | some e => exact ih b _
theorem zit_none {C : List Int32} {E : List zE} {S : Nat → Option Nat} {k : Nat} : zit C E S k none = none := by cases k <;> rfl
/-- 26 turns are enough -/
theorem zit_26 {C : List Int32} {E : List zE} {S : Nat → Option Nat} (hg : zgA C E) (hb : zSb E S) (hS : ∀ n e, S n = some e → znm C E 110 e = some n) {n e : Nat} (hn : S n = some e) (h : zit C E S 27 (some e) = none) : zit C E S 26 (some e) = none := by
  refine Classical.byContradiction fun hc => ?_
  have hs : ∀ k, k ≤ 26 → ∃ x, zit C E S k (some e) = some x := by
    intro k hk
    cases hz : zit C E S k (some e) with
    | some x => exact ⟨x, rfl⟩
    | none =>
      have := zit_add (C := C) (E := E) (S := S) k (26 - k) (some e)
      rw [hz, show k + (26 - k) = 26 by omega, zit_none] at this
      exact absurd this hc
  have hr : ∀ k x, zit C E S k (some e) = some x → ∃ m, S m = some x := by
    intro k
    have gen : ∀ k o x, (∀ y, o = some y → ∃ m, S m = some y) → zit C E S k o = some x → ∃ m, S m = some x := by
      intro k
      induction k with
      | zero => intro o x h1 h2; exact h1 x h2
      | succ k ih =>
        intro o x h1 h2
        cases o with
        | none => cases h2
        | some y =>
          refine ih _ x ?_ h2
          intro z hz
          unfold zpr at hz
          cases hm : znm C E 102 y with
          | none => rw [hm] at hz; cases hz
          | some m => rw [hm] at hz; exact ⟨m, hz⟩
    exact fun x hx => gen k (some e) x (fun y hy => by cases hy; exact ⟨n, hn⟩) hx
  obtain ⟨i, j, hij, hj, hf⟩ := zpig (n := 26) (f := fun k => match zit C E S k (some e) with | none => 0 | some x => match znm C E 110 x with | none => 0 | some m => m) (by
    intro k hk
    obtain ⟨x, hx⟩ := hs k hk
    obtain ⟨m, hm⟩ := hr k x hx
    have h1 := hS m x hm
    rw [hx]
    dsimp only
    rw [h1]
    exact znm_b hg (hb m x hm) (Or.inl rfl) h1)
  obtain ⟨x, hx⟩ := hs i (by omega)
  obtain ⟨m, hm⟩ := hr i x hx
  obtain ⟨y, hy⟩ := hs j hj
  obtain ⟨m', hm'⟩ := hr j y hy
  rw [hx, hy] at hf
  dsimp only at hf
  rw [hS m x hm, hS m' y hm'] at hf
  dsimp only at hf
  rw [hf, hm'] at hm
  cases hm
  have a1 := zit_add (C := C) (E := E) (S := S) i (27 - j) (some e)
  have a2 := zit_add (C := C) (E := E) (S := S) j (27 - j) (some e)
  rw [hx] at a1
  rw [hy, show j + (27 - j) = 27 by omega, h] at a2
  rw [← a2] at a1
  obtain ⟨z, hz⟩ := hs (i + (27 - j)) (by omega)
  rw [hz] at a1
  cases a1
theorem zn3_27 {C : List Int32} {E : List zE} {S : Nat → Option Nat} (hg : zgA C E) (hb : zSb E S) (hS : ∀ n e, S n = some e → znm C E 110 e = some n) : ∀ m e, (∀ x, e ≤ x → x < e + m → ∃ n, S n = some x) → zn3 C E S 27 m e = zn3 C E S 26 m e := by
  intro m
  induction m with
  | zero => intro e _; rfl
  | succ m ih =>
    intro e h
    obtain ⟨n, hn⟩ := h e (Nat.le_refl _) (by omega)
    rw [zn3, zn3, ih (e + 1) (fun x a b => h x (by omega) (by omega))]
    cases h27 : zit C E S 27 (some e) with
    | none => rw [zit_26 hg hb hS hn h27]
    | some x =>
      cases h26 : zit C E S 26 (some e) with
      | some y => rfl
      | none =>
        have := zit_add (C := C) (E := E) (S := S) 26 1 (some e)
        rw [h26, h27] at this
        cases this
/-- the names that the model has noted -/
def zNa (s : zS) (C : List Int32) (E : List zE) (S : Nat → Option Nat) : Prop := (∀ n, n < 26 → s 192 n = if (S n).isSome = true then 1 else 0) ∧ ∀ n e, n < 26 → S n = some e → s 193 n = zoi (znm C E 102 e) ∧ s 194 (3 * n) = zoi (znu C E 98 e) ∧ s 194 (3 * n + 1) = zoi (znu C E 122 e) ∧ s 194 (3 * n + 2) = zoi (znu C E 107 e)
theorem z185a {s : zS} {C : List Int32} {E : List zE} {O : List (Nat × Nat)} {C' : List Int32} {E' : List zE} {O' : List (Nat × Nat)} {l : Int32} {e : Nat} (h : zMd s C E O C' E' O') (hok : zok C E) (hb : zEb E) (hg : zgA C E) (he : e < E.length) (hl : l = 110 ∨ l = 102 ∨ l = 121) : zf185 179 0 (nI e) l s = some (zoi (znm C E l e), s) :=
  z185 (p := 0) (by decide) h.1 h.2.2.1.1 hok hb he (hg e he) hl
theorem z185b {s : zS} {C : List Int32} {E : List zE} {O : List (Nat × Nat)} {C' : List Int32} {E' : List zE} {O' : List (Nat × Nat)} {l : Int32} {e : Nat} (h : zMd s C E O C' E' O') (hok : zok C' E') (hb : zEb E') (hg : zgA C' E') (he : e < E'.length) (hl : l = 110 ∨ l = 102 ∨ l = 121) : zf185 179 1 (nI e) l s = some (zoi (znm C' E' l e), s) :=
  z185 (p := 1) (by decide) h.2.1 h.2.2.2.1 hok hb he (hg e he) hl
theorem z186a {s : zS} {C : List Int32} {E : List zE} {O : List (Nat × Nat)} {C' : List Int32} {E' : List zE} {O' : List (Nat × Nat)} {l : Int32} {e : Nat} (h : zMd s C E O C' E' O') (hok : zok C E) (hb : zEb E) (hg : zgA C E) (he : e < E.length) (hl : l = 98 ∨ l = 122 ∨ l = 107) : zf186 179 (nI e) l s = some (zoi (znu C E l e), s) :=
  z186 h.1 h.2.2.1.1 hok hb he (hg e he) hl
theorem zm184_23 {C : List Int32} {E : List zE} {O : List (Nat × Nat)} {C' : List Int32} {E' : List zE} {O' : List (Nat × Nat)} (hok : zok C E) (hbE : zEb E) (hg : zgA C E) (hnm : ∀ e, 1 ≤ e → e < E.length → ∃ n, znm C E 110 e = some n) : ∀ m n e (s : zS) S, 1 ≤ e → e + m = E.length → m < n → zMd s C E O C' E' O' → zNa s C E S → ∃ s', (∀ q, q < 192 ∨ 194 < q → s' q = s q) ∧ (∀ f, zn1 C E m e S = .inl f → zf184_23 179 n (nI e) s = some (nI (E.getD f (0, 0, 0, [])).2.1, s')) ∧ (∀ S', zn1 C E m e S = .inr S' → zf184_23 179 n (nI e) s = zf184_136 179 zfz 1 s' ∧ zNa s' C E S') := by
  have h30 := hbE.1
  intro m
  induction m with
  | zero =>
    intro n e s S h1 hi hn hM hN
    obtain ⟨n, rfl⟩ : ∃ n', n = n' + 1 := ⟨n - 1, by omega⟩
    refine ⟨s, fun _ _ => rfl, fun f q => (by cases q), fun S' q => ?_⟩
    cases q
    have e0 : zal (R := Int32 × zS) s 186 0 = fun c => c (s 186 0) := by funext c; exact zal_n (j := 0) (by decide)
    rw [zf184_23, show zrf 179 9 = 186 from rfl, e0]
    dsimp only
    rw [hM.2.2.1.1.1, if_pos ((zn_le (by omega) (by omega)).mpr (by omega))]
    exact ⟨rfl, hN⟩
  | succ m ih =>
    intro n e s S h1 hi hn hM hN
    obtain ⟨n, rfl⟩ : ∃ n', n = n' + 1 := ⟨n - 1, by omega⟩
    have he : e < E.length := by omega
    obtain ⟨k, hk⟩ := hnm e h1 he
    have hk26 := znm_b hg he (Or.inl rfl) hk
    have e0 : zal (R := Int32 × zS) s 186 0 = fun c => c (s 186 0) := by funext c; exact zal_n (j := 0) (by decide)
    rw [zf184_23, show zrf 179 9 = 186 from rfl, e0]
    dsimp only
    rw [hM.2.2.1.1.1, if_neg (fun q => by have := (zn_le (by omega) (by omega)).mp q; omega), z185a hM hok hbE hg he (Or.inl rfl), zbi_e, hk, show zoi (some k) = nI k from rfl, show zrf 179 19 = 192 from rfl, zal_n (by show k < 26; omega), hN.1 k hk26, zn1, hk]
    dsimp only
    cases hS : S k with
    | some x =>
      refine ⟨s, fun _ _ => rfl, fun f q => ?_, fun S' q => (by cases q)⟩
      cases q
      rw [if_neg (show ¬ (if (some x).isSome = true then (1 : Int32) else 0) = 0 from (show ¬ (1 : Int32) = 0 by decide)), show zrf 179 11 = 188 from rfl, zal_n (by show e < 60; omega)]
      have := (hM.2.2.1.1.2.2 e he).2.1
      rw [show 30 * 0 + e = e by omega] at this
      rw [this]
    | none =>
      have t3 : (3 : Int32) * nI k = nI (3 * k) := by rw [zn_lit 3, zn_mul]
      have t4 : nI (3 * k) + 1 = nI (3 * k + 1) := zn_a1 _
      have t5 : nI (3 * k) + 2 = nI (3 * k + 2) := by rw [zn_lit 2, zn_add]
      have fr : ∀ {s1 : zS} {a j : Nat} {x : Int32}, 192 ≤ a → zMd s1 C E O C' E' O' → zMd (zw s1 a j x) C E O C' E' O' := fun ha hh => zMd_f hh (fun q a b => zw_ne (by omega))
      have M1 := fr (a := 192) (j := k) (x := 1) (by decide) hM
      have M2 := fr (a := 193) (j := k) (x := zoi (znm C E 102 e)) (by decide) M1
      have M3 := fr (a := 194) (j := 3 * k) (x := zoi (znu C E 98 e)) (by decide) M2
      have M4 := fr (a := 194) (j := 3 * k + 1) (x := zoi (znu C E 122 e)) (by decide) M3
      have M5 := fr (a := 194) (j := 3 * k + 2) (x := zoi (znu C E 107 e)) (by decide) M4
      rw [if_pos (show (if (none : Option Nat).isSome = true then (1 : Int32) else 0) = 0 from rfl), zbs_1 (by show k < 26; omega), z185a M1 hok hbE hg he (Or.inr (Or.inl rfl)), zbi_e, show zrf 179 20 = 193 from rfl, zas_n (by show k < 26; omega), z186a M2 hok hbE hg he (Or.inl rfl), zbi_e, show zrf 179 21 = 194 from rfl, t3, zas_n (by show 3 * k < 78; omega), z186a M3 hok hbE hg he (Or.inr (Or.inl rfl)), zbi_e, t4, zas_n (by show 3 * k + 1 < 78; omega), z186a M4 hok hbE hg he (Or.inr (Or.inr rfl)), zbi_e, t5, zas_n (by show 3 * k + 2 < 78; omega), zn_a1]
      obtain ⟨s', r1, r2⟩ := ih n (e + 1) _ (fun x => if x = k then some e else S x) (by omega) (by omega) (by omega) M5 (by
        refine ⟨fun j hj => ?_, fun j x hj hx => ?_⟩
        · rw [zw_ne (by decide), zw_ne (by decide), zw_ne (by decide), zw_ne (by decide)]
          show _ = if (if j = k then some e else S j).isSome = true then 1 else 0
          by_cases g : j = k
          · rw [g, zw_s, if_pos rfl]
            rfl
          · rw [zw_o (Or.inr g), if_neg g, hN.1 j hj]
        · have hx2 : (if j = k then some e else S j) = some x := hx
          by_cases g : j = k
          · rw [if_pos g] at hx2
            cases hx2
            subst g
            refine ⟨?_, ?_, ?_, ?_⟩
            · rw [zw_ne (by decide), zw_ne (by decide), zw_ne (by decide), zw_s]
            · rw [zw_o (Or.inr (by omega)), zw_o (Or.inr (by omega)), zw_s]
            · rw [zw_o (Or.inr (by omega)), zw_s]
            · rw [zw_s]
          · rw [if_neg g] at hx2
            obtain ⟨y1, y2, y3, y4⟩ := hN.2 j x hj hx2
            refine ⟨?_, ?_, ?_, ?_⟩
            · rw [zw_ne (by decide), zw_ne (by decide), zw_ne (by decide), zw_o (Or.inr g), zw_ne (by decide)]
              exact y1
            · rw [zw_o (Or.inr (by omega)), zw_o (Or.inr (by omega)), zw_o (Or.inr (by omega)), zw_ne (by decide), zw_ne (by decide)]
              exact y2
            · rw [zw_o (Or.inr (by omega)), zw_o (Or.inr (by omega)), zw_o (Or.inr (by omega)), zw_ne (by decide), zw_ne (by decide)]
              exact y3
            · rw [zw_o (Or.inr (by omega)), zw_o (Or.inr (by omega)), zw_o (Or.inr (by omega)), zw_ne (by decide), zw_ne (by decide)]
              exact y4)
      refine ⟨s', fun q hq => ?_, r2⟩
      rw [r1 q hq, zw_ne (by omega), zw_ne (by omega), zw_ne (by omega), zw_ne (by omega), zw_ne (by omega)]
theorem zm187 {s : zS} {C : List Int32} {E : List zE} {S : Nat → Option Nat} (hg : zgA C E) (hb : zSb E S) (hN : zNa s C E S) (h2 : ∀ e f, e < E.length → znm C E 102 e = some f → ∃ y, S f = some y) : ∀ m n i o, i + m = 27 → m < n → (∀ k, o = some k → k < 26 ∧ ∃ y, S k = some y) → zf187_4 179 n (zoi o) (nI i) s = some (if (zit C E S m (o.bind S)).isSome = true then 0 else 1, s) := by
  have e27 : ∀ o : Option Nat, (∀ k, o = some k → k < 26 ∧ ∃ y, S k = some y) → zf187_27 179 (zoi o) s = some (if (o.bind S).isSome = true then 0 else 1, s) := by
    intro o ho
    unfold zf187_27
    cases o with
    | none => exact if_neg (show ¬ 0 ≤ zoi none by decide)
    | some k =>
      obtain ⟨k1, y, k2⟩ := ho k rfl
      rw [if_pos (show 0 ≤ zoi (some k) from Int32.not_lt.mp (zn_nn (by omega)))]
      show _ = some (if (S k).isSome = true then 0 else 1, s)
      rw [k2]
      rfl
  intro m
  induction m with
  | zero =>
    intro n i o hi hn ho
    obtain ⟨n, rfl⟩ : ∃ n', n = n' + 1 := ⟨n - 1, by omega⟩
    rw [zf187_4, if_pos ((zn_geL (k := 27) (by omega) (by decide)).mpr (by omega)), e27 o ho, zit]
  | succ m ih =>
    intro n i o hi hn ho
    obtain ⟨n, rfl⟩ : ∃ n', n = n' + 1 := ⟨n - 1, by omega⟩
    rw [zf187_4, if_neg (fun q => by have := (zn_geL (k := 27) (by omega) (by decide)).mp q; omega)]
    cases o with
    | none => rw [if_pos (show zoi none < 0 by decide), e27 none ho]; rfl
    | some k =>
      obtain ⟨k1, y, k2⟩ := ho k rfl
      have hy := hb k y k2
      rw [show zoi (some k) = nI k from rfl, if_neg (zn_nn (by omega)), show zrf 179 20 = 193 from rfl, zal_n (by show k < 26; omega), (hN.2 k y k1 k2).1, zn_a1, ih n (i + 1) (znm C E 102 y) (by omega) (by omega) (fun f hf => ⟨znm_b hg hy (Or.inr (Or.inl rfl)) hf, h2 y f hy hf⟩)]
      show _ = some (if (zit C E S (m + 1) (S k)).isSome = true then 0 else 1, s)
      rw [k2]
      rfl
theorem zm184_183 {s : zS} {C : List Int32} {E : List zE} {O : List (Nat × Nat)} {C' : List Int32} {E' : List zE} {O' : List (Nat × Nat)} {S : Nat → Option Nat} (hM : zMd s C E O C' E' O') (hok : zok C E) (hbE : zEb E) (hg : zgA C E) (hb : zSb E S) (hN : zNa s C E S) (h2 : ∀ e f, e < E.length → znm C E 102 e = some f → ∃ y, S f = some y) (hS : ∀ x, 1 ≤ x → x < E.length → ∃ n, znm C E 110 x = some n ∧ S n = some x) : ∀ m n e, 1 ≤ e → e + m = E.length → m < n → zf184_183 179 n (nI e) s = some (zoi ((zn3 C E S 27 m e).map (fun e => (E.getD e (0, 0, 0, [])).2.1)), s) := by
  have h30 := hbE.1
  have e0 : zal (R := Int32 × zS) s 186 0 = fun c => c (s 186 0) := by funext c; exact zal_n (j := 0) (by decide)
  intro m
  induction m with
  | zero =>
    intro n e h1 hi hn
    obtain ⟨n, rfl⟩ : ∃ n', n = n' + 1 := ⟨n - 1, by omega⟩
    rw [zf184_183, show zrf 179 9 = 186 from rfl, e0]
    dsimp only
    rw [hM.2.2.1.1.1, if_pos ((zn_le (by omega) (by omega)).mpr (by omega))]
    rfl
  | succ m ih =>
    intro n e h1 hi hn
    obtain ⟨n, rfl⟩ : ∃ n', n = n' + 1 := ⟨n - 1, by omega⟩
    have he : e < E.length := by omega
    obtain ⟨k, k1, k2⟩ := hS e h1 he
    have hk := znm_b hg he (Or.inl rfl) k1
    have t := zm187 hg hb hN h2 27 zfz 0 (some k) rfl (by rw [zfz_e]; decide) (fun j q => by cases q; exact ⟨hk, e, k2⟩)
    have t' : zf187 179 (nI k) s = _ := t
    have kb : (some k).bind S = some e := k2
    rw [zf184_183, show zrf 179 9 = 186 from rfl, e0]
    dsimp only
    rw [hM.2.2.1.1.1, if_neg (fun q => by have := (zn_le (by omega) (by omega)).mp q; omega), z185a hM hok hbE hg he (Or.inl rfl), zbi_e, k1, show zoi (some k) = nI k from rfl, t', zbi_e, kb, zn3]
    cases hz : zit C E S 27 (some e) with
    | none =>
      rw [if_pos (show ¬ (if (none : Option Nat).isSome = true then (0 : Int32) else 1) = 0 from (show ¬ (1 : Int32) = 0 by decide)), zn_a1, ih n (e + 1) (by omega) (by omega) (by omega)]
    | some x =>
      rw [if_neg (show ¬ ¬ (if (some x).isSome = true then (0 : Int32) else 1) = 0 from fun q => q rfl), show zrf 179 11 = 188 from rfl, zal_n (by show e < 60; omega)]
      have := (hM.2.2.1.1.2.2 e he).2.1
      rw [show 30 * 0 + e = e by omega] at this
      rw [this]
      rfl
theorem zm184_136 {s : zS} {C : List Int32} {E : List zE} {O : List (Nat × Nat)} {C' : List Int32} {E' : List zE} {O' : List (Nat × Nat)} {S : Nat → Option Nat} (hM : zMd s C E O C' E' O') (hok : zok C E) (hbE : zEb E) (hg : zgA C E) (hN : zNa s C E S) : ∀ m n e, e + m = E.length → m < n → zf184_136 179 n (nI e) s = (match zn2 C E 102 S m e with | some e => some (nI (E.getD e (0, 0, 0, [])).2.1, s) | none => zf184_183 179 zfz 1 s) := by
  have h30 := hbE.1
  have e0 : zal (R := Int32 × zS) s 186 0 = fun c => c (s 186 0) := by funext c; exact zal_n (j := 0) (by decide)
  intro m
  induction m with
  | zero =>
    intro n e hi hn
    obtain ⟨n, rfl⟩ : ∃ n', n = n' + 1 := ⟨n - 1, by omega⟩
    rw [zf184_136, show zrf 179 9 = 186 from rfl, e0]
    dsimp only
    rw [hM.2.2.1.1.1, if_pos ((zn_le (by omega) (by omega)).mpr (by omega))]
    rfl
  | succ m ih =>
    intro n e hi hn
    obtain ⟨n, rfl⟩ : ∃ n', n = n' + 1 := ⟨n - 1, by omega⟩
    have he : e < E.length := by omega
    rw [zf184_136, show zrf 179 9 = 186 from rfl, e0]
    dsimp only
    rw [hM.2.2.1.1.1, if_neg (fun q => by have := (zn_le (by omega) (by omega)).mp q; omega), z185a hM hok hbE hg he (Or.inr (Or.inl rfl)), zbi_e, zn2, zn_a1, ih n (e + 1) (by omega) (by omega)]
    cases hz : znm C E 102 e with
    | none => rw [if_pos (show zoi none < 0 by decide)]
    | some k =>
      have hk := znm_b hg he (Or.inr (Or.inl rfl)) hz
      rw [show zoi (some k) = nI k from rfl, if_neg (zn_nn (by omega)), show zrf 179 19 = 192 from rfl, zal_n (by show k < 26; omega), hN.1 k hk]
      dsimp only
      cases hSk : S k with
      | some x => rw [if_pos (show ¬ (if (some x).isSome = true then (1 : Int32) else 0) = 0 from (show ¬ (1 : Int32) = 0 by decide))]
      | none =>
        rw [if_neg (show ¬ ¬ (if (none : Option Nat).isSome = true then (1 : Int32) else 0) = 0 from fun q => q rfl), show zrf 179 11 = 188 from rfl, zal_n (by show e < 60; omega)]
        have := (hM.2.2.1.1.2.2 e he).2.1
        rw [show 30 * 0 + e = e by omega] at this
        rw [this]
theorem zm188 {s : zS} {C : List Int32} {E : List zE} {O : List (Nat × Nat)} {C' : List Int32} {E' : List zE} {O' : List (Nat × Nat)} {S : Nat → Option Nat} (hM : zMd s C E O C' E' O') (hok : zok C' E') (hbE : zEb E') (hg : zgA C' E') (hN : zNa s C E S) : ∀ m n e, e + m = E'.length → m < n → zf188_2 179 n (nI e) s = some (zoi ((zn2 C' E' 121 S m e).map (fun e => 1000 + (E'.getD e (0, 0, 0, [])).2.1)), s) := by
  have h30 := hbE.1
  have e0 : zal (R := Int32 × zS) s 186 1 = fun c => c (s 186 1) := by funext c; exact zal_n (j := 1) (by decide)
  intro m
  induction m with
  | zero =>
    intro n e hi hn
    obtain ⟨n, rfl⟩ : ∃ n', n = n' + 1 := ⟨n - 1, by omega⟩
    rw [zf188_2, show zrf 179 9 = 186 from rfl, e0]
    dsimp only
    rw [hM.2.2.2.1.1, if_pos ((zn_le (by omega) (by omega)).mpr (by omega))]
    rfl
  | succ m ih =>
    intro n e hi hn
    obtain ⟨n, rfl⟩ : ∃ n', n = n' + 1 := ⟨n - 1, by omega⟩
    have he : e < E'.length := by omega
    rw [zf188_2, show zrf 179 9 = 186 from rfl, e0]
    dsimp only
    rw [hM.2.2.2.1.1, if_neg (fun q => by have := (zn_le (by omega) (by omega)).mp q; omega), z185b hM hok hbE hg he (Or.inr (Or.inr rfl)), zbi_e, zn2, zn_a1, ih n (e + 1) (by omega) (by omega)]
    cases hz : znm C' E' 121 e with
    | none => rw [if_pos (show zoi none < 0 by decide)]
    | some k =>
      have hk := znm_b hg he (Or.inr (Or.inr rfl)) hz
      rw [show zoi (some k) = nI k from rfl, if_neg (zn_nn (by omega)), show zrf 179 19 = 192 from rfl, zal_n (by show k < 26; omega), hN.1 k hk]
      dsimp only
      cases hSk : S k with
      | some x => rw [if_pos (show ¬ (if (some x).isSome = true then (1 : Int32) else 0) = 0 from (show ¬ (1 : Int32) = 0 by decide))]
      | none =>
        rw [if_neg (show ¬ ¬ (if (none : Option Nat).isSome = true then (1 : Int32) else 0) = 0 from fun q => q rfl), show zrf 179 11 = 188 from rfl, zn_lit 30, zn_add, zal_n (by show 30 + e < 60; omega)]
        have := (hM.2.2.2.1.2.2 e he).2.1
        rw [show 30 * 1 + e = 30 + e by omega] at this
        rw [this, zn_lit 1000, zn_add]
        rfl
theorem zn2_0 {C : List Int32} {E : List zE} {S : Nat → Option Nat} (hg : zgA C E) (h0 : zkd E 0 = 116) (hpos : 0 < E.length) : zn2 C E 102 S E.length 0 = zn2 C E 102 S (E.length - 1) 1 := by
  have h1 := hg 0 hpos
  rw [h0] at h1
  have : znm C E 102 0 = none := by
    unfold znm zcn
    cases hA : (E.getD 0 (0, 0, 0, [])).2.2.2 with
    | nil => rfl
    | cons q A =>
      rw [hA] at h1
      have := h1 q List.mem_cons_self
      unfold zmy at this
      rw [if_neg (by decide), if_neg (by decide)] at this
      cases this
  obtain ⟨m, hm⟩ : ∃ m, E.length = m + 1 := ⟨E.length - 1, by omega⟩
  rw [hm, zn2, this]
  rfl
/-- what the styles of a package keep to -/
def zSg (C : List Int32) (E : List zE) (S : Nat → Option Nat) : Prop := zSb E S ∧ (∀ n e, S n = some e → znm C E 110 e = some n ∧ n < 26) ∧ (∀ e f, e < E.length → znm C E 102 e = some f → ∃ y, S f = some y) ∧ ∀ n e, S n = some e → zit C E S 26 (some e) = none
theorem zn3_n {C : List Int32} {E : List zE} {S : Nat → Option Nat} {K : Nat} : ∀ m e, zn3 C E S K m e = none → ∀ x, e ≤ x → x < e + m → zit C E S K (some x) = none := by
  intro m
  induction m with
  | zero => intro e _ x h1 h2; omega
  | succ m ih =>
    intro e h x h1 h2
    rw [zn3] at h
    split at h
    · next g =>
      by_cases gg : x = e
      · rw [gg]; exact g
      · exact ih _ h x (by omega) (by omega)
    · cases h
theorem zm184 {s : zS} {C : List Int32} {E : List zE} {O : List (Nat × Nat)} {C' : List Int32} {E' : List zE} {O' : List (Nat × Nat)} (hM : zMd s C E O C' E' O') (hok : zok C E) (hbE : zEb E) (hg : zgA C E) (hok' : zok C' E') (hbE' : zEb E') (hg' : zgA C' E') (hne : E ≠ []) (h0 : zkd E 0 = 116) (hnm : ∀ e, 1 ≤ e → e < E.length → ∃ n, znm C E 110 e = some n) (hl : ∀ e, e < E.length → (E.getD e (0, 0, 0, [])).2.1 < 1000) (hl' : ∀ e, e < E'.length → (E'.getD e (0, 0, 0, [])).2.1 < 1000) :
    ∃ s', (∀ q, q < 192 ∨ 194 < q → s' q = s q) ∧ (∀ f, zf6 C E C' E' = .inl f → zf173_19 179 0 s = zf173_58 179 6 (zw s' 179 3 (nI f)) ∧ f < 2000) ∧ (∀ S, zf6 C E C' E' = .inr S → zf173_19 179 0 s = zf173_58 179 0 s' ∧ zNa s' C E S ∧ zSg C E S) := by
  have h30 := hbE.1
  have h30' := hbE'.1
  have hpos : 0 < E.length := List.length_pos_iff.mpr hne
  -- the first loop
  have c : ∀ m n i (t : zS), i + m = 26 → m < n → ∃ t', zf184_2 179 n (nI i) t = zf184_23 179 zfz 1 t' ∧ (∀ j, j < i → t' 192 j = t 192 j) ∧ (∀ j, i ≤ j → j < 26 → t' 192 j = 0) ∧ ∀ q, q ≠ 192 → t' q = t q := by
    intro m
    induction m with
    | zero =>
      intro n i t hi hn
      obtain ⟨n, rfl⟩ : ∃ n', n = n' + 1 := ⟨n - 1, by omega⟩
      exact ⟨t, by rw [zf184_2, if_pos ((zn_geL (k := 26) (by omega) (by decide)).mpr (by omega))], fun _ _ => rfl, fun j a b => by omega, fun _ _ => rfl⟩
    | succ m ih =>
      intro n i t hi hn
      obtain ⟨n, rfl⟩ : ∃ n', n = n' + 1 := ⟨n - 1, by omega⟩
      obtain ⟨t', r1, r2, r3, r4⟩ := ih n (i + 1) (zw t 192 i 0) (by omega) (by omega)
      refine ⟨t', ?_, fun j hj => ?_, fun j a b => ?_, fun q hq => by rw [r4 q hq, zw_ne hq]⟩
      · rw [zf184_2, if_neg (fun q => by have := (zn_geL (k := 26) (by omega) (by decide)).mp q; omega), show zrf 179 19 = 192 from rfl, zbs_0 (by show i < 26; omega), zn_a1, r1]
      · rw [r2 j (by omega), zw_o (Or.inr (by omega))]
      · by_cases g : j = i
        · rw [g, r2 i (by omega), zw_s]
        · exact r3 j (by omega) b
  obtain ⟨s1, a1, a2, a3, a4⟩ := c 26 zfz 0 s rfl (by rw [zfz_e]; decide)
  have a1' : zf184 179 s = zf184_23 179 zfz (nI 1) s1 := a1
  have M1 : zMd s1 C E O C' E' O' := zMd_f hM (fun q a b => a4 q (by omega))
  obtain ⟨s2, b1, b2, b3⟩ := zm184_23 hok hbE hg hnm (E.length - 1) zfz 1 s1 (fun _ => none) (by decide) (by omega) (by rw [zfz_e]; omega) M1 ⟨fun n hn => a3 n (Nat.zero_le _) hn, fun n e _ q => (by cases q)⟩
  have M2 : zMd s2 C E O C' E' O' := zMd_f M1 (fun q a b => b1 q (by omega))
  refine ⟨s2, fun q hq => by rw [b1 q hq, a4 q (by omega)], ?_⟩
  -- a fault
  have t41 : ∀ f, f < 2000 → zf173_41 179 (nI f) s2 = zf173_58 179 6 (zw s2 179 3 (nI f)) := by
    intro f hf
    unfold zf173_41
    rw [if_neg (zn_nn (by omega))]
    rfl
  have tin : ∀ f, f < 2000 → zf184 179 s = some (nI f, s2) → zf173_19 179 0 s = zf173_58 179 6 (zw s2 179 3 (nI f)) := by
    intro f hf h
    unfold zf173_19
    rw [if_neg (show ¬ ¬ (0 : Int32) = 0 from fun q => q rfl), h, zbi_e, if_pos (show 0 ≤ nI f from Int32.not_lt.mp (zn_nn (by omega))), t41 f hf]
  unfold zf6
  cases h1 : zn1 C E (E.length - 1) 1 (fun _ => none) with
  | inl e =>
    have he : e < 1 + (E.length - 1) := by
      have gen : ∀ m e S f, zn1 C E m e S = .inl f → f < e + m := by
        intro m
        induction m with
        | zero => intro e S f h; cases h
        | succ m ih =>
          intro e S f h
          rw [zn1] at h
          split at h
          · have := ih _ _ _ h; omega
          · split at h
            · cases h; omega
            · have := ih _ _ _ h; omega
      exact gen _ _ _ _ h1
    have := hl e (by omega)
    refine ⟨fun f q => ?_, fun S q => (by cases q)⟩
    cases q
    exact ⟨tin _ (by omega) (by rw [a1', b2 e h1]), by omega⟩
  | inr S =>
    obtain ⟨c1, c2⟩ := b3 S h1
    obtain ⟨d1, d2, d3⟩ := zn1_S _ _ _ _ h1
    have dS : ∀ n e, S n = some e → 1 ≤ e ∧ e < E.length ∧ znm C E 110 e = some n := by
      intro n e q
      rcases d2 n e q with g | ⟨g1, g2, g3⟩
      · cases g
      · exact ⟨g1, by omega, g3⟩
    have dT : ∀ x, 1 ≤ x → x < E.length → ∃ n, znm C E 110 x = some n ∧ S n = some x := by
      intro x hx1 hx2
      obtain ⟨n, hn⟩ := hnm x hx1 hx2
      exact ⟨n, hn, d3 x n hx1 (by omega) hn⟩
    have hb : zSb E S := fun n e q => (dS n e q).2.1
    have e136 : zf184_136 179 zfz 1 s2 = _ := zm184_136 M2 hok hbE hg c2 (E.length - 1) zfz 1 (by omega) (by rw [zfz_e]; omega)
    dsimp only
    rw [zn2_0 hg h0 hpos]
    cases h2 : zn2 C E 102 S (E.length - 1) 1 with
    | some e =>
      have he := zn2_b _ _ _ h2
      have := hl e (by omega)
      refine ⟨fun f q => ?_, fun S q => (by cases q)⟩
      cases q
      exact ⟨tin _ (by omega) (by rw [a1', c1, e136, h2]), by omega⟩
    | none =>
      have f2 : ∀ e f, e < E.length → znm C E 102 e = some f → ∃ y, S f = some y := by
        intro e f he hf
        refine zn2_n E.length 0 ?_ e f (Nat.zero_le _) (by omega) hf
        rw [zn2_0 hg h0 hpos]
        exact h2
      have e183 : zf184_183 179 zfz 1 s2 = _ := zm184_183 M2 hok hbE hg hb c2 f2 dT (E.length - 1) zfz 1 (by decide) (by omega) (by rw [zfz_e]; omega)
      rw [zn3_27 hg hb (fun n e q => (dS n e q).2.2) (E.length - 1) 1 (fun x a b => by obtain ⟨n, _, q⟩ := dT x a (by omega); exact ⟨n, q⟩)] at e183
      dsimp only
      cases h3 : zn3 C E S 26 (E.length - 1) 1 with
      | some e =>
        have he := zn3_b _ _ _ h3
        have := hl e (by omega)
        refine ⟨fun f q => ?_, fun S q => (by cases q)⟩
        cases q
        exact ⟨tin _ (by omega) (by rw [a1', c1, e136, h2]; dsimp only; rw [e183, h3]; rfl), by omega⟩
      | none =>
        have e184 : zf184 179 s = some (-1, s2) := by rw [a1', c1, e136, h2]; dsimp only; rw [e183, h3]; rfl
        have e188 : zf188 179 s2 = _ := zm188 M2 hok' hbE' hg' c2 E'.length zfz 0 (Nat.zero_add _) (by rw [zfz_e]; omega)
        have e19 : zf173_19 179 0 s = zf173_41 179 (zoi ((zn2 C' E' 121 S E'.length 0).map (fun e => 1000 + (E'.getD e (0, 0, 0, [])).2.1))) s2 := by
          unfold zf173_19
          rw [if_neg (show ¬ ¬ (0 : Int32) = 0 from fun q => q rfl), e184, zbi_e, if_neg (show ¬ (0 : Int32) ≤ -1 by decide), e188, zbi_e]
        dsimp only
        cases h4 : zn2 C' E' 121 S E'.length 0 with
        | some e =>
          have he := zn2_b _ _ _ h4
          have := hl' e (by omega)
          refine ⟨fun f q => ?_, fun S q => (by cases q)⟩
          cases q
          rw [e19, h4]
          exact ⟨t41 (1000 + (E'.getD e (0, 0, 0, [])).2.1) (by omega), by omega⟩
        | none =>
          refine ⟨fun f q => (by cases q), fun S' q => ?_⟩
          cases q
          refine ⟨?_, c2, hb, fun n e q => ⟨(dS n e q).2.2, znm_b hg (dS n e q).2.1 (Or.inl rfl) (dS n e q).2.2⟩, f2, fun n e q => zn3_n _ _ h3 e (dS n e q).1 (by have := (dS n e q).2.1; omega)⟩
          rw [e19, h4]
          exact if_pos (show zoi none < 0 by decide)
