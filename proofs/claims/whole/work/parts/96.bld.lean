/-! The plain form of a body: what it is, and the class's Builder. -/
set_option maxRecDepth 100000
set_option linter.unusedVariables false
def zoO (O : List (Nat × Nat)) (p : Nat) : Option Nat := match O.find? (fun q => q.1 == p) with
  | some q => some q.2
  | none => none
theorem zow_O {O : List (Nat × Nat)} {p : Nat} : zow O p = zoi (zoO O p) := by
  unfold zow zoO
  cases O.find? (fun q => q.1 == p) <;> rfl
theorem zoO_m {O : List (Nat × Nat)} {p o : Nat} (h : zoO O p = some o) : (p, o) ∈ O := by
  unfold zoO at h
  cases hf : O.find? (fun q => q.1 == p) with
  | none => rw [hf] at h; cases h
  | some q =>
    rw [hf] at h
    have h1 := List.find?_some hf
    have h2 := List.mem_of_find?_eq_some hf
    have h3 : q.2 = o := Option.some.inj h
    have h4 : q.1 = p := by simpa using h1
    rw [← h3, ← h4]
    exact h2
/-- the element that begins at a place -/
def zea (F : List zE) (p : Nat) : Option Nat := (List.range F.length).find? (fun e => decide ((F.getD e (0, 0, 0, [])).2.1 = p))
theorem zea_s {F : List zE} {p e : Nat} (h : zea F p = some e) : e < F.length ∧ (F.getD e (0, 0, 0, [])).2.1 = p := by
  unfold zea at h
  have h1 := List.find?_some h
  have h2 := List.mem_of_find?_eq_some h
  exact ⟨List.mem_range.mp h2, by simpa using h1⟩
theorem zea_n {F : List zE} {p : Nat} (h : zea F p = none) : ∀ e, e < F.length → (F.getD e (0, 0, 0, [])).2.1 ≠ p := by
  unfold zea at h
  rw [List.find?_eq_none] at h
  intro e he
  have := h e (List.mem_range.mpr he)
  simpa using this
theorem zea_i {F : List zE} {p e : Nat} (hi : zinc F) (he : e < F.length) (h : (F.getD e (0, 0, 0, [])).2.1 = p) : zea F p = some e := by
  cases hz : zea F p with
  | none => exact absurd h (zea_n hz e he)
  | some x =>
    obtain ⟨x1, x2⟩ := zea_s hz
    have : x = e := by
      rcases Nat.lt_trichotomy x e with g | g | g
      · have := hi x e g he; omega
      · exact g
      · have := hi e x g x1; omega
    rw [this]
/-- the kind of a node -/
def zkc (k : Int32) : Nat := if k = 105 then 4 else if k = 108 then 3 else if k = 112 then 1 else 0
def zpp (F : List zE) (e : Nat) : Option Nat := if (F.getD e (0, 0, 0, [])).2.2.1 = -1 then none else some (F.getD e (0, 0, 0, [])).2.2.1.toNatClampNeg
/-- a letter more -/
def zrn (D : List zN) (ab : Option Nat) (l : Nat) (c : Int32) : List zN := match D.getLast? with
  | some d => if d.1 = 2 ∧ d.2.2.1 = some l then D.dropLast ++ [(d.1, d.2.1, d.2.2.1, d.2.2.2 ++ [c])] else D ++ [(2, ab, some l, [c])]
  | none => D ++ [(2, ab, some l, [c])]
theorem zrn_e {D : List zN} {d : zN} {ab : Option Nat} {l : Nat} {c : Int32} : zrn (D ++ [d]) ab l c = if d.1 = 2 ∧ d.2.2.1 = some l then D ++ [(d.1, d.2.1, d.2.2.1, d.2.2.2 ++ [c])] else D ++ [d] ++ [(2, ab, some l, [c])] := by
  unfold zrn
  rw [List.getLast?_concat]
  dsimp only
  rw [List.dropLast_concat]
abbrev zXX : Type := List zN × (Nat → Option Nat)
/-- what stands at a place -/
def zsp (LO : Nat → Nat) (C : List Int32) (F : List zE) (O : List (Nat × Nat)) (p : Nat) (X : zXX) : zXX := match zea F p with
  | some e => if zkd F e = 120 then X else (X.1 ++ [(zkc (zkd F e), (zpp F e).bind X.2, if zkd F e = 112 then some (LO e) else none, [])], fun x => if x = e then some X.1.length else X.2 x)
  | none => match zoO O p with
    | some o => (zrn X.1 (X.2 (zpO F o)) (LO o) (C.getD p (-1)), X.2)
    | none => X
def zbl (LO : Nat → Nat) (C : List Int32) (F : List zE) (O : List (Nat × Nat)) : Nat → Nat → zXX → zXX
  | 0, _, X => X
  | m + 1, p, X => zbl LO C F O m (p + 1) (zsp LO C F O p X)
theorem zbl_add {LO : Nat → Nat} {C : List Int32} {F : List zE} {O : List (Nat × Nat)} : ∀ a b p X, zbl LO C F O (a + b) p X = zbl LO C F O b (p + a) (zbl LO C F O a p X) := by
  intro a
  induction a with
  | zero => intro b p X; rw [Nat.zero_add]; rfl
  | succ a ih =>
    intro b p X
    rw [show a + 1 + b = (a + b) + 1 by omega, zbl, zbl, ih, show p + 1 + a = p + (a + 1) by omega]
theorem zrn_len {D : List zN} {ab : Option Nat} {l : Nat} {c : Int32} : D.length ≤ (zrn D ab l c).length ∧ (zrn D ab l c).length ≤ D.length + 1 ∧ (zlt (zrn D ab l c)).length = (zlt D).length + 1 ∧ zrn D ab l c ≠ [] := by
  rcases List.eq_nil_or_concat D with rfl | ⟨D', d, rfl⟩
  · refine ⟨Nat.zero_le _, Nat.le_refl _, rfl, fun q => (by cases q)⟩
  · rw [List.concat_eq_append, zrn_e]
    split
    · refine ⟨?_, ?_, ?_, ?_⟩
      · rw [List.length_append, List.length_append]; exact Nat.le_refl _
      · rw [List.length_append, List.length_append]; exact Nat.le_add_right _ _
      · rw [zlt_app, zlt_app, List.length_append, List.length_append, List.length_append]
        show _ + (_ + 1) = _
        omega
      · intro q; simp at q
    · refine ⟨?_, ?_, ?_, ?_⟩
      · rw [List.length_append, List.length_append, List.length_append]; omega
      · rw [List.length_append]; exact Nat.le_refl _
      · rw [zlt_app, List.length_append]; rfl
      · intro q; simp at q
theorem zsp_len {LO : Nat → Nat} {C : List Int32} {F : List zE} {O : List (Nat × Nat)} {p : Nat} {X : zXX} : X.1.length ≤ (zsp LO C F O p X).1.length ∧ (zlt (zsp LO C F O p X).1).length ≤ (zlt X.1).length + 1 ∧ (X.1 ≠ [] → (zsp LO C F O p X).1 ≠ []) := by
  unfold zsp
  cases zea F p with
  | some e =>
    dsimp only
    split
    · exact ⟨Nat.le_refl _, by omega, fun q => q⟩
    · refine ⟨?_, ?_, fun _ q => ?_⟩
      · rw [List.length_append]; omega
      · rw [zlt_app, List.append_nil]; omega
      · simp at q
  | none =>
    dsimp only
    cases zoO O p with
    | none => exact ⟨Nat.le_refl _, by dsimp only; omega, fun q => q⟩
    | some o =>
      obtain ⟨a, b, c, d⟩ := zrn_len (D := X.1) (ab := X.2 (zpO F o)) (l := LO o) (c := C.getD p (-1))
      exact ⟨a, by dsimp only; omega, fun _ => d⟩
theorem zbl_len {LO : Nat → Nat} {C : List Int32} {F : List zE} {O : List (Nat × Nat)} : ∀ m p X, X.1.length ≤ (zbl LO C F O m p X).1.length ∧ (zlt (zbl LO C F O m p X).1).length ≤ (zlt X.1).length + m ∧ (X.1 ≠ [] → (zbl LO C F O m p X).1 ≠ []) := by
  intro m
  induction m with
  | zero => intro p X; exact ⟨Nat.le_refl _, Nat.le_refl _, fun q => q⟩
  | succ m ih =>
    intro p X
    obtain ⟨a, b, c⟩ := ih (p + 1) (zsp LO C F O p X)
    obtain ⟨a', b', c'⟩ := zsp_len (LO := LO) (C := C) (F := F) (O := O) (p := p) (X := X)
    rw [zbl]
    exact ⟨by omega, by omega, fun q => c (c' q)⟩
/-- what the class's Builder may change -/
def zFB (s s' : zS) : Prop := ∀ q, q < 29 ∨ (36 < q ∧ q < 66) ∨ 68 < q → s' q = s q
theorem zFB_t {s s1 s2 : zS} (h1 : zFB s s1) (h2 : zFB s1 s2) : zFB s s2 := fun q h => (h2 q h).trans (h1 q h)
theorem zQ29 : zQq 29 := Or.inr (Or.inr (Or.inr rfl))
/-- addLetter -/
theorem z76 {s : zS} {D : List zN} {ab : Option Nat} {l : Nat} {c : Int32} (h : zPc 29 s D) (hne : D ≠ []) (hk : ∀ d ∈ D, d.1 < 100 ∧ ∀ x, d.2.2.1 = some x → x < 2000) (hl : l < 2000) (h5 : s 66 5 = zoi ab) (ht : (zlt D).length < 300) : ∃ s', ((zrn D ab l c).length ≤ 40 → zf76 66 (nI l) c s = some (1, s') ∧ zPc 29 s' (zrn D ab l c)) ∧ (¬ (zrn D ab l c).length ≤ 40 → zf76 66 (nI l) c s = some (0, s')) ∧ ∀ q, q < 29 ∨ 36 < q → s' q = s q := by
  rcases List.eq_nil_or_concat D with rfl | ⟨D', d, rfl⟩
  · exact absurd rfl hne
  rw [List.concat_eq_append] at h hne hk ht ⊢
  have hkd := hk d (List.mem_append_right _ List.mem_cons_self)
  have hcap : (D' ++ [d]).length ≤ 40 := h.2.1
  rw [zrn_e]
  unfold zf76
  rw [show zrf 66 2 = 29 from rfl, z77 zQ29 h hkd.1 (by omega) (fun x hx => by have := hkd.2 x hx; omega), zbi_e]
  by_cases g : d.1 = 2 ∧ d.2.2.1 = some l
  · rw [if_pos g, if_pos g, if_pos (show ¬ (1 : Int32) = 0 by decide)]
    obtain ⟨s', a1, a2, a3⟩ := z78 (c := c) zQ29 h ht
    refine ⟨s', fun _ => ⟨?_, a2⟩, fun q => ?_, fun q hq => a3 q (by omega)⟩
    · unfold zf76_29
      rw [show zrf 66 2 = 29 from rfl, a1]
      rfl
    · refine absurd ?_ q
      rw [List.length_append] at hcap ⊢
      exact hcap
  · rw [if_neg g, if_neg g, if_neg (show ¬ ¬ (0 : Int32) = 0 from fun q => q rfl), zgf_e, h5]
    have len : (D' ++ [d] ++ [(2, ab, some l, [c])]).length = (D' ++ [d]).length + 1 := by rw [List.length_append]; rfl
    rw [len]
    by_cases g2 : (D' ++ [d]).length < 40
    · obtain ⟨s1, a1, a2, a3⟩ := z75 (k := 2) (a := ab) (l := some l) zQ29 h g2
      obtain ⟨s2, b1, b2, b3⟩ := z78 (c := c) zQ29 a2 (by rw [zlt_app, List.append_nil]; exact ht)
      refine ⟨s2, fun _ => ⟨?_, b2⟩, fun q => absurd (by omega) q, fun q hq => by rw [b3 q (by omega), a3 q (by omega)]⟩
      have a1' : zf75 29 2 (zoi ab) (nI l) s = some (1, s1) := a1
      rw [a1', zbi_e, if_pos (show ¬ (1 : Int32) = 0 by decide)]
      unfold zf76_29
      rw [show zrf 66 2 = 29 from rfl, b1]
      rfl
    · refine ⟨s, fun q => absurd q (by omega), fun _ => ?_, fun _ _ => rfl⟩
      rw [z75_full zQ29 h (by show _ = 40; omega), zbi_e, if_neg (show ¬ ¬ (0 : Int32) = 0 from fun q => q rfl)]
      rfl
/-- what the class's Builder knows of the elements before nx -/
def zBu (s : zS) (LO : Nat → Nat) (F : List zE) (NM : Nat → Option Nat) (nx : Nat) : Prop := (∀ e, e < nx → (zkd F e = 112 ∨ zkd F e = 120 → s 67 e = nI (LO e)) ∧ (zkd F e ≠ 120 → s 68 e = zoi (NM e))) ∧ ∀ e, e < nx → zkd F e = 112 → (∀ x, e < x → x < nx → zkd F x = 120) → s 66 5 = zoi (NM e)
theorem z72 {s : zS} {C : List Int32} {E : List zE} {O : List (Nat × Nat)} {C' : List Int32} {F : List zE} {O' : List (Nat × Nat)} {S : Nat → Option Nat} {D : List zN} {NM : Nat → Option Nat} {e : Nat} (h : zCs s C E O C' F O') (hg : zgA C E) (hg' : zgA C' F) (hb : zSb E S) (hE : zSe s C E S) (hK : zKp F) (he : e < F.length) (hP : zPc 29 s D) (hB : zBu s (fun e => zpk (zLo C E S C' F e)) F NM e) :
    ∃ s' X, X = (if zkd F e = 120 then (D, NM) else (D ++ [(zkc (zkd F e), (zpp F e).bind NM, if zkd F e = 112 then some (zpk (zLo C E S C' F e)) else none, [])], fun x => if x = e then some D.length else NM x)) ∧ (X.1.length ≤ 40 → zf72 66 (nI e) s = some (1, s') ∧ zPc 29 s' X.1 ∧ zBu s' (fun e => zpk (zLo C E S C' F e)) F X.2 (e + 1)) ∧ (¬ X.1.length ≤ 40 → zf72 66 (nI e) s = some (0, s')) ∧ zFB s s' := by
  have h30 := h.2.2.2.2.1.1
  have hcap : D.length ≤ 40 := hP.2.1
  obtain ⟨x1, x2, x3, x4, x5, x6⟩ := h.2.2.2.1.2.2 e he
  have k1 : s 53 e = zkd F e := x1
  have k3 : s 55 e = (F.getD e (0, 0, 0, [])).2.2.1 := x3
  -- the beginning of the method
  have begin_ : ∀ (j : Nat), j < e → (F.getD e (0, 0, 0, [])).2.2.1 = nI j → zf72 66 (nI e) s = zf72_25 66 (nI e) (nI j) (s 68 j) s := by
    intro j hj hp
    unfold zf72
    rw [show zrf (zrf 66 0) 3 = 55 from rfl, zal_n (by show e < 30; omega), k3, hp, if_pos (show ¬ nI j = -1 from zn_nm (by omega)), show zrf 66 4 = 68 from rfl, zal_n (by show j < 30; omega)]
  obtain ⟨s3, hs3⟩ : ∃ s3, s3 = zw (zw s 68 e (nI D.length)) 67 e (-1) := ⟨_, rfl⟩
  have f3 : ∀ q, q ≠ 67 → q ≠ 68 → s3 q = s q := fun q a b => by rw [hs3, zw_ne a, zw_ne b]
  have P3 : zPc 29 s3 D := zPc_f zQ29 hP (fun q a b => f3 q (by omega) (by omega))
  have H3 : zCs s3 C E O C' F O' := zCs_f h (fun q a b => f3 q (by omega) (by omega))
  have E3 : zSe s3 C E S := fun n hn => by rw [f3 63 (by decide) (by decide), f3 64 (by decide) (by decide), f3 65 (by decide) (by decide)]; exact hE n hn
  have s67 : ∀ j, j ≠ e → s3 67 j = s 67 j := fun j hj => by rw [hs3, zw_o (by omega), zw_o (by omega)]
  have s68 : ∀ j, j ≠ e → s3 68 j = s 68 j := fun j hj => by rw [hs3, zw_o (by omega), zw_o (by omega)]
  have s68e : s3 68 e = nI D.length := by rw [hs3, zw_o (by omega), zw_s]
  have go : ∀ (x2 t0 : Int32), zf72_25 66 (nI e) x2 t0 s = (if zkd F e = 105 then zbi (zf75 29 4 t0 (-1) s3) (fun v5 s6 => zrb v5 s6) else if zkd F e = 108 then zbi (zf75 29 3 t0 (-1) s3) (fun v7 s8 => zrb v7 s8) else if zkd F e = 112 then zgf s3 29 6 (fun v9 => zpf s3 66 5 v9 (fun s10 => zbi (zf73 61 (nI e) 100 s10) (fun v11 s12 => zas s12 67 (nI e) v11 (fun s13 => zal s13 67 (nI e) (fun v14 => zbi (zf75 29 1 t0 v14 s13) (fun v15 s16 => zrb v15 s16)))))) else if zkd F e = 120 then zas s3 68 (nI e) t0 (fun s17 => if ¬ x2 = (-1) then zal s17 67 x2 (fun v18 => zf72_129 66 v18 (nI e) (nI e) s17) else zf72_129 66 100 (nI e) (nI e) s17) else zbi (zf75 29 0 t0 (-1) s3) (fun v19 s20 => zrb v19 s20)) := by
    intro x2 t0
    unfold zf72_25
    rw [show zrf 66 2 = 29 from rfl, zgf_e, hP.1, show zrf 66 4 = 68 from rfl, zas_n (by show e < 30; omega), show zrf 66 3 = 67 from rfl, zas_n (by show e < 30; omega), ← hs3, show zrf (zrf 66 0) 1 = 53 from rfl, zal_n (by show e < 30; omega), f3 53 (by decide) (by decide), k1]
    rfl
  have FB3 : zFB s s3 := fun q hq => f3 q (by omega) (by omega)
  -- a node is added, nothing else
  have plain : ∀ (k : Nat) (a : Option Nat) (t0 : Int32), zkd F e ≠ 120 → zkd F e ≠ 112 → t0 = zoi a → ∃ s', (D.length + 1 ≤ 40 → zbi (zf75 29 (nI k) t0 (-1) s3) (fun v5 s6 => zrb v5 s6) = some (1, s') ∧ zPc 29 s' (D ++ [(k, a, none, [])]) ∧ zBu s' (fun e => zpk (zLo C E S C' F e)) F (fun x => if x = e then some D.length else NM x) (e + 1)) ∧ (¬ D.length + 1 ≤ 40 → zbi (zf75 29 (nI k) t0 (-1) s3) (fun v5 s6 => zrb v5 s6) = some (0, s')) ∧ zFB s s' := by
    intro k a t0 n1 n2 ht
    rw [ht]
    by_cases g : D.length < 40
    · obtain ⟨s', a1, a2, a3⟩ := z75 (k := k) (a := a) (l := none) zQ29 P3 g
      refine ⟨s', fun _ => ⟨?_, a2, ?_⟩, fun q => absurd (by omega) q, zFB_t FB3 (fun q hq => a3 q (by omega))⟩
      · have a1' : zf75 29 (nI k) (zoi a) (-1) s3 = some (1, s') := a1
        rw [a1']
        rfl
      · have q67 : s' 67 = s3 67 := a3 67 (by omega)
        have q68 : s' 68 = s3 68 := a3 68 (by omega)
        refine ⟨fun x hx => ?_, fun x hx hk hn => ?_⟩
        · rw [q67, q68]
          dsimp only
          by_cases gx : x = e
          · rw [gx, s68e, if_pos rfl]
            exact ⟨fun q => by rcases q with q | q; exact absurd q n2; exact absurd q n1, fun _ => rfl⟩
          · rw [s67 x gx, s68 x gx, if_neg gx]
            exact hB.1 x (by omega)
        · by_cases gx : x = e
          · rw [gx] at hk
            exact absurd hk n2
          · exact absurd (hn e (by omega) (by omega)) n1
    · refine ⟨s3, fun q => absurd q (by omega), fun _ => ?_, FB3⟩
      rw [z75_full zQ29 P3 (by show _ = 40; omega)]
      rfl
  have len1 : ∀ (k : Nat) (a b : Option Nat), (D ++ [(k, a, b, ([] : List Int32))]).length = D.length + 1 := fun k a b => by rw [List.length_append]; rfl
  have ppj : ∀ j : Nat, j < e → (F.getD e (0, 0, 0, [])).2.2.1 = nI j → zpp F e = some j := fun j hj hp => by
    unfold zpp
    rw [hp, if_neg (zn_nm (by omega)), zn_cl (by omega)]
  rcases hK e he with ⟨g1, g2, g3⟩ | ⟨j, g1, g2, g3⟩
  · -- the document
    obtain ⟨s', p1, p2, p3⟩ := plain 0 none (-1) (by rw [g3]; decide) (by rw [g3]; decide) rfl
    have e0 : zf72 66 (nI e) s = zbi (zf75 29 (nI 0) (-1) (-1) s3) (fun v5 s6 => zrb v5 s6) := by
      unfold zf72
      rw [show zrf (zrf 66 0) 3 = 55 from rfl, zal_n (by show e < 30; omega), k3, g2, if_neg (show ¬ ¬ (-1 : Int32) = -1 from fun q => q rfl), go, g3, if_neg (by decide), if_neg (by decide), if_neg (by decide), if_neg (by decide)]
      rfl
    refine ⟨s', _, rfl, ?_⟩
    rw [g3, if_neg (by decide), if_neg (by decide), show zkc 100 = 0 from rfl, show zpp F e = none by unfold zpp; rw [g2, if_pos rfl], e0]
    dsimp only
    rw [len1]
    exact ⟨p1, p2, p3⟩
  · rcases g3 with ⟨m1, m2⟩ | ⟨m1, m2⟩ | ⟨m1, m2⟩ | ⟨m1, m2⟩
    · -- a paragraph
      have nx : zkd F j ≠ 120 := by rcases m2 with m2 | m2 <;> rw [m2] <;> decide
      have t0 : s 68 j = zoi (NM j) := (hB.1 j g1).2 nx
      obtain ⟨s4, hs4⟩ : ∃ s4, s4 = zw s3 66 5 (nI D.length) := ⟨_, rfl⟩
      have f4 : ∀ q, q ≠ 66 → s4 q = s3 q := fun q a => by rw [hs4, zw_ne a]
      have H4 : zCs s4 C E O C' F O' := zCs_f H3 (fun q a b => f4 q (by omega))
      have E4 : zSe s4 C E S := fun n hn => by rw [f4 63 (by decide), f4 64 (by decide), f4 65 (by decide)]; exact E3 n hn
      have z := z73 H4 hg hg' hb E4 he zld_g
      have hLo := zLo_p (C := C) (E := E) (S := S) (C' := C') m1
      rw [← hLo] at z
      have z' : zf73 61 (nI e) 100 s4 = some (nI (zpk (zLo C E S C' F e)), s4) := z
      obtain ⟨s5, hs5⟩ : ∃ s5, s5 = zw s4 67 e (nI (zpk (zLo C E S C' F e))) := ⟨_, rfl⟩
      have f5 : ∀ q, q ≠ 67 → s5 q = s4 q := fun q a => by rw [hs5, zw_ne a]
      have P5 : zPc 29 s5 D := zPc_f zQ29 P3 (fun q a b => by rw [f5 q (by omega), f4 q (by omega)])
      have e0 : zf72 66 (nI e) s = zbi (zf75 29 (nI 1) (zoi (NM j)) (zoi (some (zpk (zLo C E S C' F e)))) s5) (fun v15 s16 => zrb v15 s16) := by
        rw [begin_ j g1 g2, go, m1, if_neg (by decide), if_neg (by decide), if_pos rfl, zgf_e, P3.1, zpf_e, ← hs4, z', zbi_e, zas_n (by show e < 30; omega), ← hs5, zal_n (by show e < 30; omega), hs5, zw_s, t0]
        rfl
      have FB5 : zFB s s5 := zFB_t FB3 (fun q hq => by rw [f5 q (by omega), f4 q (by omega)])
      by_cases g : D.length < 40
      · obtain ⟨s', a1, a2, a3⟩ := z75 (k := 1) (a := NM j) (l := some (zpk (zLo C E S C' F e))) zQ29 P5 g
        refine ⟨s', _, rfl, ?_⟩
        rw [m1, if_neg (by decide), if_pos rfl, show zkc 112 = 1 from rfl, ppj j g1 g2, e0]
        dsimp only
        rw [len1]
        refine ⟨fun _ => ⟨?_, a2, ?_⟩, fun q => absurd (by omega) q, zFB_t FB5 (fun q hq => a3 q (by omega))⟩
        · rw [a1]
          rfl
        · have q66 : s' 66 = s5 66 := a3 66 (by omega)
          have q67 : s' 67 = s5 67 := a3 67 (by omega)
          have q68 : s' 68 = s5 68 := a3 68 (by omega)
          refine ⟨fun x hx => ?_, fun x hx hk hn => ?_⟩
          · rw [q67, q68, f5 68 (by decide), f4 68 (by decide)]
            dsimp only
            by_cases gx : x = e
            · rw [gx, s68e, if_pos rfl, hs5, zw_s]
              exact ⟨fun _ => rfl, fun _ => rfl⟩
            · rw [hs5, zw_o (by omega), f4 67 (by decide), s67 x gx, s68 x gx, if_neg gx]
              exact hB.1 x (by omega)
          · rw [q66, f5 66 (by decide), hs4, zw_s]
            dsimp only
            by_cases gx : x = e
            · rw [if_pos gx]
              rfl
            · have := hn e (by omega) (by omega)
              rw [m1] at this
              exact absurd this (by decide)
      · refine ⟨s5, _, rfl, ?_⟩
        rw [m1, if_neg (by decide), if_pos rfl, show zkc 112 = 1 from rfl, ppj j g1 g2, e0]
        dsimp only
        rw [len1]
        refine ⟨fun q => absurd q (by omega), fun _ => ?_, FB5⟩
        rw [z75_full zQ29 P5 (by show _ = 40; omega)]
        rfl
    · -- a list
      have nx : zkd F j ≠ 120 := by rcases m2 with m2 | m2 <;> rw [m2] <;> decide
      obtain ⟨s', p1, p2, p3⟩ := plain 3 (NM j) (s 68 j) (by rw [m1]; decide) (by rw [m1]; decide) ((hB.1 j g1).2 nx)
      have e0 : zf72 66 (nI e) s = zbi (zf75 29 (nI 3) (s 68 j) (-1) s3) (fun v5 s6 => zrb v5 s6) := by
        rw [begin_ j g1 g2, go, m1, if_neg (by decide), if_pos rfl]
        rfl
      refine ⟨s', _, rfl, ?_⟩
      rw [m1, if_neg (by decide), if_neg (by decide), show zkc 108 = 3 from rfl, ppj j g1 g2, e0]
      dsimp only
      rw [len1]
      exact ⟨p1, p2, p3⟩
    · -- an item
      have nx : zkd F j ≠ 120 := by rw [m2]; decide
      obtain ⟨s', p1, p2, p3⟩ := plain 4 (NM j) (s 68 j) (by rw [m1]; decide) (by rw [m1]; decide) ((hB.1 j g1).2 nx)
      have e0 : zf72 66 (nI e) s = zbi (zf75 29 (nI 4) (s 68 j) (-1) s3) (fun v5 s6 => zrb v5 s6) := by
        rw [begin_ j g1 g2, go, m1, if_pos rfl]
        rfl
      refine ⟨s', _, rfl, ?_⟩
      rw [m1, if_neg (by decide), if_neg (by decide), show zkc 105 = 4 from rfl, ppj j g1 g2, e0]
      dsimp only
      rw [len1]
      exact ⟨p1, p2, p3⟩
    · -- an x
      have t0 : s 67 j = nI (zpk (zLo C E S C' F j)) := (hB.1 j g1).1 m2
      obtain ⟨s4, hs4⟩ : ∃ s4, s4 = zw s3 68 e (s 68 j) := ⟨_, rfl⟩
      have f4 : ∀ q, q ≠ 68 → s4 q = s3 q := fun q a => by rw [hs4, zw_ne a]
      have H4 : zCs s4 C E O C' F O' := zCs_f H3 (fun q a b => f4 q (by omega))
      have E4 : zSe s4 C E S := fun n hn => by rw [f4 63 (by decide), f4 64 (by decide), f4 65 (by decide)]; exact E3 n hn
      have z := z73 H4 hg hg' hb E4 he (zLo_g (C' := C') (E' := F) hg hb j)
      have hLo := zLo_x (C := C) (E := E) (S := S) (C' := C') hK h30 he m1 g1 g2
      rw [← hLo] at z
      refine ⟨zw s4 67 e (nI (zpk (zLo C E S C' F e))), _, rfl, ?_⟩
      rw [m1, if_pos rfl]
      dsimp only
      refine ⟨fun _ => ⟨?_, ?_, ?_⟩, fun q => absurd hcap q, fun q hq => ?_⟩
      · rw [begin_ j g1 g2, go, m1, if_neg (by decide), if_neg (by decide), if_neg (by decide), if_pos rfl, zas_n (by show e < 30; omega), ← hs4, if_pos (show ¬ nI j = -1 from zn_nm (by omega)), zal_n (by show j < 30; omega), f4 67 (by decide), s67 j (by omega), t0]
        unfold zf72_129
        rw [show zrf 66 1 = 61 from rfl, z, zbi_e, show zrf 66 3 = 67 from rfl, zas_n (by show e < 30; omega)]
        rfl
      · exact zPc_f zQ29 P3 (fun q a b => by rw [zw_ne (by omega), f4 q (by omega)])
      · refine ⟨fun x hx => ?_, fun x hx hk hn => ?_⟩
        · by_cases gx : x = e
          · rw [gx, zw_s]
            exact ⟨fun _ => rfl, fun q => absurd m1 q⟩
          · rw [zw_o (by omega), f4 67 (by decide), s67 x gx, zw_ne (by decide), hs4, zw_o (by omega), s68 x gx]
            exact hB.1 x (by omega)
        · rw [zw_ne (by decide), f4 66 (by decide), f3 66 (by decide) (by decide)]
          have gx : x ≠ e := fun q => by rw [q, m1] at hk; exact absurd hk (by decide)
          exact hB.2 x (by omega) hk (fun y h1 h2 => hn y h1 (by omega))
      · rw [zw_ne (by omega), f4 q (by omega), f3 q (by omega) (by omega)]
