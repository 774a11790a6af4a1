/-! The plain form: how long it gets, and paragraph by paragraph. -/
set_option maxRecDepth 100000
set_option linter.unusedVariables false
theorem zoO_n {O : List (Nat × Nat)} {p : Nat} (h : zoO O p = none) : ∀ q ∈ O, q.1 ≠ p := by
  unfold zoO at h
  cases hf : O.find? (fun q => q.1 == p) with
  | some q => rw [hf] at h; cases h
  | none =>
    rw [List.find?_eq_none] at hf
    intro q hq
    have := hf q hq
    simpa using this
theorem zcg_le {O2 : List (Nat × Nat)} : ∀ O1 pr, zcg pr O1 ≤ zcg pr (O1 ++ O2) := by
  intro O1
  induction O1 with
  | nil => intro pr; exact Nat.zero_le _
  | cons q O ih =>
    intro pr
    rw [List.cons_append, zcg, zcg]
    have := ih (some q.2)
    omega
theorem zpOf_le (F : List zE) : ∀ k e, (∀ x, x < F.length → ((F.getD x (0, 0, 0, [])).2.2.1.toNatClampNeg < F.length ∨ zkd F x ≠ 120)) → e < F.length → zpOf F k e < F.length := by
  intro k
  induction k with
  | zero => intro e _ h; exact h
  | succ k ih =>
    intro e h1 h
    rw [zpOf]
    split
    · next g =>
      rcases h1 e h with z | z
      · exact ih _ h1 z
      · exact absurd g z
    · exact h
theorem zbl_b {LO : Nat → Nat} {C : List Int32} {F : List zE} {O : List (Nat × Nat)} (hi : zinc F) (hB : zBo C F O) (h30 : F.length ≤ 30) (hK : zKp F) (h60 : ∀ e, e < F.length → C.getD (F.getD e (0, 0, 0, [])).2.1 (-1) = 60) :
    ∀ m p nx (X : zXX) O1 O2, O = O1 ++ O2 → (∀ q ∈ O1, q.1 < p) → (∀ q ∈ O2, p ≤ q.1) → nx ≤ F.length → (∀ e, e < nx → (F.getD e (0, 0, 0, [])).2.1 < p) → (∀ e, nx ≤ e → e < F.length → p ≤ (F.getD e (0, 0, 0, [])).2.1) → X.1.length ≤ nx + zcg none O1 → (∀ q, O1.getLast? = some q → (∃ D d, X.1 = D ++ [d] ∧ d.1 = 2 ∧ d.2.2.1 = some (LO q.2)) ∨ ∃ e, e < nx ∧ zkd F e ≠ 120 ∧ q.1 < (F.getD e (0, 0, 0, [])).2.1) → (zbl LO C F O m p X).1.length ≤ 90 := by
  obtain ⟨hA, h6, _, hs⟩ := hB
  intro m
  induction m with
  | zero =>
    intro p nx X O1 O2 e1 _ _ h1 _ _ h4 _
    have := zcg_le (O2 := O2) O1 none
    rw [← e1] at this
    show X.1.length ≤ 90
    omega
  | succ m ih =>
    intro p nx X O1 O2 e1 a1 a2 h1 h2 h3 h4 h5
    rw [zbl]
    cases hz : zea F p with
    | some e =>
      obtain ⟨y1, y2⟩ := zea_s hz
      have hen : e = nx := by
        rcases Nat.lt_trichotomy e nx with q | q | q
        · have := h2 e q; omega
        · exact q
        · have := hi nx e q y1
          have := h3 nx (Nat.le_refl _) (by omega)
          omega
      subst hen
      have nol : ∀ q ∈ O2, p + 1 ≤ q.1 := fun q hq => by
        have := a2 q hq
        have h7 : q.1 ≠ p := fun z => by
          have := (hA q (by rw [e1]; exact List.mem_append_right _ hq)).2
          rw [z, ← y2] at this
          exact this (h60 e y1)
        omega
      have b2 : ∀ x, x < e + 1 → (F.getD x (0, 0, 0, [])).2.1 < p + 1 := fun x hx => by
        by_cases g : x = e
        · rw [g, y2]; omega
        · have := h2 x (by omega); omega
      have b3 : ∀ x, e + 1 ≤ x → x < F.length → p + 1 ≤ (F.getD x (0, 0, 0, [])).2.1 := fun x g1 g2 => by
        have := hi e x (by omega) g2
        omega
      have sp : zsp LO C F O p X = if zkd F e = 120 then X else (X.1 ++ [(zkc (zkd F e), (zpp F e).bind X.2, if zkd F e = 112 then some (LO e) else none, [])], fun x => if x = e then some X.1.length else X.2 x) := by
        unfold zsp
        rw [hz]
      rw [sp]
      by_cases g : zkd F e = 120
      · rw [if_pos g]
        refine ih (p + 1) (e + 1) X O1 O2 e1 (fun q hq => by have := a1 q hq; omega) nol (by omega) b2 b3 (by omega) (fun q hq => ?_)
        rcases h5 q hq with w | ⟨x, w1, w2, w3⟩
        · exact Or.inl w
        · exact Or.inr ⟨x, by omega, w2, w3⟩
      · rw [if_neg g]
        refine ih (p + 1) (e + 1) _ O1 O2 e1 (fun q hq => by have := a1 q hq; omega) nol (by omega) b2 b3 (by dsimp only; rw [List.length_append, List.length_singleton]; omega) (fun q hq => Or.inr ⟨e, by omega, g, ?_⟩)
        rw [y2]
        exact a1 q (List.mem_of_getLast? hq)
    | none =>
      have b2 : ∀ x, x < nx → (F.getD x (0, 0, 0, [])).2.1 < p + 1 := fun x hx => by have := h2 x hx; omega
      have b3 : ∀ x, nx ≤ x → x < F.length → p + 1 ≤ (F.getD x (0, 0, 0, [])).2.1 := fun x g1 g2 => by
        have := h3 x g1 g2
        have := zea_n hz x g2
        omega
      cases ho : zoO O p with
      | none =>
        have sp : zsp LO C F O p X = X := by
          unfold zsp
          rw [hz, ho]
        rw [sp]
        refine ih (p + 1) nx X O1 O2 e1 (fun q hq => by have := a1 q hq; omega) (fun q hq => ?_) h1 b2 b3 h4 h5
        have := a2 q hq
        have := zoO_n ho q (by rw [e1]; exact List.mem_append_right _ hq)
        omega
      | some o =>
        have hm := zoO_m ho
        have hm2 : (p, o) ∈ O2 := by
          rw [e1] at hm
          rcases List.mem_append.mp hm with q | q
          · have := a1 _ q; dsimp only at this; omega
          · exact q
        obtain ⟨O3, hO3⟩ : ∃ O3, O2 = (p, o) :: O3 := by
          cases hO2 : O2 with
          | nil => rw [hO2] at hm2; cases hm2
          | cons q O3 =>
            rw [hO2] at hm2
            rcases List.mem_cons.mp hm2 with z | z
            · exact ⟨O3, by rw [z]⟩
            · rw [e1, hO2, List.pairwise_append] at hs
              have := (List.pairwise_cons.mp hs.2.1).1 _ z
              have := a2 q (by rw [hO2]; exact List.mem_cons_self)
              dsimp only at *
              omega
        have e2 : O = (O1 ++ [(p, o)]) ++ O3 := by rw [e1, hO3, List.append_assoc]; rfl
        have sp : zsp LO C F O p X = (zrn X.1 (X.2 (zpO F o)) (LO o) (C.getD p (-1)), X.2) := by
          unfold zsp
          rw [hz, ho]
        rw [sp]
        obtain ⟨r1, r2, r3, r4⟩ := zrn_len (D := X.1) (ab := X.2 (zpO F o)) (l := LO o) (c := C.getD p (-1))
        refine ih (p + 1) nx _ (O1 ++ [(p, o)]) O3 e2 (fun q hq => ?_) (fun q hq => ?_) h1 b2 b3 ?_ (fun q hq => ?_)
        · rcases List.mem_append.mp hq with z | z
          · have := a1 q z; omega
          · rw [List.mem_singleton.mp z]; show p < p + 1; omega
        · rw [e1, hO3, List.pairwise_append] at hs
          have := (List.pairwise_cons.mp hs.2.1).1 _ hq
          dsimp only at this
          omega
        · dsimp only
          rw [zcg_app]
          by_cases g : zlo none O1 = some o
          · rw [if_pos g]
            obtain ⟨q, hq, hqo⟩ : ∃ q, O1.getLast? = some q ∧ q.2 = o := by
              unfold zlo at g
              cases hg : O1.getLast? with
              | none => rw [hg] at g; cases g
              | some q => rw [hg] at g; exact ⟨q, rfl, Option.some.inj g⟩
            rcases h5 q hq with ⟨D, d, w1, w2, w3⟩ | ⟨x, w1, w2, w3⟩
            · rw [w1] at h4
              rw [w1, zrn_e, if_pos ⟨w2, by rw [w3, hqo]⟩]
              rw [List.length_append] at h4 ⊢
              exact h4
            · exfalso
              have hq1 := (hA q (by rw [e1]; exact List.mem_append_left _ (List.mem_of_getLast? hq))).1
              have hp1 := (hA _ hm).1
              obtain ⟨_, v2, _⟩ := hq1
              obtain ⟨_, _, v3⟩ := hp1
              dsimp only at v3
              rw [hqo] at v2
              have hxo : zpO F o < x := by
                rcases Nat.lt_trichotomy x (zpO F o) with z | z | z
                · have hlt : zpO F o < F.length := by
                    refine zpOf_le F (o + 1) o (fun y hy => ?_) (hA _ hm).1.1
                    rcases hK y hy with ⟨_, _, u3⟩ | ⟨j, u1, u2, _⟩
                    · right
                      rw [u3]
                      decide
                    · left
                      rw [u2, zn_cl (by omega)]
                      omega
                  have := hi x (zpO F o) z hlt
                  omega
                · rw [z] at w3; omega
                · exact z
              have := v3 x hxo (by omega) w2
              have := h2 x w1
              omega
          · rw [if_neg g]
            omega
        · rw [List.getLast?_concat] at hq
          cases hq
          left
          dsimp only
          rcases List.eq_nil_or_concat X.1 with hX | ⟨D, d, hX⟩
          · rw [hX]
            exact ⟨[], _, rfl, rfl, rfl⟩
          · rw [hX, List.concat_eq_append, zrn_e]
            split
            · next w => exact ⟨D, _, rfl, w.1, w.2⟩
            · exact ⟨D ++ [d], _, rfl, rfl, rfl⟩
/-- the letters of one paragraph -/
def zpf1 (LO : Nat → Nat) (C : List Int32) (F : List zE) (O : List (Nat × Nat)) (e : Nat) (ab : Option Nat) : Nat → Nat → List zN → List zN
  | 0, _, D => D
  | m + 1, k, D => zpf1 LO C F O e ab m (k + 1) (match zoO O k with
    | some o => if zpO F o = e then zrn D ab (LO o) (C.getD k (-1)) else D
    | none => D)
theorem zpf1_add {LO : Nat → Nat} {C : List Int32} {F : List zE} {O : List (Nat × Nat)} {e : Nat} {ab : Option Nat} : ∀ a b p D, zpf1 LO C F O e ab (a + b) p D = zpf1 LO C F O e ab b (p + a) (zpf1 LO C F O e ab a p D) := by
  intro a
  induction a with
  | zero => intro b p D; rw [Nat.zero_add]; rfl
  | succ a ih =>
    intro b p D
    rw [show a + 1 + b = (a + b) + 1 by omega, zpf1, zpf1, ih, show p + 1 + a = p + (a + 1) by omega]
theorem zpf1_id {LO : Nat → Nat} {C : List Int32} {F : List zE} {O : List (Nat × Nat)} {e : Nat} {ab : Option Nat} : ∀ m p D, (∀ k o, p ≤ k → k < p + m → zoO O k = some o → zpO F o ≠ e) → zpf1 LO C F O e ab m p D = D := by
  intro m
  induction m with
  | zero => intro p D _; rfl
  | succ m ih =>
    intro p D h
    rw [zpf1]
    have : (match zoO O p with
      | some o => if zpO F o = e then zrn D ab (LO o) (C.getD p (-1)) else D
      | none => D) = D := by
      cases ho : zoO O p with
      | none => rfl
      | some o => exact if_neg (h p o (Nat.le_refl _) (by omega) ho)
    rw [this]
    exact ih (p + 1) D (fun k o a b => h k o (by omega) (by omega))
theorem zpf1_len {LO : Nat → Nat} {C : List Int32} {F : List zE} {O : List (Nat × Nat)} {e : Nat} {ab : Option Nat} : ∀ m p D, D.length ≤ (zpf1 LO C F O e ab m p D).length := by
  intro m
  induction m with
  | zero => intro p D; exact Nat.le_refl _
  | succ m ih =>
    intro p D
    rw [zpf1]
    refine Nat.le_trans ?_ (ih _ _)
    split
    · split
      · exact zrn_len.1
      · exact Nat.le_refl _
    · exact Nat.le_refl _
/-- within a paragraph -/
theorem zbl_p {LO : Nat → Nat} {C : List Int32} {F : List zE} {O : List (Nat × Nat)} {e : Nat} : ∀ m p D NM, (∀ k x, p ≤ k → k < p + m → zea F k = some x → zkd F x = 120) → (∀ k o, p ≤ k → k < p + m → zea F k = none → zoO O k = some o → zpO F o = e) → (∀ k x, zea F k = some x → zoO O k = none) → zbl LO C F O m p (D, NM) = (zpf1 LO C F O e (NM e) m p D, NM) := by
  intro m
  induction m with
  | zero => intro p D NM _ _ _; rfl
  | succ m ih =>
    intro p D NM h1 h2 h3
    rw [zbl, zpf1]
    have sp : zsp LO C F O p (D, NM) = ((match zoO O p with
      | some o => if zpO F o = e then zrn D (NM e) (LO o) (C.getD p (-1)) else D
      | none => D), NM) := by
      unfold zsp
      cases hz : zea F p with
      | some x =>
        rw [h3 p x hz]
        dsimp only
        rw [if_pos (h1 p x (Nat.le_refl _) (by omega) hz)]
      | none =>
        cases ho : zoO O p with
        | none => rfl
        | some o =>
          have := h2 p o (Nat.le_refl _) (by omega) hz ho
          dsimp only
          rw [if_pos this, this]
    rw [sp]
    exact ih (p + 1) _ NM (fun k x a b => h1 k x (by omega) (by omega)) (fun k o a b => h2 k o (by omega) (by omega)) h3
/-- where nothing stands -/
theorem zbl_id {LO : Nat → Nat} {C : List Int32} {F : List zE} {O : List (Nat × Nat)} : ∀ m p X, (∀ k x, p ≤ k → k < p + m → zea F k = some x → zkd F x = 120) → (∀ k, p ≤ k → k < p + m → zoO O k = none) → zbl LO C F O m p X = X := by
  intro m
  induction m with
  | zero => intro p X _ _; rfl
  | succ m ih =>
    intro p X h1 h2
    rw [zbl]
    have sp : zsp LO C F O p X = X := by
      unfold zsp
      cases hz : zea F p with
      | some x =>
        dsimp only
        rw [if_pos (h1 p x (Nat.le_refl _) (by omega) hz)]
      | none =>
        rw [h2 p (Nat.le_refl _) (by omega)]
    rw [sp]
    exact ih (p + 1) X (fun k x a b => h1 k x (by omega) (by omega)) (fun k a b => h2 k (by omega) (by omega))
/-- where the next beginning stands that is none of an x -/
def zps (C : List Int32) (F : List zE) : Nat → Nat → Nat
  | 0, _ => C.length
  | m + 1, e => if zkd F e = 120 then zps C F m (e + 1) else (F.getD e (0, 0, 0, [])).2.1
theorem zps_le {C : List Int32} {F : List zE} (hi : zinc F) : ∀ m e, e + m = F.length → ∀ x, e ≤ x → x < F.length → zkd F x ≠ 120 → zps C F m e ≤ (F.getD x (0, 0, 0, [])).2.1 := by
  intro m
  induction m with
  | zero => intro e h x h1 h2; omega
  | succ m ih =>
    intro e h x h1 h2 h3
    rw [zps]
    split
    · next g =>
      by_cases q : x = e
      · rw [q] at h3; exact absurd g h3
      · exact ih (e + 1) (by omega) x (by omega) h2 h3
    · by_cases q : x = e
      · rw [q]; exact Nat.le_refl _
      · exact Nat.le_of_lt (hi e x (by omega) h2)
theorem zps_x {C : List Int32} {F : List zE} : ∀ m e, e + m = F.length → zps C F m e = C.length ∨ ∃ x, e ≤ x ∧ x < F.length ∧ zkd F x ≠ 120 ∧ zps C F m e = (F.getD x (0, 0, 0, [])).2.1 := by
  intro m
  induction m with
  | zero => intro e _; exact Or.inl rfl
  | succ m ih =>
    intro e h
    rw [zps]
    split
    · rcases ih (e + 1) (by omega) with g | ⟨x, g1, g2, g3, g4⟩
      · exact Or.inl g
      · exact Or.inr ⟨x, by omega, g2, g3, g4⟩
    · next g => exact Or.inr ⟨e, Nat.le_refl _, by omega, g, rfl⟩
