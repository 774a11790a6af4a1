/-! apply: there is room for what comes of a script. -/
set_option maxRecDepth 100000
set_option linter.unusedVariables false
noncomputable def zpo (F : zSp → Prop) (c : zSp → Nat) (P : List zSp) : Nat := (P.map (fun x => @ite Nat (F x) (Classical.propDecidable _) (c x) 0)).sum
theorem zpo_3 {F F' K1 K2 : zSp → Prop} {c : zSp → Nat} (h0 : ∀ x, F' x → F x) (h1 : ∀ x, K1 x → F x) (h2 : ∀ x, K2 x → F x) (d1 : ∀ x, F' x → ¬ K1 x) (d2 : ∀ x, F' x → ¬ K2 x) (d3 : ∀ x, K1 x → ¬ K2 x) : ∀ P, zpo F' c P + zpo K1 c P + zpo K2 c P ≤ zpo F c P := by
  intro P
  induction P with
  | nil => exact Nat.le_refl _
  | cons x P ih =>
    unfold zpo at ih ⊢
    rw [List.map_cons, List.sum_cons, List.map_cons, List.sum_cons, List.map_cons, List.sum_cons, List.map_cons, List.sum_cons]
    have : @ite Nat (F' x) (Classical.propDecidable _) (c x) 0 + @ite Nat (K1 x) (Classical.propDecidable _) (c x) 0 + @ite Nat (K2 x) (Classical.propDecidable _) (c x) 0 ≤ @ite Nat (F x) (Classical.propDecidable _) (c x) 0 := by
      by_cases a : F' x
      · rw [if_pos a, if_neg (d1 x a), if_neg (d2 x a), if_pos (h0 x a)]
        omega
      · by_cases b : K1 x
        · rw [if_neg a, if_pos b, if_neg (d3 x b), if_pos (h1 x b)]
          omega
        · by_cases e : K2 x
          · rw [if_neg a, if_neg b, if_pos e, if_pos (h2 x e)]
            omega
          · rw [if_neg a, if_neg b, if_neg e]
            exact Nat.zero_le _
    omega
theorem zpo_0 {c : zSp → Nat} : ∀ P, zpo (fun _ => False) c P = 0 := by
  intro P
  induction P with
  | nil => rfl
  | cons x P ih =>
    unfold zpo at ih ⊢
    rw [List.map_cons, List.sum_cons, ih, if_neg (fun q => q)]
theorem zpo_2 {F F' K1 : zSp → Prop} {c : zSp → Nat} (h0 : ∀ x, F' x → F x) (h1 : ∀ x, K1 x → F x) (d1 : ∀ x, F' x → ¬ K1 x) (P : List zSp) : zpo F' c P + zpo K1 c P ≤ zpo F c P := by
  have := zpo_3 (F := F) (F' := F') (K1 := K1) (K2 := fun _ => False) (c := c) h0 h1 (fun x q => absurd q id) d1 (fun x _ q => q) (fun x _ q => q) P
  rw [zpo_0] at this
  omega
theorem zpo_1 {F F' : zSp → Prop} {c : zSp → Nat} (h0 : ∀ x, F' x → F x) (P : List zSp) : zpo F' c P ≤ zpo F c P := by
  have := zpo_2 (F := F) (F' := F') (K1 := fun _ => False) (c := c) h0 (fun x q => absurd q id) (fun x _ q => q) P
  rw [zpo_0] at this
  omega
theorem zpo_le {F : zSp → Prop} {c : zSp → Nat} : ∀ P, zpo F c P ≤ (P.map c).sum := by
  intro P
  induction P with
  | nil => exact Nat.le_refl _
  | cons x P ih =>
    unfold zpo at ih ⊢
    rw [List.map_cons, List.sum_cons, List.map_cons, List.sum_cons]
    split <;> omega
theorem zpo_m {F : zSp → Prop} {c : zSp → Nat} {x : zSp} (hF : F x) : ∀ P, x ∈ P → c x ≤ zpo F c P := by
  intro P
  induction P with
  | nil => intro h; cases h
  | cons y P ih =>
    intro h
    unfold zpo at ih ⊢
    rw [List.map_cons, List.sum_cons]
    rcases List.mem_cons.mp h with h | h
    · rw [← h, if_pos hF]; omega
    · have := ih h; omega
def zsz (g : zN → Nat) (D : List zN) : Nat := (D.map g).sum
def zgl (g : zN → Nat) : Prop := ∀ d d' : zN, d.2.2.2 = d'.2.2.2 → g d = g d'
theorem zsz_cl {g : zN → Nat} {B D : List zN} {j : Nat} {ab : Option Nat} (hg : zgl g) (hB : zWf B) (hj : j < B.length) : zsz g (zcl2 B D j ab) ≤ zsz g D + zW B (fun u => g (zno B u)) j := by
  unfold zsz zcl2
  rw [List.map_append, List.sum_append, List.map_map]
  have e : (List.range' j (zend B j - j)).map (g ∘ zcq B D.length j ab) = (List.range' j (zend B j - j)).map (fun u => g (zno B u)) := List.map_congr_left (fun u _ => hg _ _ rfl)
  rw [e]
  have := zend_s (f := fun u => g (zno B u)) hB hj
  omega
theorem zsz_pin {g : zN → Nat} {A B : List zN} {CP : Nat → Nat} {row : Nat} {pl : Option Nat} (hg : zgl g) (hB : zWf B) : ∀ (P : List zSp) (D : List zN), (∀ x ∈ P, zSv A B x) → zsz g (zpin B P CP row pl D) ≤ zsz g D + zpo (fun x => zky row pl x = true) (zcB B (fun u => g (zno B u))) P := by
  intro P
  induction P with
  | nil => intro D _; exact Nat.le_add_right _ _
  | cons x P ih =>
    intro D hP
    have hP' : ∀ y ∈ P, zSv A B y := fun y hy => hP y (List.mem_cons_of_mem _ hy)
    unfold zpin zpo
    rw [List.foldl_cons, List.map_cons, List.sum_cons]
    by_cases q : zky row pl x = true
    · rw [if_pos q, if_pos q]
      have h := ih (zcl2 B D (x.2.1.getD 0) (some (CP row))) hP'
      unfold zpin zpo at h
      have hx : ∃ j, x.1 = none ∧ x.2.1 = some j ∧ j < B.length := by
        unfold zky at q
        simp only [Bool.and_eq_true, decide_eq_true_eq] at q
        rcases hP x List.mem_cons_self with ⟨i, j, e, _⟩ | ⟨i, e, _⟩ | ⟨j, a, p, e, _, w, _⟩
        · rw [e] at q; cases q.1
        · rw [e] at q; cases q.1
        · exact ⟨j, by rw [e], by rw [e], w⟩
      obtain ⟨j, h1, h2, h3⟩ := hx
      have h4 := zsz_cl (D := D) (ab := some (CP row)) hg hB h3
      have h5 : zcB B (fun u => g (zno B u)) x = zW B (fun u => g (zno B u)) j := by unfold zcB; rw [h2, h1]
      rw [h2, show (some j).getD 0 = j from rfl] at h ⊢
      omega
    · rw [if_neg q, if_neg q]
      have h := ih D hP'
      unfold zpin zpo at h
      omega
/-- ancestors -/
theorem zan_le {D : List zN} (hW : zWf D) {a x : Nat} (h : zan D a x) : a ≤ x := zan_ind (P := fun x => a ≤ x) (Nat.le_refl _) (fun x y e _ ih => by
  rcases (hW x (zab_lt e)).2.1 with ⟨_, w, _⟩ | ⟨c, q1, q2, _⟩
  · rw [e] at w; cases w
  · rw [e] at q2; cases q2; omega) h
theorem zan_cm {D : List zN} (hW : zWf D) {n v : Nat} : ∀ {x}, zan D v x → zan D n x → n ≤ v → zan D n v := fun h => zan_ind (P := fun x => zan D n x → n ≤ v → zan D n v) (fun h1 _ => h1) (fun x y e h2 ih h1 hv => by
  rcases zan_c h1 with rfl | ⟨z, q1, q2⟩
  · have := zan_le hW h2
    rcases (hW n (zab_lt e)).2.1 with ⟨_, w, _⟩ | ⟨c, w1, w2, _⟩
    · rw [e] at w; cases w
    · rw [e] at w2; cases w2; omega
  · rw [e] at q1
    cases q1
    exact ih q2 hv) h
theorem zab_d {D : List zN} (hW : zWf D) {j a : Nat} (h : zab D j = some a) : a < j ∧ zan D a (j - 1) := by
  rcases (hW j (zab_lt h)).2.1 with ⟨_, w, _⟩ | ⟨c, q1, q2, q3⟩
  · rw [h] at w; cases w
  · rw [h] at q2; cases q2; exact ⟨q1, q3⟩
theorem zgB_d {A : List zN} {P : List zSp} (hW : zWf A) {q x : Nat} (h : zan A q x) (hq : zgB A P q = true) : zgB A P x = true := zan_ind (P := fun x => zgB A P x = true) hq (fun x y e _ ih => by
  rw [zgB_e hW, e]
  show (_ || zgB A P y) = true
  rw [ih, Bool.or_true]) h
/-- the open row's node -/
def zOp (A : List zN) (P : List zSp) (p : Nat) (o : Option Nat) : Prop := (p = 0 ∧ o = none) ∨ (0 < p ∧ (∀ x, o = some x → x < p ∧ zan A x (p - 1) ∧ zgB A P x = false) ∧ ∀ y, zan A y (p - 1) → zgB A P y = false → ∃ x, o = some x ∧ zan A y x)
def zaO (A : List zN) (u c : Option Nat) : Prop := ∀ u', u = some u' → ∃ c', c = some c' ∧ zan A u' c'
theorem zOp_u {A : List zN} {P : List zSp} {p : Nat} {o : Option Nat} (hW : zWf A) (h : zOp A P p o) (hg : zgO A P (zab A p) = false) : zaO A (zab A p) o := by
  intro u hu
  obtain ⟨h1, h2⟩ := zab_d hW hu
  rcases h with ⟨e, _⟩ | ⟨_, _, h3⟩
  · omega
  · rw [hu] at hg
    obtain ⟨x, a, b⟩ := h3 u h2 hg
    exact ⟨x, a, b⟩
theorem zOp_lt {A : List zN} {P : List zSp} {p : Nat} {o : Option Nat} (h : zOp A P p o) : ∀ x, o = some x → x < p := by
  rcases h with ⟨_, e⟩ | ⟨_, h, _⟩
  · intro x hx; rw [e] at hx; cases hx
  · exact fun x hx => (h x hx).1
theorem zOp_s {A B : List zN} {P : List zSp} {p : Nat} {Y : zYY} (hW : zWf A) (hp : p < A.length) (h : zOp A P p Y.2.2) : zOp A P (p + 1) (zst2 A B P p Y).2.2 := by
  unfold zst2
  right
  refine ⟨by omega, ?_⟩
  rw [Nat.add_sub_cancel]
  cases hg : zgO A P (zab A p) with
  | true =>
    rw [if_pos rfl]
    cases hq : zab A p with
    | none => rw [hq] at hg; cases hg
    | some q =>
      rw [hq] at hg
      have hgq : zgB A P q = true := hg
      obtain ⟨h1, h2⟩ := zab_d hW hq
      have hgp : zgB A P p = true := zgB_d hW (zan_s hq zan_r) hgq
      rcases h with ⟨e, _⟩ | ⟨h3, h4, h5⟩
      · omega
      · refine ⟨fun x hx => ?_, fun y hy hgy => ?_⟩
        · obtain ⟨a, b, c⟩ := h4 x hx
          refine ⟨by omega, ?_, c⟩
          have hxq : x < q := Nat.lt_of_not_le (fun w => by
            have := zgB_d hW (zan_cm hW b h2 w) hgq
            rw [c] at this; cases this)
          exact zan_s hq (zan_cm hW h2 b (by omega))
        · rcases zan_c hy with rfl | ⟨z, e1, e2⟩
          · rw [hgp] at hgy; cases hgy
          · rw [hq] at e1
            cases e1
            exact h5 y (zan_t e2 h2) hgy
  | false =>
    rw [if_neg (by decide)]
    cases hgp : zgB A P p with
    | true =>
      rw [if_pos rfl]
      dsimp only
      refine ⟨fun x hx => ?_, fun y hy hgy => ?_⟩
      · obtain ⟨h1, h2⟩ := zab_d hW hx
        rw [hx] at hg
        exact ⟨by omega, zan_s hx zan_r, hg⟩
      · rcases zan_c hy with rfl | ⟨z, e1, e2⟩
        · rw [hgp] at hgy; cases hgy
        · exact ⟨z, e1, e2⟩
    | false =>
      rw [if_neg (by decide)]
      dsimp only
      refine ⟨fun x hx => ?_, fun y hy hgy => ⟨p, rfl, hy⟩⟩
      cases hx
      exact ⟨Nat.lt_succ_self _, zan_r, hgp⟩
/-- what may still come -/
def zfu (A : List zN) (p : Nat) (o : Option Nat) (x : zSp) : Prop := (∃ i, x.1 = some i ∧ p ≤ i) ∨ (x.1 = none ∧ ∃ a, x.2.2.1 = some a ∧ ((∃ i, x.2.2.2 = some i ∧ p ≤ i) ∨ (x.2.2.2 = none ∧ (p ≤ a ∨ ∃ c, o = some c ∧ zan A a c))))
theorem zky_e {row : Nat} {pl : Option Nat} {x : zSp} : zky row pl x = true ↔ x.1 = none ∧ x.2.2.1 = some row ∧ x.2.2.2 = pl := by
  unfold zky
  simp only [Bool.and_eq_true, decide_eq_true_eq]
theorem zsz_erw {g : zN → Nat} {A B : List zN} {P : List zSp} {CP : Nat → Nat} {u : Option Nat} {p : Nat} (hg : zgl g) (hA : zWf A) (hB : zWf B) (hP : ∀ x ∈ P, zSv A B x) : ∀ m c D, zaO A u c → (∀ x, c = some x → x < p) → zsz g (zerw A B P CP u m c D) + zpo (zfu A p u) (zcB B (fun u => g (zno B u))) P ≤ zsz g D + zpo (zfu A p c) (zcB B (fun u => g (zno B u))) P := by
  have mono : ∀ c, zaO A u c → zpo (zfu A p u) (zcB B (fun u => g (zno B u))) P ≤ zpo (zfu A p c) (zcB B (fun u => g (zno B u))) P := by
    intro c hc
    refine zpo_1 (fun x hx => ?_) P
    rcases hx with q | ⟨q1, a, q2, q⟩
    · exact Or.inl q
    · refine Or.inr ⟨q1, a, q2, ?_⟩
      rcases q with q | ⟨q3, q | ⟨c', q4, q5⟩⟩
      · exact Or.inl q
      · exact Or.inr ⟨q3, Or.inl q⟩
      · obtain ⟨c'', w1, w2⟩ := hc c' q4
        exact Or.inr ⟨q3, Or.inr ⟨c'', w1, zan_t q5 w2⟩⟩
  intro m
  induction m with
  | zero =>
    intro c D hu hc
    have := mono c hu
    show zsz g D + _ ≤ _
    omega
  | succ m ih =>
    intro c D hu hc
    cases c with
    | none =>
      have := mono none hu
      rw [zerw]
      split <;> omega
    | some x =>
      rw [zerw]
      by_cases e : some x = u
      · rw [if_pos e, ← e]
        exact Nat.le_refl _
      · rw [if_neg e]
        have hx := hc x rfl
        have hu' : zaO A u (zab A x) := by
          intro u' hu'
          obtain ⟨c', q1, q2⟩ := hu u' hu'
          cases q1
          rcases zan_c q2 with w | ⟨y, w1, w2⟩
          · rw [w] at hu'; exact absurd hu'.symm e
          · exact ⟨y, w1, w2⟩
        have h1 := ih (zab A x) (zpin B P CP x none D) hu' (fun y hy => by have := (zab_d hA hy).1; omega)
        have h2 := zsz_pin (CP := CP) (row := x) (pl := none) hg hB P D hP
        have h3 := zpo_2 (F := zfu A p (some x)) (F' := zfu A p (zab A x)) (K1 := fun y => zky x none y = true) (c := zcB B (fun u => g (zno B u))) (fun y hy => by
          rcases hy with q | ⟨q1, a, q2, q⟩
          · exact Or.inl q
          · refine Or.inr ⟨q1, a, q2, ?_⟩
            rcases q with q | ⟨q3, q | ⟨c', q4, q5⟩⟩
            · exact Or.inl q
            · exact Or.inr ⟨q3, Or.inl q⟩
            · exact Or.inr ⟨q3, Or.inr ⟨x, rfl, zan_s q4 q5⟩⟩) (fun y hy => by
          obtain ⟨w1, w2, w3⟩ := zky_e.mp hy
          exact Or.inr ⟨w1, x, w2, Or.inr ⟨w3, Or.inr ⟨x, rfl, zan_r⟩⟩⟩) (fun y hy hk => by
          obtain ⟨w1, w2, w3⟩ := zky_e.mp hk
          rcases hy with ⟨i, q, _⟩ | ⟨q1, a, q2, q⟩
          · rw [w1] at q; cases q
          · rw [w2] at q2
            cases q2
            rcases q with ⟨i, q, _⟩ | ⟨q3, q | ⟨c', q4, q5⟩⟩
            · rw [w3] at q; cases q
            · omega
            · have := zan_le hA q5
              have := (zab_d hA q4).1
              omega) P
        omega
theorem zsz_st {g : zN → Nat} {A B : List zN} {P : List zSp} {p : Nat} {Y : zYY} (hg : zgl g) (hA : zWf A) (hB : zWf B) (hP : ∀ x ∈ P, zSv A B x) (hp : p < A.length) (h : zOp A P p Y.2.2) :
    zsz g (zst2 A B P p Y).1 + zpo (zfu A (p + 1) (zst2 A B P p Y).2.2) (zcB B (fun u => g (zno B u))) P + zFs A (fun u => g (zno A u)) (p + 1) ≤ zsz g Y.1 + zpo (zfu A p Y.2.2) (zcB B (fun u => g (zno B u))) P + zFs A (fun u => g (zno A u)) p := by
  have hF := zFs_e (f := fun u => g (zno A u)) hp
  unfold zst2
  cases hgq : zgO A P (zab A p) with
  | true =>
    rw [if_pos rfl]
    have := zpo_1 (F := zfu A p Y.2.2) (F' := zfu A (p + 1) Y.2.2) (c := zcB B (fun u => g (zno B u))) (fun x hx => by
      rcases hx with ⟨i, q1, q2⟩ | ⟨q1, a, q2, q⟩
      · exact Or.inl ⟨i, q1, by omega⟩
      · refine Or.inr ⟨q1, a, q2, ?_⟩
        rcases q with ⟨i, q3, q4⟩ | ⟨q3, q | q⟩
        · exact Or.inl ⟨i, q3, by omega⟩
        · exact Or.inr ⟨q3, Or.inl (by omega)⟩
        · exact Or.inr ⟨q3, Or.inr q⟩) P
    omega
  | false =>
    rw [if_neg (by decide)]
    have h1 := zsz_erw (g := g) (CP := Y.2.1) (p := p) hg hA hB hP 41 Y.2.2 Y.1 (zOp_u hA h hgq) (zOp_lt h)
    obtain ⟨D1, hD1⟩ : ∃ D1, D1 = zerw A B P Y.2.1 (zab A p) 41 Y.2.2 Y.1 := ⟨_, rfl⟩
    rw [← hD1] at h1 ⊢
    obtain ⟨K1, hK1⟩ : ∃ K1 : zSp → Prop, K1 = fun x => ∃ q, zab A p = some q ∧ zky q (some p) x = true := ⟨_, rfl⟩
    have h2 : zsz g (zpiO B P Y.2.1 (zab A p) p D1) ≤ zsz g D1 + zpo K1 (zcB B (fun u => g (zno B u))) P := by
      unfold zpiO
      cases hq : zab A p with
      | none => exact Nat.le_add_right _ _
      | some q =>
        have h := zsz_pin (A := A) (CP := Y.2.1) (row := q) (pl := some p) hg hB P D1 hP
        have h' := zpo_1 (F := K1) (F' := fun x => zky q (some p) x = true) (c := zcB B (fun u => g (zno B u))) (fun x hx => by rw [hK1]; exact ⟨q, hq, hx⟩) P
        dsimp only
        omega
    have k1 : ∀ x, K1 x → zfu A p (zab A p) x := by
      intro x hx
      rw [hK1] at hx
      obtain ⟨q, w, hx⟩ := hx
      obtain ⟨w1, w2, w3⟩ := zky_e.mp hx
      exact Or.inr ⟨w1, q, w2, Or.inl ⟨p, w3, Nat.le_refl _⟩⟩
    have kx : ∀ {o} x, zfu A (p + 1) o x → ¬ K1 x := by
      intro o x hx hk
      rw [hK1] at hk
      obtain ⟨q, w, hk⟩ := hk
      obtain ⟨w1, w2, w3⟩ := zky_e.mp hk
      rcases hx with ⟨i, q, _⟩ | ⟨q1, a, q2, q⟩
      · rw [w1] at q; cases q
      · rcases q with ⟨i, q3, q4⟩ | ⟨q3, _⟩
        · rw [w3] at q3; cases q3; omega
        · rw [w3] at q3; cases q3
    cases hgp : zgB A P p with
    | true =>
      rw [if_pos rfl]
      have h3 := zpo_2 (F := zfu A p (zab A p)) (F' := zfu A (p + 1) (zab A p)) (K1 := K1) (c := zcB B (fun u => g (zno B u))) (fun x hx => by
        rcases hx with ⟨i, q1, q2⟩ | ⟨q1, a, q2, q⟩
        · exact Or.inl ⟨i, q1, by omega⟩
        · refine Or.inr ⟨q1, a, q2, ?_⟩
          rcases q with ⟨i, q3, q4⟩ | ⟨q3, q | q⟩
          · exact Or.inl ⟨i, q3, by omega⟩
          · exact Or.inr ⟨q3, Or.inl (by omega)⟩
          · exact Or.inr ⟨q3, Or.inr q⟩) k1 kx P
      dsimp only
      omega
    | false =>
      rw [if_neg (by decide)]
      have h3 := zpo_3 (F := zfu A p (zab A p)) (F' := zfu A (p + 1) (some p)) (K1 := K1) (K2 := fun x => x.1 = some p) (c := zcB B (fun u => g (zno B u))) (fun x hx => by
        rcases hx with ⟨i, q1, q2⟩ | ⟨q1, a, q2, q⟩
        · exact Or.inl ⟨i, q1, by omega⟩
        · refine Or.inr ⟨q1, a, q2, ?_⟩
          rcases q with ⟨i, q3, q4⟩ | ⟨q3, q | ⟨c, q4, q5⟩⟩
          · exact Or.inl ⟨i, q3, by omega⟩
          · exact Or.inr ⟨q3, Or.inl (by omega)⟩
          · cases q4
            rcases zan_c q5 with w | ⟨y, w1, w2⟩
            · exact Or.inr ⟨q3, Or.inl (by omega)⟩
            · exact Or.inr ⟨q3, Or.inr ⟨y, w1, w2⟩⟩) k1 (fun x hx => Or.inl ⟨p, hx, Nat.le_refl _⟩) kx (fun x hx hk => by
        rcases hx with ⟨i, q, q'⟩ | ⟨q1, _⟩
        · rw [hk] at q; cases q; omega
        · rw [hk] at q1; cases q1) (fun x hx hk => by
        rw [hK1] at hx
        obtain ⟨q, w, hx⟩ := hx
        obtain ⟨w1, _⟩ := zky_e.mp hx
        rw [w1] at hk; cases hk) P
      have h4 : g (zcpo A B P Y.2.1 p) ≤ g (zno A p) + zpo (fun x => x.1 = some p) (zcB B (fun u => g (zno B u))) P := by
        unfold zcpo
        cases hf : zfx P p with
        | none =>
          have e := hg ((zno A p).1, (zab A p).map Y.2.1, (zno A p).2.2.1, (zno A p).2.2.2) (zno A p) rfl
          dsimp only
          omega
        | some o =>
          cases o with
          | none =>
            have e := hg ((zno A p).1, (zab A p).map Y.2.1, (zno A p).2.2.1, (zno A p).2.2.2) (zno A p) rfl
            dsimp only
            omega
          | some b =>
            have e0 := hg ((zno B b).1, (zab A p).map Y.2.1, (zno B b).2.2.1, (zno B b).2.2.2) (zno B b) rfl
            dsimp only
            rw [e0]
            unfold zfx at hf
            cases hx : P.find? (fun x => x.1 == some p) with
            | none => rw [hx] at hf; cases hf
            | some x =>
              rw [hx] at hf
              have hb : x.2.1 = some b := Option.some.inj hf
              have hxp : x.1 = some p := by simpa using List.find?_some hx
              have := zpo_m (F := fun x => x.1 = some p) (c := zcB B (fun u => g (zno B u))) (x := x) hxp P (List.mem_of_find?_eq_some hx)
              have e : zcB B (fun u => g (zno B u)) x = g (zno B b) := by unfold zcB; rw [hb, hxp]
              omega
      have h5 : zsz g (zpiO B P Y.2.1 (zab A p) p D1 ++ [zcpo A B P Y.2.1 p]) = zsz g (zpiO B P Y.2.1 (zab A p) p D1) + g (zcpo A B P Y.2.1 p) := by
        unfold zsz
        rw [List.map_append, List.sum_append]
        show _ + (_ + 0) = _
        omega
      dsimp only
      omega
theorem zOp_r {A B : List zN} {P : List zSp} (hW : zWf A) : ∀ m p Y, p + m = A.length → zOp A P p Y.2.2 → zOp A P (p + m) (zrun2 A B P m p Y).2.2 := by
  intro m
  induction m with
  | zero => intro p Y _ h; exact h
  | succ m ih =>
    intro p Y hp h
    rw [zrun2, show p + (m + 1) = (p + 1) + m by omega]
    exact ih (p + 1) _ (by omega) (zOp_s hW (by omega) h)
theorem zsz_run {g : zN → Nat} {A B : List zN} {P : List zSp} (hg : zgl g) (hA : zWf A) (hB : zWf B) (hP : ∀ x ∈ P, zSv A B x) : ∀ m p Y, p + m = A.length → zOp A P p Y.2.2 →
    zsz g (zrun2 A B P m p Y).1 + zpo (zfu A A.length (zrun2 A B P m p Y).2.2) (zcB B (fun u => g (zno B u))) P ≤ zsz g Y.1 + zpo (zfu A p Y.2.2) (zcB B (fun u => g (zno B u))) P + zFs A (fun u => g (zno A u)) p := by
  intro m
  induction m with
  | zero => intro p Y hp h; rw [show A.length = p by omega]; exact Nat.le_add_right _ _
  | succ m ih =>
    intro p Y hp h
    rw [zrun2]
    have h1 := ih (p + 1) (zst2 A B P p Y) (by omega) (zOp_s hA (by omega) h)
    have h2 := zsz_st hg hA hB hP (show p < A.length by omega) h
    omega
theorem zsz_ap {g : zN → Nat} {A B : List zN} {P : List zSp} (hg : zgl g) (hA : zWf A) (hB : zWf B) (hP : ∀ x ∈ P, zSv A B x) : zsz g (zap A B P) ≤ zFs A (fun u => g (zno A u)) 0 + (P.map (zcB B (fun u => g (zno B u)))).sum := by
  unfold zap zfin2
  have h0 : zOp A P 0 (([], fun _ => 0, none) : zYY).2.2 := Or.inl ⟨rfl, rfl⟩
  have h1 := zsz_run hg hA hB hP A.length 0 ([], fun _ => 0, none) (Nat.zero_add _) h0
  have h2 := zOp_r (B := B) hA A.length 0 ([], fun _ => 0, none) (Nat.zero_add _) h0
  rw [Nat.zero_add] at h2
  have h3 := zsz_erw (g := g) (CP := (zrun2 A B P A.length 0 ([], fun _ => 0, none)).2.1) (u := none) (p := A.length) hg hA hB hP 41 (zrun2 A B P A.length 0 ([], fun _ => 0, none)).2.2 (zrun2 A B P A.length 0 ([], fun _ => 0, none)).1 (fun u' h => by cases h) (zOp_lt h2)
  have h4 := zpo_le (F := zfu A 0 (([], fun _ => 0, none) : zYY).2.2) (c := zcB B (fun u => g (zno B u))) P
  have h5 : zsz g (([], fun _ => 0, none) : zYY).1 = 0 := rfl
  omega
theorem zlt_sz {D : List zN} : (zlt D).length = zsz (fun d => d.2.2.2.length) D := by
  unfold zlt zsz
  rw [List.length_flatten, List.map_map]
  rfl
theorem zFs_let {D : List zN} : zFs D (fun u => (zno D u).2.2.2.length) 0 = (zlt D).length := by
  have h := zFs_1 (D := D)
  have e : zFs D (zf1 D) 0 = zFs D (fun _ => 1) 0 + zFs D (fun u => (zno D u).2.2.2.length) 0 := by
    unfold zFs
    rw [← zsum_add]
    rfl
  have e1 : zFs D (fun _ => 1) 0 = D.length := by
    unfold zFs
    rw [Nat.sub_zero]
    have : ∀ m k, ((List.range' k m).map (fun _ => 1)).sum = m := by
      intro m
      induction m with
      | zero => intro k; rfl
      | succ m ih => intro k; rw [List.range'_succ, List.map_cons, List.sum_cons, ih]; omega
    exact this _ _
  omega
theorem zsum_take {c : zSp → Nat} {L : List zSp} {n : Nat} : ((L.take n).map c).sum ≤ (L.map c).sum := by
  have e : (L.map c).sum = ((L.take n).map c).sum + ((L.drop n).map c).sum := by
    rw [← List.sum_append, ← List.map_append, List.take_append_drop]
  omega
/-- there is room -/
theorem zap_b {A B : List zN} {n : Nat} (hA : zSm A) (hB : zSm B) (hA0 : 0 < A.length) (hB0 : 0 < B.length) : (zap A B ((zscr A B).take n)).length ≤ 80 ∧ (zlt (zap A B ((zscr A B).take n))).length ≤ 600 := by
  have hP : ∀ x ∈ (zscr A B).take n, zSv A B x := fun x hx => (zscr_p hA.1 hB.1 hA0 hB0 (fun _ => 0) (fun _ => 0)).1 x (List.mem_of_mem_take hx)
  have e1 : ∀ {D : List zN}, zFs D (fun _ => 1) 0 = D.length := by
    intro D
    unfold zFs
    rw [Nat.sub_zero]
    have : ∀ m k, ((List.range' k m).map (fun _ => 1)).sum = m := by
      intro m
      induction m with
      | zero => intro k; rfl
      | succ m ih => intro k; rw [List.range'_succ, List.map_cons, List.sum_cons, ih]; omega
    exact this _ _
  refine ⟨?_, ?_⟩
  · have h1 := zsz_ap (g := fun _ => 1) (fun _ _ _ => rfl) hA.1 hB.1 hP
    have h2 := zsum_take (c := zcB B (fun u => 1)) (L := zscr A B) (n := n)
    have h3 := (zscr_p hA.1 hB.1 hA0 hB0 (fun _ => 0) (fun _ => 1)).2.2
    have h4 : zsz (fun _ => 1) (zap A B ((zscr A B).take n)) = (zap A B ((zscr A B).take n)).length := by
      unfold zsz
      have : ∀ l : List zN, (l.map (fun _ => 1)).sum = l.length := by
        intro l
        induction l with
        | nil => rfl
        | cons x l ih => rw [List.map_cons, List.sum_cons, ih, List.length_cons]; omega
      exact this _
    rw [e1] at h1 h3
    have := hA.2.1
    have := hB.2.1
    omega
  · have h1 := zsz_ap (g := fun d => d.2.2.2.length) (fun d d' e => by show d.2.2.2.length = d'.2.2.2.length; rw [e]) hA.1 hB.1 hP
    have h2 := zsum_take (c := zcB B (fun u => (zno B u).2.2.2.length)) (L := zscr A B) (n := n)
    have h3 := (zscr_p hA.1 hB.1 hA0 hB0 (fun _ => 0) (fun u => (zno B u).2.2.2.length)).2.2
    rw [zFs_let] at h1 h3
    rw [← zlt_sz] at h1
    have := hA.2.2
    have := hB.2.2
    omega
