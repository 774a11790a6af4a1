/-! Documents as trees: what the plain form keeps. -/
set_option maxRecDepth 100000
set_option linter.unusedVariables false
def zab (D : List zN) (j : Nat) : Option Nat := (zno D j).2.1
def zai (D : List zN) : Nat → Option Nat → Option Nat
  | 0, o => o
  | k + 1, o => zai D k (o.bind (zab D))
/-- a is x or is around it -/
def zan (D : List zN) (a x : Nat) : Prop := ∃ k, zai D k (some x) = some a
theorem zai_none {D : List zN} : ∀ k, zai D k none = none := by
  intro k
  induction k with
  | zero => rfl
  | succ k ih => exact ih
theorem zan_r {D : List zN} {x : Nat} : zan D x x := ⟨0, rfl⟩
theorem zan_s {D : List zN} {a x y : Nat} (h : zab D x = some y) (h1 : zan D a y) : zan D a x := by
  obtain ⟨k, hk⟩ := h1
  refine ⟨k + 1, ?_⟩
  rw [zai]
  show zai D k (zab D x) = _
  rw [h]
  exact hk
theorem zan_c {D : List zN} {a x : Nat} (h : zan D a x) : a = x ∨ ∃ y, zab D x = some y ∧ zan D a y := by
  obtain ⟨k, hk⟩ := h
  cases k with
  | zero => cases hk; exact Or.inl rfl
  | succ k =>
    rw [zai] at hk
    cases hy : zab D x with
    | none =>
      have : zai D k none = some a := by rw [← hy]; exact hk
      rw [zai_none] at this
      cases this
    | some y =>
      right
      refine ⟨y, rfl, k, ?_⟩
      rw [← hy]
      exact hk
theorem zan_ind {D : List zN} {a : Nat} {P : Nat → Prop} (h0 : P a) (h1 : ∀ x y, zab D x = some y → zan D a y → P y → P x) : ∀ {x}, zan D a x → P x := by
  intro x ⟨k, hk⟩
  induction k generalizing x with
  | zero => cases hk; exact h0
  | succ k ih =>
    rw [zai] at hk
    cases hy : zab D x with
    | none =>
      have : zai D k none = some a := by rw [← hy]; exact hk
      rw [zai_none] at this
      cases this
    | some y =>
      have e : zai D k (some y) = some a := by rw [← hy]; exact hk
      exact h1 x y hy ⟨k, e⟩ (ih e)
theorem zan_t {D : List zN} {a b x : Nat} (h1 : zan D a b) (h2 : zan D b x) : zan D a x := zan_ind (P := fun x => zan D a x) h1 (fun x y e _ h => zan_s e h) h2
theorem zan_m {D D' : List zN} {a x : Nat} (h : ∀ j a, zab D j = some a → zab D' j = some a) (h1 : zan D a x) : zan D' a x := zan_ind (P := fun x => zan D' a x) zan_r (fun x y e _ h2 => zan_s (h x y e) h2) h1
theorem zab_lt {D : List zN} {j a : Nat} (h : zab D j = some a) : j < D.length := by
  refine Nat.lt_of_not_le (fun q => ?_)
  unfold zab zno at h
  rw [List.getD_eq_getElem?_getD, List.getElem?_eq_none q] at h
  cases h
theorem zab_app {D : List zN} {d : zN} {j a : Nat} (h : zab D j = some a) : zab (D ++ [d]) j = some a := by
  have := zab_lt h
  unfold zab
  rw [zno_l this]
  exact h
/-- a good look -/
def zlkO (o : Option Nat) : Prop := ∀ l, o = some l → ∃ L, zLg L ∧ l = zpk L
def zWn (D : List zN) (j : Nat) : Prop := (zno D j).1 < 5 ∧ ((j = 0 ∧ zab D j = none ∧ (zno D j).1 = 0) ∨ ∃ a, a < j ∧ zab D j = some a ∧ zan D a (j - 1)) ∧ zlkO (zno D j).2.2.1 ∧ zLt (zno D j).2.2.2 ∧ ((zno D j).1 = 1 ∨ (zno D j).1 = 2 → (zno D j).2.2.1 ≠ none) ∧ ∀ a, zab D j = some a → (zno D a).1 ≠ 2
/-- a document in its order -/
def zWf (D : List zN) : Prop := ∀ j, j < D.length → zWn D j
def zWd (D : List zN) : Prop := ∃ dp : Nat → Nat, (∀ j a, zab D j = some a → dp j = dp a + 1) ∧ ∀ j, dp j ≤ 9
theorem zWn_app {D : List zN} {d : zN} {j : Nat} (hj : j < D.length) (h : zWn D j) : zWn (D ++ [d]) j := by
  obtain ⟨h1, h2, h3, h4⟩ := h
  unfold zWn
  have e : zab (D ++ [d]) j = zab D j := by unfold zab; rw [zno_l hj]
  rw [zno_l hj, e]
  refine ⟨h1, ?_, h3, h4.1, h4.2.1, fun a ha => ?_⟩
  · rcases h2 with h2 | ⟨a, q1, q2, q3⟩
    · exact Or.inl h2
    · exact Or.inr ⟨a, q1, q2, zan_m (fun j a h => zab_app h) q3⟩
  · have haj : a < j := by
      rcases h2 with ⟨_, w, _⟩ | ⟨b, q1, q2, _⟩
      · rw [ha] at w; cases w
      · rw [ha] at q2; cases q2; exact q1
    rw [zno_l (by omega)]
    exact h4.2.2 a ha
theorem zWf_app {D : List zN} {d : zN} (h : zWf D) (h1 : d.1 < 5) (h2 : (D = [] ∧ d.2.1 = none ∧ d.1 = 0) ∨ ∃ a, a < D.length ∧ d.2.1 = some a ∧ zan D a (D.length - 1)) (h3 : zlkO d.2.2.1) (h4 : zLt d.2.2.2 ∧ (d.1 = 1 ∨ d.1 = 2 → d.2.2.1 ≠ none) ∧ ∀ a, d.2.1 = some a → (zno D a).1 ≠ 2) : zWf (D ++ [d]) := by
  intro j hj
  rw [List.length_append, List.length_singleton] at hj
  by_cases g : j < D.length
  · exact zWn_app g (h j g)
  · have e : j = D.length := by omega
    subst e
    unfold zWn
    have e1 : zab (D ++ [d]) D.length = d.2.1 := by unfold zab; rw [zno_r]
    rw [zno_r, e1]
    refine ⟨h1, ?_, h3, h4.1, h4.2.1, fun a ha => ?_⟩
    · rcases h2 with ⟨q1, q2, q3⟩ | ⟨a, q1, q2, q3⟩
      · left
        exact ⟨by rw [q1]; rfl, q2, q3⟩
      · exact Or.inr ⟨a, q1, q2, zan_m (fun j a h => zab_app h) q3⟩
    · have hal : a < D.length := by
        rcases h2 with ⟨_, q2, _⟩ | ⟨b, q1, q2, _⟩
        · rw [ha] at q2; cases q2
        · rw [ha] at q2; cases q2; exact q1
      rw [zno_l hal]
      exact h4.2.2 a ha
/-- a letter more in the last node -/
theorem zno_chg {D : List zN} {d d' : zN} {j : Nat} : zno (D ++ [d']) j = if j = D.length then d' else zno (D ++ [d]) j := by
  by_cases g : j = D.length
  · rw [if_pos g, g, zno_r]
  · rw [if_neg g]
    by_cases q : j < D.length
    · rw [zno_l q, zno_l q]
    · unfold zno
      rw [List.getD_eq_getElem?_getD, List.getD_eq_getElem?_getD, List.getElem?_eq_none (by rw [List.length_append, List.length_singleton]; omega), List.getElem?_eq_none (by rw [List.length_append, List.length_singleton]; omega)]
theorem zab_chg {D : List zN} {d d' : zN} (h : d'.2.1 = d.2.1) {j : Nat} : zab (D ++ [d']) j = zab (D ++ [d]) j := by
  unfold zab
  rw [zno_chg (d := d)]
  split
  · next g => rw [g, zno_r, h]
  · rfl
theorem zkd_chg {D : List zN} {d d' : zN} (h : d'.1 = d.1) {j : Nat} : (zno (D ++ [d']) j).1 = (zno (D ++ [d]) j).1 := by
  rw [zno_chg (d := d)]
  split
  · next g => rw [g, zno_r, h]
  · rfl
theorem zWf_let {D : List zN} {d : zN} {c : Int32} (h : zWf (D ++ [d])) (hc : ∃ v, 32 ≤ v ∧ v ≤ 126 ∧ c = nI v) : zWf (D ++ [(d.1, d.2.1, d.2.2.1, d.2.2.2 ++ [c])]) := by
  intro j hj
  rw [List.length_append, List.length_singleton] at hj
  obtain ⟨h1, h2, h3, h4⟩ := h j (by rw [List.length_append, List.length_singleton]; exact hj)
  have e1 : zab (D ++ [(d.1, d.2.1, d.2.2.1, d.2.2.2 ++ [c])]) j = zab (D ++ [d]) j := zab_chg (d := d) (d' := (d.1, d.2.1, d.2.2.1, d.2.2.2 ++ [c])) rfl
  have e2 : ∀ a, zan (D ++ [d]) a (j - 1) → zan (D ++ [(d.1, d.2.1, d.2.2.1, d.2.2.2 ++ [c])]) a (j - 1) := fun a q => zan_m (fun j a h => by rw [zab_chg (d := d) (d' := (d.1, d.2.1, d.2.2.1, d.2.2.2 ++ [c])) rfl]; exact h) q
  unfold zWn
  rw [e1, zno_chg (d := d)]
  by_cases g : j = D.length
  · rw [if_pos g]
    rw [g, zno_r] at h1 h2 h3 h4
    rw [← g] at h2
    have h5 := fun a ha => by
      have := h4.2.2 a ha
      rw [← zkd_chg (d := d) (d' := (d.1, d.2.1, d.2.2.1, d.2.2.2 ++ [c])) rfl] at this
      exact this
    rw [← g] at h5
    refine ⟨h1, ?_, h3, ?_, h4.2.1, h5⟩
    · rcases h2 with ⟨a, b, c⟩ | ⟨a, q1, q2, q3⟩
      · exact Or.inl ⟨a, b, c⟩
      · exact Or.inr ⟨a, q1, q2, e2 a q3⟩
    · intro x hx
      rcases List.mem_append.mp hx with hx | hx
      · exact h4.1 x hx
      · rw [List.mem_singleton.mp hx]; exact hc
  · rw [if_neg g]
    refine ⟨h1, ?_, h3, h4.1, h4.2.1, fun a ha => ?_⟩
    · rcases h2 with h2 | ⟨a, q1, q2, q3⟩
      · exact Or.inl h2
      · exact Or.inr ⟨a, q1, q2, e2 a q3⟩
    · rw [zkd_chg (d := d) (d' := (d.1, d.2.1, d.2.2.1, d.2.2.2 ++ [c])) rfl]
      exact h4.2.2 a ha
/-- how deep the elements lie -/
def zSd (d : Nat → Nat) : List Nat → Prop
  | [] => True
  | e :: st => d e = st.length ∧ zSd d st
theorem zSd_c {d d' : Nat → Nat} {n : Nat} (h : ∀ x, x < n → d' x = d x) : ∀ st, (∀ e ∈ st, e < n) → zSd d st → zSd d' st := by
  intro st
  induction st with
  | nil => intro _ _; trivial
  | cons e st ih => intro h1 h2; exact ⟨by rw [h e (h1 e List.mem_cons_self)]; exact h2.1, ih (fun x hx => h1 x (List.mem_cons_of_mem _ hx)) h2.2⟩
def zDd (E : List zE) (d : Nat → Nat) : Prop := ∀ e, e < E.length → d e ≤ 7 ∧ ∀ j, j < 1000 → (E.getD e (0, 0, 0, [])).2.2.1 = nI j → d e = d j + 1
theorem zDd_app {E : List zE} {q : zE} {d : Nat → Nat} {v : Nat} (h30 : E.length < 1000) (h : zDd E d) (hb : ∀ e j, e < E.length → j < 1000 → (E.getD e (0, 0, 0, [])).2.2.1 = nI j → j < e) (hv : v ≤ 7) (hq : ∀ j, j < 1000 → q.2.2.1 = nI j → j < E.length ∧ v = d j + 1) : zDd (E ++ [q]) (fun x => if x = E.length then v else d x) := by
  intro e he
  rw [List.length_append, List.length_singleton] at he
  by_cases g : e = E.length
  · have e1 : (E ++ [q]).getD e (0, 0, 0, []) = q := by rw [g, List.getD_eq_getElem?_getD, List.getElem?_append_right (Nat.le_refl _), Nat.sub_self]; rfl
    rw [e1]
    dsimp only
    rw [if_pos g]
    refine ⟨hv, fun j hj hp => ?_⟩
    obtain ⟨a, b⟩ := hq j hj hp
    rw [if_neg (by omega)]
    exact b
  · have hl : e < E.length := by omega
    have e1 : (E ++ [q]).getD e (0, 0, 0, []) = E.getD e (0, 0, 0, []) := by rw [List.getD_eq_getElem?_getD, List.getElem?_append_left hl, ← List.getD_eq_getElem?_getD]
    rw [e1]
    dsimp only
    rw [if_neg g]
    refine ⟨(h e hl).1, fun j hj hp => ?_⟩
    have := hb e j hl hj hp
    rw [if_neg (by omega)]
    exact (h e hl).2 j hj hp
theorem zpar_dp {C : List Int32} (hl : C.length ≤ 300) : ∀ n a E st O F O' d, zok C E → E.length ≤ 30 → (∀ e ∈ st, e < E.length) → (E = [] → st = []) → st.length ≤ 8 → zDd E d → zSd d st → zpar C n a E st O = .inr (F, O') → ∃ d, zDd F d := by
  intro n
  induction n with
  | zero => intro a E st O F O' d _ _ _ _ _ _ _ h; cases st <;> cases h
  | succ n ih =>
    intro a E st O F O' d hok h30 hst hE h8 hd hs h
    have hpar : ∀ e j, e < E.length → j < 1000 → (E.getD e (0, 0, 0, [])).2.2.1 = nI j → j < e := by
      intro e j he hj hp
      rcases (hok e he).2 with ⟨_, w⟩ | ⟨k, w1, w2⟩
      · rw [w] at hp; exact absurd hp.symm (zn_nm (by omega))
      · rw [w2] at hp
        have := (zn_eq (by omega) (by omega)).mp hp
        omega
    cases st with
    | nil =>
      rw [zpar] at h
      split at h
      · next gE =>
        subst gE
        split at h
        · next g =>
          cases hb : zbeg C 0 0 a with
          | inl p => rw [hb] at h; cases h
          | inr x =>
            obtain ⟨cl, b, A⟩ := x
            rw [hb] at h
            have h1 := zok_app (q := (C.getD (a + 1) (-1), a, -1, A)) hok (zbeg_ok hl g hb).1 (Or.inl ⟨rfl, rfl⟩)
            have h2 : zDd ([] ++ [((C.getD (a + 1) (-1), a, -1, A) : zE)]) (fun x => if x = ([] : List zE).length then 0 else d x) := zDd_app (by decide) hd hpar (by decide) (fun j hj hp => absurd hp.symm (zn_nm (by omega)))
            refine ih b [(C.getD (a + 1) (-1), a, -1, A)] _ O F O' _ h1 (by show 1 ≤ 30; decide) ?_ (fun q => by cases q) ?_ h2 ?_ h
            · intro e he
              split at he
              · cases he
              · rw [List.mem_singleton.mp he]; exact Nat.zero_lt_one
            · split <;> decide
            · split
              · trivial
              · exact ⟨rfl, trivial⟩
        · cases h
      · split at h
        · cases h; exact ⟨d, hd⟩
        · cases h
    | cons e st =>
      have heE := hst e List.mem_cons_self
      rw [zpar] at h
      split at h
      · next g =>
        split at h
        · split at h
          · split at h
            · exact ih (a + 4) E st O F O' d hok h30 (fun x hx => hst x (List.mem_cons_of_mem _ hx)) (fun q => by rw [q] at heE; exact absurd heE (Nat.not_lt_zero _)) (by rw [List.length_cons] at h8; omega) hd hs.2 h
            · cases h
          · cases h
        · cases hb : zbeg C E.length (st.length + 1) a with
          | inl p => rw [hb] at h; cases h
          | inr x =>
            obtain ⟨cl, b, A⟩ := x
            rw [hb] at h
            have hcd : ¬ (E.length = 30 ∨ st.length + 1 = 8) := by
              intro q
              unfold zbeg at hb
              rw [if_pos q] at hb
              cases hb
            have hlen : st.length + 1 ≤ 7 := by rw [List.length_cons] at h8; omega
            have h1 := zok_app (q := (C.getD (a + 1) (-1), a, nI e, A)) hok (zbeg_ok hl g hb).1 (Or.inr ⟨e, heE, rfl⟩)
            have h2 : zDd (E ++ [((C.getD (a + 1) (-1), a, nI e, A) : zE)]) (fun x => if x = E.length then st.length + 1 else d x) := zDd_app (by omega) hd hpar hlen (fun j hj hp => by
              have := (zn_eq (by omega) (by omega)).mp hp
              subst this
              exact ⟨heE, by rw [hs.1]⟩)
            have h3 : zSd (fun x => if x = E.length then st.length + 1 else d x) (e :: st) := zSd_c (n := E.length) (fun x hx => if_neg (by omega)) _ hst hs
            refine ih b _ _ O F O' _ h1 (by rw [List.length_append, List.length_singleton]; omega) ?_ (fun q => by simp at q) ?_ h2 ?_ h
            · intro x hx
              rw [List.length_append, List.length_singleton]
              split at hx
              · have := hst x hx; omega
              · rcases List.mem_cons.mp hx with w | w
                · omega
                · have := hst x w; omega
            · split
              · exact h8
              · rw [List.length_cons, List.length_cons]; omega
            · split
              · exact h3
              · exact ⟨if_pos rfl, h3⟩
      · split at h
        · cases h
        · exact ih (a + 1) E (e :: st) _ F O' d hok h30 hst hE h8 hd hs h
theorem zkc_1 {k : Int32} (h : zkc k = 1 ∨ zkc k = 2) : k = 112 := by
  unfold zkc at h
  by_cases a : k = 105
  · rw [if_pos a] at h
    omega
  · rw [if_neg a] at h
    by_cases b : k = 108
    · rw [if_pos b] at h
      omega
    · rw [if_neg b] at h
      by_cases c : k = 112
      · exact c
      · rw [if_neg c] at h
        omega
theorem zkc_2 {k : Int32} : zkc k ≠ 2 := by
  intro h
  have := zkc_1 (Or.inr h)
  rw [this] at h
  exact absurd h (by decide)
/-- the invariant along the plain form's making -/
def zWi (F : List zE) (dF : Nat → Nat) (nx : Nat) (X : zXX) : Prop :=
  (∀ e, e < nx → zkd F e ≠ 120 → ∃ n, n < X.1.length ∧ X.2 e = some n ∧ zab X.1 n = (zpp F e).bind X.2 ∧ (zno X.1 n).1 ≠ 2) ∧ (nx = 0 → X.1 = []) ∧
  (0 < nx → ∃ e, e < nx ∧ zkd F e ≠ 120 ∧ (∀ x, e < x → x < nx → zkd F x = 120) ∧ ∃ n, X.2 e = some n ∧ zan X.1 n (X.1.length - 1)) ∧ zWf X.1 ∧
  ∃ dp : Nat → Nat, (∀ j a, zab X.1 j = some a → dp j = dp a + 1) ∧ (∀ j, dp j ≤ 9) ∧ ∀ e n, e < nx → zkd F e ≠ 120 → X.2 e = some n → dp n = dF e
theorem zWi_an {F : List zE} {dF : Nat → Nat} {nx : Nat} {X : zXX} (hK : zKp F) (h30 : F.length ≤ 30) (hnx : nx ≤ F.length) (h : zWi F dF nx X) : ∀ k e j n, e < nx → zkd F e ≠ 120 → X.2 e = some n → zpi F k (some e) = some j → zkd F j ≠ 120 ∧ j < nx ∧ ∃ nj, X.2 j = some nj ∧ zan X.1 nj n := by
  intro k
  induction k with
  | zero =>
    intro e j n he hk hn hp
    cases hp
    exact ⟨hk, he, n, hn, zan_r⟩
  | succ k ih =>
    intro e j n he hk hn hp
    rw [zpi] at hp
    obtain ⟨n', a1, a2, a3⟩ := h.1 e he hk
    rw [hn] at a2
    cases a2
    rcases hK e (by omega) with ⟨_, w, _⟩ | ⟨i, w1, w2, w3⟩
    · rw [if_pos w] at hp
      cases k <;> cases hp
    · have ki : zkd F i ≠ 120 := by
        rcases w3 with g | g | g | g
        · rcases g.2 with q | q <;> rw [q] <;> decide
        · rcases g.2 with q | q <;> rw [q] <;> decide
        · rw [g.2]; decide
        · exact absurd g.1 hk
      rw [w2, if_neg (zn_nm (by omega)), zn_cl (by omega)] at hp
      obtain ⟨ni, b1, b2, b3⟩ := h.1 i (by omega) ki
      obtain ⟨c1, c2, nj, c3, c4⟩ := ih i j ni (by omega) ki b2 hp
      refine ⟨c1, c2, nj, c3, zan_s ?_ c4⟩
      rw [a3.1]
      unfold zpp
      rw [w2, if_neg (zn_nm (by omega)), zn_cl (by omega)]
      exact b2
theorem zbl_w {LO : Nat → Nat} {C : List Int32} {F : List zE} {O : List (Nat × Nat)} {dF : Nat → Nat} (hL : ∀ e, ∃ L, zLg L ∧ LO e = zpk L) (hC : zLt C) (hi : zinc F) (hoo : zoo C F O) (hO : ∀ q ∈ O, zkd F q.2 = 112 ∨ zkd F q.2 = 120) (hB : zBo C F O) (h30 : F.length ≤ 30) (hK : zKp F) (hd : zDd F dF) :
    ∀ m p nx (X : zXX), nx ≤ F.length → (∀ e, e < nx → (F.getD e (0, 0, 0, [])).2.1 < p) → (∀ e, nx ≤ e → e < F.length → p ≤ (F.getD e (0, 0, 0, [])).2.1) → zWi F dF nx X → ∃ nx', zWi F dF nx' (zbl LO C F O m p X) := by
  intro m
  induction m with
  | zero => intro p nx X _ _ _ h; exact ⟨nx, h⟩
  | succ m ih =>
    intro p nx X h1 h2 h3 h
    rw [zbl]
    cases hz : zea F p with
    | some e =>
      obtain ⟨y1, y2⟩ := zea_s hz
      have hen : e = nx := by
        rcases Nat.lt_trichotomy e nx with q | q | q
        · have := h2 e q; omega
        · exact q
        · have := hi nx e q y1
          have := h3 nx (Nat.le_refl _) (by omega)
          omega
      subst hen
      have b2 : ∀ x, x < e + 1 → (F.getD x (0, 0, 0, [])).2.1 < p + 1 := fun x hx => by
        by_cases g : x = e
        · rw [g, y2]; omega
        · have := h2 x (by omega); omega
      have b3 : ∀ x, e + 1 ≤ x → x < F.length → p + 1 ≤ (F.getD x (0, 0, 0, [])).2.1 := fun x g1 g2 => by
        have := hi e x (by omega) g2
        omega
      have sp : zsp LO C F O p X = if zkd F e = 120 then X else (X.1 ++ [(zkc (zkd F e), (zpp F e).bind X.2, if zkd F e = 112 then some (LO e) else none, [])], fun x => if x = e then some X.1.length else X.2 x) := by
        unfold zsp
        rw [hz]
      rw [sp]
      by_cases g : zkd F e = 120
      · rw [if_pos g]
        obtain ⟨i1, i2, i3, i4, dp, i5, i6, i7⟩ := h
        have he0 : e ≠ 0 := fun q => by
          subst q
          rcases hK 0 y1 with ⟨_, _, w⟩ | ⟨j, w, _⟩
          · rw [g] at w; exact absurd w (by decide)
          · omega
        refine ih (p + 1) (e + 1) X (by omega) b2 b3 ⟨fun x hx hk => ?_, fun q => by omega, fun _ => ?_, i4, dp, i5, i6, fun x n hx hk hn => ?_⟩
        · exact i1 x (by have : x ≠ e := fun q => hk (by rw [q]; exact g); omega) hk
        · obtain ⟨e', q1, q2, q3, q4⟩ := i3 (by omega)
          refine ⟨e', by omega, q2, fun x a b => ?_, q4⟩
          by_cases w : x = e
          · rw [w]; exact g
          · exact q3 x a (by omega)
        · exact i7 x n (by have : x ≠ e := fun q => hk (by rw [q]; exact g); omega) hk hn
      · rw [if_neg g]
        obtain ⟨d, hdd⟩ : ∃ d, d = (zkc (zkd F e), (zpp F e).bind X.2, if zkd F e = 112 then some (LO e) else none, ([] : List Int32)) := ⟨_, rfl⟩
        rw [← hdd]
        have hX2 : ∀ x n, X.2 x = some n → x < e → (fun x => if x = e then some X.1.length else X.2 x) x = some n := fun x n q w => by dsimp only; rw [if_neg (by omega)]; exact q
        -- the node above
        have hab : (e = 0 ∧ d.2.1 = none ∧ d.1 = 0 ∧ (zpp F e) = none) ∨ ∃ j nj, j < e ∧ zkd F j ≠ 120 ∧ zpp F e = some j ∧ X.2 j = some nj ∧ d.2.1 = some nj ∧ nj < X.1.length ∧ zan X.1 nj (X.1.length - 1) ∧ dF e = dF j + 1 ∧ (zno X.1 nj).1 ≠ 2 := by
          rcases hK e y1 with ⟨w1, w2, w3⟩ | ⟨j, w1, w2, w3⟩
          · left
            have : zpp F e = none := by unfold zpp; rw [if_pos w2]
            refine ⟨w1, ?_, ?_, this⟩
            · rw [hdd]; show (zpp F e).bind X.2 = none; rw [this]; rfl
            · rw [hdd]; show zkc (zkd F e) = 0; rw [w3]; rfl
          · right
            have ki : zkd F j ≠ 120 := by
              rcases w3 with g' | g' | g' | g'
              · rcases g'.2 with q | q <;> rw [q] <;> decide
              · rcases g'.2 with q | q <;> rw [q] <;> decide
              · rw [g'.2]; decide
              · exact absurd g'.1 g
            have hpp : zpp F e = some j := by unfold zpp; rw [w2, if_neg (zn_nm (by omega)), zn_cl (by omega)]
            obtain ⟨e', q1, q2, q3, n', q4, q5⟩ := h.2.2.1 (by omega)
            have hje : j ≤ e' := Nat.le_of_not_lt (fun q => ki (q3 j q w1))
            obtain ⟨k, hk⟩ := hB.2.2.1 e j y1 w2 (by omega) e' hje q1
            obtain ⟨c1, c2, nj, c3, c4⟩ := zWi_an hK h30 h1 h k e' j n' q1 q2 q4 hk
            obtain ⟨nj', u1, u2, u3⟩ := h.1 j w1 ki
            rw [c3] at u2
            cases u2
            refine ⟨j, nj, w1, ki, hpp, c3, ?_, u1, zan_t c4 q5, (hd e y1).2 j (by omega) w2, u3.2⟩
            rw [hdd]
            show (zpp F e).bind X.2 = some nj
            rw [hpp]
            exact c3
        obtain ⟨i1, i2, i3, i4, dp, i5, i6, i7⟩ := h
        have labs : zab (X.1 ++ [d]) X.1.length = d.2.1 := by unfold zab; rw [zno_r]
        refine ih (p + 1) (e + 1) _ (by omega) b2 b3 ⟨fun x hx hk => ?_, fun q => by omega, fun _ => ⟨e, by omega, g, fun x a b => by omega, X.1.length, if_pos rfl, ?_⟩, ?_, fun x => if x = X.1.length then dF e else dp x, ?_, ?_, ?_⟩
        · dsimp only
          by_cases w : x = e
          · refine ⟨X.1.length, by rw [List.length_append, List.length_singleton]; omega, if_pos w, ?_, ?_⟩
            rotate_left
            · rw [zno_r, hdd]
              exact zkc_2
            rw [labs]
            rcases hab with ⟨_, z1, _, z2⟩ | ⟨j, nj, z1, z2, z3, z4, z5, _⟩
            · rw [w, z2, z1]; rfl
            · rw [w, z3, z5]
              exact (hX2 j nj z4 z1).symm
          · obtain ⟨n, v1, v2, v3⟩ := i1 x (by omega) hk
            refine ⟨n, by rw [List.length_append, List.length_singleton]; omega, by rw [if_neg w]; exact v2, ?_, by rw [zno_l v1]; exact v3.2⟩
            have : zab (X.1 ++ [d]) n = zab X.1 n := by unfold zab; rw [zno_l v1]
            rw [this, v3.1]
            cases hp : zpp F x with
            | none => rfl
            | some y =>
              show X.2 y = if y = e then some X.1.length else X.2 y
              have : y < x := by
                rcases hK x (by omega) with ⟨_, w2, _⟩ | ⟨j, w1, w2, _⟩
                · unfold zpp at hp; rw [if_pos w2] at hp; cases hp
                · unfold zpp at hp
                  rw [w2, if_neg (zn_nm (by omega)), zn_cl (by omega)] at hp
                  cases hp
                  exact w1
              rw [if_neg (by omega)]
        · dsimp only
          rw [List.length_append, List.length_singleton, Nat.add_sub_cancel]
          exact zan_r
        · refine zWf_app i4 ?_ ?_ ?_ ?_
          · rw [hdd]
            have := zkc_lt (zkd F e)
            show zkc (zkd F e) < 5
            omega
          · rcases hab with ⟨z0, z1, z3, z2⟩ | ⟨j, nj, z1, z2, z3, z4, z5, z6, z7, _⟩
            · exact Or.inl ⟨i2 z0, z1, z3⟩
            · exact Or.inr ⟨nj, z6, z5, z7⟩
          · rw [hdd]
            intro l hl
            dsimp only at hl
            split at hl
            · cases hl; exact hL e
            · cases hl
          · rw [hdd]
            refine ⟨fun x hx => (by cases hx), fun q => ?_, fun a ha => ?_⟩
            rotate_left
            · rcases hab with ⟨_, z1, _⟩ | ⟨j, nj, z1, z2, z3, z4, z5, z6, z7, z8, z9⟩
              · rw [hdd] at z1
                rw [show (zpp F e).bind X.2 = none from z1] at ha
                cases ha
              · rw [hdd] at z5
                rw [show (zpp F e).bind X.2 = some nj from z5] at ha
                cases ha
                exact z9
            have h112 := zkc_1 q
            show (if zkd F e = 112 then some (LO e) else none) ≠ none
            rw [if_pos h112]
            exact fun q => (by cases q)
        · intro j a hj
          dsimp only at hj ⊢
          by_cases w : j = X.1.length
          · rw [if_pos w]
            rw [w, labs] at hj
            rcases hab with ⟨_, z1, _⟩ | ⟨k, nj, z1, z2, z3, z4, z5, z6, _, z7, _⟩
            · rw [z1] at hj; cases hj
            · rw [z5] at hj
              cases hj
              rw [if_neg (by omega), i7 k a z1 z2 z4]
              exact z7
          · have hjl := zab_lt hj
            rw [List.length_append, List.length_singleton] at hjl
            have e1 : zab (X.1 ++ [d]) j = zab X.1 j := by unfold zab; rw [zno_l (by omega)]
            rw [e1] at hj
            rcases (i4 j (by omega)).2.1 with ⟨_, u, _⟩ | ⟨a', u1, u2, _⟩
            · rw [hj] at u; cases u
            · rw [hj] at u2
              cases u2
              rw [if_neg w, if_neg (by omega)]
              exact i5 j a hj
        · intro j
          dsimp only
          split
          · have := (hd e y1).1; omega
          · exact i6 j
        · intro x n hx hk hn
          dsimp only at hn ⊢
          by_cases w : x = e
          · rw [if_pos w] at hn
            cases hn
            rw [if_pos rfl, w]
          · rw [if_neg w] at hn
            obtain ⟨n', v1, v2, _⟩ := i1 x (by omega) hk
            rw [hn] at v2
            cases v2
            rw [if_neg (by omega)]
            exact i7 x n (by omega) hk hn
    | none =>
      have b2 : ∀ x, x < nx → (F.getD x (0, 0, 0, [])).2.1 < p + 1 := fun x hx => by have := h2 x hx; omega
      have b3 : ∀ x, nx ≤ x → x < F.length → p + 1 ≤ (F.getD x (0, 0, 0, [])).2.1 := fun x g1 g2 => by
        have := h3 x g1 g2
        have := zea_n hz x g2
        omega
      cases ho : zoO O p with
      | none =>
        have sp : zsp LO C F O p X = X := by
          unfold zsp
          rw [hz, ho]
        rw [sp]
        exact ih (p + 1) nx X h1 b2 b3 h
      | some o =>
        have sp : zsp LO C F O p X = (zrn X.1 (X.2 (zpO F o)) (LO o) (C.getD p (-1)), X.2) := by
          unfold zsp
          rw [hz, ho]
        rw [sp]
        have hm := zoO_m ho
        obtain ⟨u1, u2, u3⟩ := hoo _ hm
        obtain ⟨w1, w2, w3⟩ := (hB.1 _ hm).1
        have hk := hO _ hm
        dsimp only at u1 u2 u3 w1 w2 w3 hk
        have onx : o < nx := Nat.lt_of_not_le (fun q => by have := h3 o q u2; omega)
        obtain ⟨y1, y2⟩ := zpO_k hK h30 o u2 hk
        have hc : ∃ v, 32 ≤ v ∧ v ≤ 126 ∧ C.getD p (-1) = nI v := by
          have : C.getD p (-1) ∈ C := by
            rw [List.getD_eq_getElem?_getD, List.getElem?_eq_getElem u1]
            exact List.getElem_mem u1
          exact hC _ this
        refine ih (p + 1) nx _ h1 b2 b3 ?_
        obtain ⟨i1, i2, i3, i4, dp, i5, i6, i7⟩ := h
        obtain ⟨e', q1, q2, q3, n', q4, q5⟩ := i3 (by omega)
        have hpe : zpO F o = e' := by
          rcases Nat.lt_trichotomy (zpO F o) e' with z | z | z
          · have := w3 e' z (by omega) q2
            have := h2 e' q1
            omega
          · exact z
          · have := q3 _ z (by omega)
            rw [this] at y1
            exact absurd y1 (by decide)
        rw [hpe, q4]
        obtain ⟨n2, v1, v2, v3⟩ := i1 e' q1 q2
        rw [q4] at v2
        cases v2
        have hne : X.1 ≠ [] := fun q => by rw [q] at v1; exact absurd v1 (Nat.not_lt_zero _)
        rcases List.eq_nil_or_concat X.1 with hX | ⟨D, d, hX⟩
        · exact absurd hX hne
        · rw [List.concat_eq_append] at hX
          rw [hX] at i1 i2 i4 i5 q5 v1 v3 ⊢
          rw [zrn_e]
          by_cases gr : d.1 = 2 ∧ d.2.2.1 = some (LO o)
          · rw [if_pos gr]
            have ech : ∀ {j}, zab (D ++ [(d.1, d.2.1, d.2.2.1, d.2.2.2 ++ [C.getD p (-1)])]) j = zab (D ++ [d]) j := zab_chg (d := d) (d' := (d.1, d.2.1, d.2.2.1, d.2.2.2 ++ [C.getD p (-1)])) rfl
            have elen : (D ++ [((d.1, d.2.1, d.2.2.1, d.2.2.2 ++ [C.getD p (-1)]) : zN)]).length = (D ++ [d]).length := by rw [List.length_append, List.length_append]; rfl
            refine ⟨fun x hx hkx => ?_, fun q => by omega, fun _ => ⟨e', q1, q2, q3, n', q4, ?_⟩, zWf_let i4 hc, dp, ?_, i6, i7⟩
            · obtain ⟨n, z1, z2, z3⟩ := i1 x hx hkx
              exact ⟨n, by dsimp only; rw [elen]; exact z1, z2, by dsimp only; rw [ech]; exact z3.1, by dsimp only; rw [zkd_chg (d := d) (d' := (d.1, d.2.1, d.2.2.1, d.2.2.2 ++ [C.getD p (-1)])) rfl]; exact z3.2⟩
            · dsimp only
              rw [elen]
              exact zan_m (fun j a h => by rw [ech]; exact h) q5
            · intro j a hj
              dsimp only at hj
              rw [ech] at hj
              exact i5 j a hj
          · rw [if_neg gr]
            obtain ⟨D1, hD1⟩ : ∃ D1, D1 = D ++ [d] := ⟨_, rfl⟩
            rw [← hD1] at i1 i2 i4 i5 q5 v1 v3 ⊢
            obtain ⟨dn, hdn⟩ : ∃ dn : zN, dn = (2, some n', some (LO o), [C.getD p (-1)]) := ⟨_, rfl⟩
            rw [← hdn]
            have labs : zab (D1 ++ [dn]) D1.length = some n' := by unfold zab; rw [zno_r, hdn]
            refine ⟨fun x hx hkx => ?_, fun q => by omega, fun _ => ⟨e', q1, q2, q3, n', q4, ?_⟩, ?_, fun x => if x = D1.length then dF e' + 1 else dp x, ?_, ?_, ?_⟩
            · obtain ⟨n, z1, z2, z3⟩ := i1 x hx hkx
              dsimp only
              refine ⟨n, by rw [List.length_append, List.length_singleton]; omega, z2, ?_, by rw [zno_l z1]; exact z3.2⟩
              have : zab (D1 ++ [dn]) n = zab D1 n := by unfold zab; rw [zno_l z1]
              rw [this]
              exact z3.1
            · dsimp only
              rw [List.length_append, List.length_singleton, Nat.add_sub_cancel]
              exact zan_s labs zan_r
            · refine zWf_app i4 (by rw [hdn]; show 2 < 5; decide) (Or.inr ⟨n', v1, by rw [hdn], q5⟩) ?_ ?_
              · rw [hdn]
                intro l hl
                cases hl
                exact hL o
              · rw [hdn]
                refine ⟨fun x hx => ?_, fun _ q => (by cases q), fun a ha => ?_⟩
                · rw [List.mem_singleton.mp hx]
                  exact hc
                · cases ha
                  exact v3.2
            · intro j a hj
              dsimp only at hj ⊢
              by_cases w : j = D1.length
              · rw [if_pos w]
                rw [w, labs] at hj
                cases hj
                rw [if_neg (by omega), i7 e' n' q1 q2 q4]
              · have hjl := zab_lt hj
                rw [List.length_append, List.length_singleton] at hjl
                have e1 : zab (D1 ++ [dn]) j = zab D1 j := by unfold zab; rw [zno_l (by omega)]
                rw [e1] at hj
                rcases (i4 j (by omega)).2.1 with ⟨_, u, _⟩ | ⟨a', u1, u2, _⟩
                · rw [hj] at u; cases u
                · rw [hj] at u2
                  cases u2
                  rw [if_neg w, if_neg (by omega)]
                  exact i5 j a hj
            · intro j
              dsimp only
              split
              · have := (hd e' (by omega)).1; omega
              · exact i6 j
            · intro x n hx hkx hn
              obtain ⟨n3, z1, z2, _⟩ := i1 x hx hkx
              dsimp only at hn ⊢
              rw [hn] at z2
              cases z2
              rw [if_neg (by omega)]
              exact i7 x n hx hkx hn
