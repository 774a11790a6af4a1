/-! apply: what comes of a script is a document. -/
set_option maxRecDepth 100000
set_option linter.unusedVariables false
theorem zno_x {D X : List zN} {j : Nat} (h : j < D.length) : zno (D ++ X) j = zno D j := by
  unfold zno
  rw [List.getD_eq_getElem?_getD, List.getElem?_append_left h, ← List.getD_eq_getElem?_getD]
theorem zab_x {D X : List zN} {j a : Nat} (h : zab D j = some a) : zab (D ++ X) j = some a := by
  unfold zab
  rw [zno_x (zab_lt h)]
  exact h
theorem zan_x {D X : List zN} {a j : Nat} (h : zan D a j) : zan (D ++ X) a j := zan_m (fun j a h => zab_x h) h
theorem zcl2_w {B D : List zN} {j r : Nat} (hB : zWf B) (hj : j < B.length) (hD : zWf D) (hr : r < D.length) (hk2 : (zno D r).1 ≠ 2) (ha : zan D r (D.length - 1)) : zWf (zcl2 B D j (some r)) ∧ zan (zcl2 B D j (some r)) r ((zcl2 B D j (some r)).length - 1) := by
  obtain ⟨e1, e2, e3, e4⟩ := zend_p hj
  obtain ⟨Q, hQ⟩ : ∃ Q : Nat → List zN, Q = fun u => D ++ (List.range' j (u - j)).map (zcq B D.length j (some r)) := ⟨_, rfl⟩
  have piece : ∀ u, j ≤ u → Q (u + 1) = Q u ++ [zcq B D.length j (some r) u] := by
    intro u h1
    rw [hQ]
    dsimp only
    rw [show u + 1 - j = (u - j) + 1 by omega, List.range'_concat, List.map_append, show j + 1 * (u - j) = u by omega, List.append_assoc]
    rfl
  have qlen : ∀ u, j ≤ u → (Q u).length = D.length + (u - j) := by
    intro u h1
    rw [hQ]
    dsimp only
    rw [List.length_append, List.length_map, List.length_range']
  have q0 : Q j = D := by
    rw [hQ]
    dsimp only
    rw [Nat.sub_self]
    exact List.append_nil _
  have qn : ∀ u x, j ≤ x → x < u → zno (Q u) (D.length + (x - j)) = zcq B D.length j (some r) x := by
    intro u
    induction u with
    | zero => intro x _ h; omega
    | succ u ih =>
      intro x h1 h2
      rw [piece u (by omega)]
      have hl := qlen u (by omega)
      by_cases g : x = u
      · subst g
        rw [← hl, zno_r]
      · rw [zno_l (by omega)]
        exact ih x h1 (by omega)
  have shift : ∀ u v, j ≤ v → ∀ {x}, zan B v x → x < u → zan (Q u) (D.length + (v - j)) (D.length + (x - j)) := by
    intro u v hv x h
    refine zan_ind (P := fun x => x < u → zan (Q u) (D.length + (v - j)) (D.length + (x - j))) (fun _ => zan_r) (fun x y e h1 ih hx => ?_) h
    have hy := (zab_d hB e).1
    have hvy := zan_le hB h1
    refine zan_s ?_ (ih (by omega))
    unfold zab
    rw [qn u x (by omega) hx]
    show (if x = j then some r else (zab B x).map (fun v => D.length + (v - j))) = _
    rw [if_neg (by omega), e]
    rfl
  have loop : ∀ m u, j ≤ u → u + m = zend B j → zWf (Q u) → zWf (Q (zend B j)) := by
    intro m
    induction m with
    | zero => intro u h1 h2 h; rw [← h2]; exact h
    | succ m ih =>
      intro u h1 h2 h
      refine ih (u + 1) (by omega) (by omega) ?_
      rw [piece u h1]
      have hl := qlen u h1
      have e5 : j < u → D.length + (u - j) - 1 = D.length + (u - 1 - j) := fun w => by omega
      have hwn := hB u (by omega)
      have hab2 : ∀ a, (zcq B D.length j (some r) u).2.1 = some a → (zno (Q u) a).1 ≠ 2 := by
        intro a haa
        by_cases g : u = j
        · rw [show (zcq B D.length j (some r) u).2.1 = some r from if_pos g] at haa
          cases haa
          rw [g, q0]
          exact hk2
        · obtain ⟨v, v1, v2⟩ := e3 u (by omega) (by omega)
          have v3 := (zab_d hB v1).1
          rw [show (zcq B D.length j (some r) u).2.1 = (zab B u).map (fun v => D.length + (v - j)) from if_neg g, v1] at haa
          cases haa
          rw [qn u v v2 v3]
          exact hwn.2.2.2.2.2 v v1
      refine zWf_app h hwn.1 (Or.inr ?_) hwn.2.2.1 ⟨hwn.2.2.2.1, hwn.2.2.2.2.1, hab2⟩
      by_cases g : u = j
      · subst g
        refine ⟨r, by omega, if_pos rfl, ?_⟩
        rw [q0]
        exact ha
      · obtain ⟨v, v1, v2⟩ := e3 u (by omega) (by omega)
        obtain ⟨v3, v4⟩ := zab_d hB v1
        refine ⟨D.length + (v - j), by omega, ?_, ?_⟩
        · show (if u = j then some r else (zab B u).map (fun v => D.length + (v - j))) = _
          rw [if_neg g, v1]
          rfl
        · have := shift u v v2 v4 (by omega)
          rw [hl, e5 (Nat.lt_of_le_of_ne h1 (fun w => g w.symm))]
          exact this
  have hf : zcl2 B D j (some r) = Q (zend B j) := by rw [hQ]; rfl
  rw [hf]
  refine ⟨loop (zend B j - j) j (Nat.le_refl _) (by omega) (by rw [q0]; exact hD), ?_⟩
  have h1 := shift (zend B j) j (Nat.le_refl _) (zend_a hB hj (zend B j - 1) (by omega) (by omega)) (by omega)
  rw [qlen _ (by omega), show D.length + (zend B j - j) - 1 = D.length + (zend B j - 1 - j) by omega]
  refine zan_t (zan_s ?_ zan_r) h1
  unfold zab
  rw [qn (zend B j) j (Nat.le_refl _) e1]
  exact if_pos rfl
theorem zpin_w {A B : List zN} {CP : Nat → Nat} {row : Nat} {pl : Option Nat} (hB : zWf B) : ∀ (P : List zSp) (D : List zN), (∀ x ∈ P, zSv A B x) → zWf D → CP row < D.length → (zno D (CP row)).1 = (zno A row).1 → zan D (CP row) (D.length - 1) → zWf (zpin B P CP row pl D) ∧ zan (zpin B P CP row pl D) (CP row) ((zpin B P CP row pl D).length - 1) := by
  intro P
  induction P with
  | nil => intro D _ h1 _ _ h3; exact ⟨h1, h3⟩
  | cons x P ih =>
    intro D hP h1 h2 hkr h3
    have hP' : ∀ y ∈ P, zSv A B y := fun y hy => hP y (List.mem_cons_of_mem _ hy)
    unfold zpin
    rw [List.foldl_cons]
    by_cases q : zky row pl x = true
    · rw [if_pos q]
      have hx : ∃ j, x.2.1 = some j ∧ j < B.length ∧ (zno A row).1 ≠ 2 := by
        obtain ⟨w1, w2, _⟩ := zky_e.mp q
        rcases hP x List.mem_cons_self with ⟨i, j, e, _⟩ | ⟨i, e, _⟩ | ⟨j, a, p, e, _, w, _, _, wk⟩
        · rw [e] at w1; cases w1
        · rw [e] at w1; cases w1
        · rw [e] at w2
          cases w2
          exact ⟨j, by rw [e], w, wk⟩
      obtain ⟨j, j1, j2, j3⟩ := hx
      rw [j1, show (some j).getD 0 = j from rfl]
      obtain ⟨a1, a2⟩ := zcl2_w hB j2 h1 h2 (by rw [hkr]; exact j3) h3
      have hl : D.length ≤ (zcl2 B D j (some (CP row))).length := by unfold zcl2; rw [List.length_append]; omega
      exact ih (zcl2 B D j (some (CP row))) hP' a1 (by omega) (by unfold zcl2; rw [zno_x h2]; exact hkr) a2
    · rw [if_neg q]
      exact ih D hP' h1 h2 hkr h3
/-- the copies hang together -/
def zCk (A : List zN) (P : List zSp) (CP : Nat → Nat) (p : Nat) (D : List zN) : Prop := ∀ x, x < p → zgB A P x = false → CP x < D.length ∧ (zno D (CP x)).1 = (zno A x).1 ∧ ∀ y, zab A x = some y → zab D (CP x) = some (CP y)
theorem zCk_x {A : List zN} {P : List zSp} {CP : Nat → Nat} {p : Nat} {D X : List zN} (h : zCk A P CP p D) : zCk A P CP p (D ++ X) := fun x hx hg => ⟨by have := (h x hx hg).1; rw [List.length_append]; omega, by rw [zno_x (h x hx hg).1]; exact (h x hx hg).2.1, fun y hy => zab_x ((h x hx hg).2.2 y hy)⟩
theorem zerw_w {A B : List zN} {P : List zSp} {CP : Nat → Nat} {u : Option Nat} {p : Nat} (hA : zWf A) (hB : zWf B) (hP : ∀ x ∈ P, zSv A B x) : ∀ m c D, zaO A u c → (∀ x, c = some x → x < p ∧ zgB A P x = false ∧ zan D (CP x) (D.length - 1) ∧ x + 1 < m) → 0 < m → zWf D → zCk A P CP p D → zWf (zerw A B P CP u m c D) ∧ ∀ q, u = some q → zan (zerw A B P CP u m c D) (CP q) ((zerw A B P CP u m c D).length - 1) := by
  intro m
  induction m with
  | zero => intro c D _ _ h; omega
  | succ m ih =>
    intro c D hu hc _ hD hk
    cases c with
    | none =>
      rw [zerw]
      have : ∀ q, u = some q → False := fun q hq => by obtain ⟨c', e, _⟩ := hu q hq; cases e
      split
      · exact ⟨hD, fun q hq => absurd (this q hq) id⟩
      · exact ⟨hD, fun q hq => absurd (this q hq) id⟩
    | some x =>
      obtain ⟨x1, x2, x3, x4⟩ := hc x rfl
      rw [zerw]
      by_cases e : some x = u
      · rw [if_pos e]
        refine ⟨hD, fun q hq => ?_⟩
        rw [hq] at e
        cases e
        exact x3
      · rw [if_neg e]
        obtain ⟨k1, k3, k2⟩ := hk x x1 x2
        obtain ⟨a1, a2⟩ := zpin_w (pl := none) hB P D hP hD k1 k3 x3
        obtain ⟨X, hX⟩ := zpin_x (B := B) (CP := CP) (row := x) (pl := none) P D
        refine ih (zab A x) (zpin B P CP x none D) (fun u' hu' => ?_) (fun y hy => ?_) (by omega) a1 (by rw [hX]; exact zCk_x hk)
        · obtain ⟨c', q1, q2⟩ := hu u' hu'
          cases q1
          rcases zan_c q2 with w | ⟨y, w1, w2⟩
          · rw [w] at hu'; exact absurd hu'.symm e
          · exact ⟨y, w1, w2⟩
        · have hyx := (zab_d hA hy).1
          refine ⟨by omega, ?_, ?_, by omega⟩
          · cases hq : zgB A P y with
            | false => rfl
            | true => have := zgB_d hA (zan_s hy zan_r) hq; rw [x2] at this; cases this
          · refine zan_t (zan_s ?_ zan_r) a2
            rw [hX]
            exact zab_x (k2 y hy)
theorem zcpo_w {A B : List zN} {P : List zSp} {CP : Nat → Nat} {p : Nat} (hA : zWf A) (hB : zWf B) (hP : ∀ x ∈ P, zSv A B x) (hp : p < A.length) : (zcpo A B P CP p).1 = (zno A p).1 ∧ (zcpo A B P CP p).2.1 = (zab A p).map CP ∧ zlkO (zcpo A B P CP p).2.2.1 ∧ zLt (zcpo A B P CP p).2.2.2 ∧ ((zcpo A B P CP p).1 = 1 ∨ (zcpo A B P CP p).1 = 2 → (zcpo A B P CP p).2.2.1 ≠ none) := by
  unfold zcpo
  split
  · next b hb =>
    obtain ⟨v1, v2, v3⟩ := zfx_v hP hb
    exact ⟨v3.symm, rfl, (hB b v2).2.2.1, (hB b v2).2.2.2.1, (hB b v2).2.2.2.2.1⟩
  · exact ⟨rfl, rfl, (hA p hp).2.2.1, (hA p hp).2.2.2.1, (hA p hp).2.2.2.2.1⟩
def zWy (A : List zN) (P : List zSp) (p : Nat) (Y : zYY) : Prop := zWf Y.1 ∧ zCk A P Y.2.1 p Y.1 ∧ (∀ x, Y.2.2 = some x → zan Y.1 (Y.2.1 x) (Y.1.length - 1)) ∧ (p = 0 → Y.1 = [])
theorem zan_0 {A : List zN} (hA : zWf A) : ∀ x, x < A.length → zan A 0 x := by
  intro x
  induction x using Nat.strongRecOn with
  | ind x ih =>
    intro hx
    rcases (hA x hx).2.1 with ⟨e, _⟩ | ⟨a, h1, h2, _⟩
    · rw [e]; exact zan_r
    · exact zan_s h2 (ih a h1 (by omega))
theorem zgB_0 {A B : List zN} {P : List zSp} (hA : zWf A) (hP : ∀ x ∈ P, zSv A B x) (hA0 : 0 < A.length) : zgB A P 0 = false := by
  rw [zgB_e hA]
  have e : zab A 0 = none := by
    rcases (hA 0 hA0).2.1 with ⟨_, w, _⟩ | ⟨c, w, _⟩
    · exact w
    · omega
  rw [e]
  show (_ || false) = false
  rw [Bool.or_false]
  refine decide_eq_false (fun h => ?_)
  unfold zfx at h
  cases hx : P.find? (fun x => x.1 == some 0) with
  | none => rw [hx] at h; cases h
  | some x =>
    rw [hx] at h
    have hb : x.2.1 = none := Option.some.inj h
    have hxp : x.1 = some 0 := by simpa using List.find?_some hx
    rcases hP x (List.mem_of_find?_eq_some hx) with ⟨i, j, e, _⟩ | ⟨i, e, h1, _⟩ | ⟨j, c, p, e, _⟩
    · rw [e] at hb; cases hb
    · rw [e] at hxp; cases hxp; omega
    · rw [e] at hxp; cases hxp
theorem zst2_w {A B : List zN} {P : List zSp} {p : Nat} {Y : zYY} (hA : zWf A) (hA4 : A.length ≤ 40) (hB : zWf B) (hP : ∀ x ∈ P, zSv A B x) (hp : p < A.length) (hO : zOp A P p Y.2.2) (h : zWy A P p Y) : zWy A P (p + 1) (zst2 A B P p Y) := by
  obtain ⟨h1, h2, h3, h4⟩ := h
  unfold zst2
  cases hg : zgO A P (zab A p) with
  | true =>
    rw [if_pos rfl]
    refine ⟨h1, fun x hx hgx => ?_, h3, fun q => by omega⟩
    have : x ≠ p := fun w => by
      subst w
      cases hq : zab A x with
      | none => rw [hq] at hg; cases hg
      | some q =>
        rw [hq] at hg
        have := zgB_d hA (zan_s hq zan_r) hg
        rw [hgx] at this
        cases this
    exact h2 x (by omega) hgx
  | false =>
    rw [if_neg (by decide)]
    have oc : ∀ x, Y.2.2 = some x → x < p ∧ zgB A P x = false := by
      intro x hx
      rcases hO with ⟨_, e⟩ | ⟨_, o1, _⟩
      · rw [e] at hx; cases hx
      · exact ⟨(o1 x hx).1, (o1 x hx).2.2⟩
    obtain ⟨a1, a2⟩ := zerw_w (u := zab A p) (CP := Y.2.1) (p := p) hA hB hP 41 Y.2.2 Y.1 (zOp_u hA hO hg) (fun x hx => ⟨(oc x hx).1, (oc x hx).2, h3 x hx, by have := (oc x hx).1; omega⟩) (by decide) h1 h2
    obtain ⟨X1, hX1⟩ := zerw_x (A := A) (B := B) (P := P) (CP := Y.2.1) (u := zab A p) 41 Y.2.2 Y.1
    obtain ⟨D1, hD1⟩ : ∃ D1, D1 = zerw A B P Y.2.1 (zab A p) 41 Y.2.2 Y.1 := ⟨_, rfl⟩
    rw [← hD1] at a1 a2 hX1 ⊢
    have k1 : zCk A P Y.2.1 p D1 := by rw [hX1]; exact zCk_x h2
    obtain ⟨D2, hD2⟩ : ∃ D2, D2 = zpiO B P Y.2.1 (zab A p) p D1 := ⟨_, rfl⟩
    rw [← hD2]
    have kq : ∀ q, zab A p = some q → q < p ∧ zgB A P q = false := by
      intro q hq
      rw [hq] at hg
      exact ⟨(zab_d hA hq).1, hg⟩
    obtain ⟨b1, b2, b3⟩ : zWf D2 ∧ (∀ q, zab A p = some q → zan D2 (Y.2.1 q) (D2.length - 1)) ∧ zCk A P Y.2.1 p D2 := by
      rw [hD2]
      unfold zpiO
      cases hq : zab A p with
      | none => exact ⟨a1, fun q w => (by cases w), k1⟩
      | some q =>
        obtain ⟨q1, q2⟩ := kq q hq
        obtain ⟨c1, c2⟩ := zpin_w (row := q) (pl := some p) hB P D1 hP a1 (k1 q q1 q2).1 (k1 q q1 q2).2.1 (a2 q hq)
        obtain ⟨X, hX⟩ := zpin_x (B := B) (CP := Y.2.1) (row := q) (pl := some p) P D1
        exact ⟨c1, fun q' w => by cases w; exact c2, by dsimp only; rw [hX]; exact zCk_x k1⟩
    cases hgp : zgB A P p with
    | true =>
      rw [if_pos rfl]
      refine ⟨b1, fun x hx hgx => ?_, b2, fun q => by omega⟩
      have : x ≠ p := fun w => by rw [w, hgp] at hgx; cases hgx
      exact b3 x (by omega) hgx
    | false =>
      rw [if_neg (by decide)]
      obtain ⟨w1, w2, w3, w4⟩ := zcpo_w (CP := Y.2.1) hA hB hP hp
      refine ⟨?_, fun x hx hgx => ?_, fun x hx => ?_, fun q => by omega⟩
      · refine zWf_app b1 (by rw [w1]; exact (hA p hp).1) ?_ w3 ⟨w4.1, w4.2, fun a haa => ?_⟩
        rotate_left
        · rw [w2] at haa
          cases hq : zab A p with
          | none => rw [hq] at haa; cases haa
          | some q =>
            rw [hq] at haa
            cases haa
            obtain ⟨q1, q2⟩ := kq q hq
            rw [(b3 q q1 q2).2.1]
            exact (hA p hp).2.2.2.2.2 q hq
        rcases (hA p hp).2.1 with ⟨e, w, k0⟩ | ⟨q, _, w, _⟩
        · left
          refine ⟨?_, by rw [w2, w]; rfl, by rw [w1]; exact k0⟩
          have hY : Y.1 = [] := h4 e
          have ho : Y.2.2 = none := by
            rcases hO with ⟨_, q⟩ | ⟨q, _⟩
            · exact q
            · omega
          rw [hD2, w]
          show D1 = []
          rw [hD1, w, ho, hY, zerw]
          split <;> rfl
        · right
          obtain ⟨q1, q2⟩ := kq q w
          exact ⟨Y.2.1 q, (b3 q q1 q2).1, by rw [w2, w]; rfl, b2 q w⟩
      · dsimp only
        by_cases e : x = p
        · subst e
          rw [if_pos rfl]
          refine ⟨by rw [List.length_append, List.length_singleton]; omega, by rw [zno_r, w1], fun y hy => ?_⟩
          have hyx := (zab_d hA hy).1
          rw [if_neg (by omega)]
          unfold zab
          rw [zno_r, w2, hy]
          rfl
        · rw [if_neg e]
          obtain ⟨c1, c3, c2⟩ := b3 x (by omega) hgx
          refine ⟨by rw [List.length_append, List.length_singleton]; omega, by rw [zno_l c1]; exact c3, fun y hy => ?_⟩
          have hyx := (zab_d hA hy).1
          rw [if_neg (by omega)]
          exact zab_x (c2 y hy)
      · cases hx
        dsimp only
        rw [if_pos rfl, List.length_append, List.length_singleton, Nat.add_sub_cancel]
        exact zan_r
theorem zrun2_w {A B : List zN} {P : List zSp} (hA : zWf A) (hA4 : A.length ≤ 40) (hB : zWf B) (hP : ∀ x ∈ P, zSv A B x) : ∀ m p Y, p + m = A.length → zOp A P p Y.2.2 → zWy A P p Y → zWy A P (p + m) (zrun2 A B P m p Y) := by
  intro m
  induction m with
  | zero => intro p Y _ _ h; exact h
  | succ m ih =>
    intro p Y hp hO h
    rw [zrun2, show p + (m + 1) = (p + 1) + m by omega]
    exact ih (p + 1) _ (by omega) (zOp_s hA (by omega) hO) (zst2_w hA hA4 hB hP (by omega) hO h)
/-- what comes of a script is a document -/
theorem zap_w {A B : List zN} {P : List zSp} (hA : zWf A) (hA4 : A.length ≤ 40) (hB : zWf B) (hP : ∀ x ∈ P, zSv A B x) : zWf (zap A B P) := by
  unfold zap zfin2
  have h0 : zOp A P 0 (([], fun _ => 0, none) : zYY).2.2 := Or.inl ⟨rfl, rfl⟩
  have hO := zOp_r (B := B) hA A.length 0 ([], fun _ => 0, none) (Nat.zero_add _) h0
  obtain ⟨h1, h2, h3, _⟩ := zrun2_w hA hA4 hB hP A.length 0 ([], fun _ => 0, none) (Nat.zero_add _) h0 ⟨fun j hj => absurd hj (Nat.not_lt_zero _), fun x hx => absurd hx (Nat.not_lt_zero _), fun x hx => (by cases hx), fun _ => rfl⟩
  rw [Nat.zero_add] at hO h2
  refine (zerw_w (u := none) (p := A.length) hA hB hP 41 _ _ (fun u' h => by cases h) (fun x hx => ?_) (by decide) h1 h2).1
  rcases hO with ⟨_, e⟩ | ⟨_, o1, _⟩
  · rw [e] at hx; cases hx
  · have := (o1 x hx).1
    exact ⟨this, (o1 x hx).2.2, h3 x hx, by omega⟩
