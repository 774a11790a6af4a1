/-! Where the elements and letters of a body stand. -/
set_option maxRecDepth 100000
set_option linter.unusedVariables false
theorem zpar_pre {C : List Int32} : ∀ n a E st O F O', zpar C n a E st O = .inr (F, O') → (∃ X, F = E ++ X) ∧ ∃ Y, O' = O ++ Y := by
  intro n
  induction n with
  | zero => intro a E st O F O' h; cases h
  | succ n ih =>
    intro a E st O F O' h
    cases st with
    | nil =>
      rw [zpar] at h
      split at h
      · next gE =>
        split at h
        · split at h
          · cases h
          · obtain ⟨_, Y, hY⟩ := ih _ _ _ _ _ _ h
            exact ⟨⟨F, by rw [gE, List.nil_append]⟩, Y, hY⟩
        · cases h
      · split at h
        · cases h
          exact ⟨⟨[], by rw [List.append_nil]⟩, [], by rw [List.append_nil]⟩
        · cases h
    | cons e st =>
      rw [zpar] at h
      split at h
      · split at h
        · split at h
          · split at h
            · exact ih _ _ _ _ _ _ h
            · cases h
          · cases h
        · split at h
          · cases h
          · obtain ⟨⟨X, hX⟩, hY⟩ := ih _ _ _ _ _ _ h
            rw [List.append_assoc] at hX
            exact ⟨⟨_, hX⟩, hY⟩
      · split at h
        · cases h
        · obtain ⟨hX, Y, hY⟩ := ih _ _ _ _ _ _ h
          rw [List.append_assoc] at hY
          exact ⟨hX, _, hY⟩
/-- the element's paragraph -/
def zpOf (F : List zE) : Nat → Nat → Nat
  | 0, e => e
  | k + 1, e => if zkd F e = 120 then zpOf F k (F.getD e (0, 0, 0, [])).2.2.1.toNatClampNeg else e
def zpO (F : List zE) (e : Nat) : Nat := zpOf F (e + 1) e
theorem zpOf_f {F : List zE} (hK : zKp F) (h30 : F.length ≤ 30) : ∀ e k, e < F.length → e < k → zpOf F k e = zpOf F (e + 1) e := by
  intro e
  induction e using Nat.strongRecOn with
  | ind e ih =>
    intro k he hk
    obtain ⟨k, rfl⟩ : ∃ k', k = k' + 1 := ⟨k - 1, by omega⟩
    rw [zpOf, zpOf]
    rcases hK e he with ⟨g1, g2, g3⟩ | ⟨j, g1, g2, g3⟩
    · rw [g3, if_neg (by decide), if_neg (by decide)]
    · rw [g2, zn_cl (by omega), ih j g1 k (by omega) (by omega), ih j g1 e (by omega) (by omega)]
theorem zpO_n {F : List zE} {e : Nat} (h : zkd F e ≠ 120) : zpO F e = e := by
  unfold zpO
  rw [zpOf, if_neg h]
theorem zpO_x {F : List zE} {e j : Nat} (hK : zKp F) (h30 : F.length ≤ 30) (he : e < F.length) (hk : zkd F e = 120) (hj : j < e) (hp : (F.getD e (0, 0, 0, [])).2.2.1 = nI j) : zpO F e = zpO F j := by
  unfold zpO
  rw [zpOf, if_pos hk, hp, zn_cl (by omega), zpOf_f hK h30 j e (by omega) hj]
/-- an x or p: what is above it, and its paragraph -/
theorem zpO_k {F : List zE} (hK : zKp F) (h30 : F.length ≤ 30) : ∀ e, e < F.length → (zkd F e = 112 ∨ zkd F e = 120) → zkd F (zpO F e) = 112 ∧ zpO F e ≤ e := by
  intro e
  induction e using Nat.strongRecOn with
  | ind e ih =>
    intro he hk
    rcases hk with hk | hk
    · rw [zpO_n (by rw [hk]; decide)]
      exact ⟨hk, Nat.le_refl _⟩
    · rcases hK e he with ⟨g1, g2, g3⟩ | ⟨j, g1, g2, g3⟩
      · rw [g3] at hk
        exact absurd hk (by decide)
      · rcases g3 with g3 | g3 | g3 | g3
        · rw [g3.1] at hk; exact absurd hk (by decide)
        · rw [g3.1] at hk; exact absurd hk (by decide)
        · rw [g3.1] at hk; exact absurd hk (by decide)
        · rw [zpO_x hK h30 he hk g1 g2]
          obtain ⟨a, b⟩ := ih j g1 (by omega) g3.2
          exact ⟨a, by omega⟩
/-- how often the owner changes -/
def zcg : Option Nat → List (Nat × Nat) → Nat
  | _, [] => 0
  | pr, q :: O => (if pr = some q.2 then 0 else 1) + zcg (some q.2) O
def zlo (pr : Option Nat) (O : List (Nat × Nat)) : Option Nat := match O.getLast? with
  | none => pr
  | some q => some q.2
theorem zcg_app {q : Nat × Nat} : ∀ O pr, zcg pr (O ++ [q]) = zcg pr O + (if zlo pr O = some q.2 then 0 else 1) := by
  intro O
  induction O with
  | nil =>
    intro pr
    show (if pr = some q.2 then 0 else 1) + 0 = 0 + (if pr = some q.2 then 0 else 1)
    omega
  | cons x O ih =>
    intro pr
    rw [List.cons_append, zcg, zcg, ih]
    have : zlo pr (x :: O) = zlo (some x.2) O := by
      unfold zlo
      rw [List.getLast?_cons]
      cases O.getLast? <;> rfl
    rw [this, Nat.add_assoc]
theorem zlo_app {q : Nat × Nat} {O : List (Nat × Nat)} {pr : Option Nat} : zlo pr (O ++ [q]) = some q.2 := by
  unfold zlo
  rw [List.getLast?_concat]
/-- an element and those above it -/
def zpi (F : List zE) : Nat → Option Nat → Option Nat
  | 0, o => o
  | _ + 1, none => none
  | k + 1, some e => zpi F k (if (F.getD e (0, 0, 0, [])).2.2.1 = -1 then none else some (F.getD e (0, 0, 0, [])).2.2.1.toNatClampNeg)
def zDe (F : List zE) (x e : Nat) : Prop := ∃ k, zpi F k (some e) = some x
theorem zDe_r {F : List zE} {x : Nat} : zDe F x x := ⟨0, rfl⟩
theorem zDe_s {F : List zE} {x e j : Nat} (hj : j < 1000) (hp : (F.getD e (0, 0, 0, [])).2.2.1 = nI j) (h : zDe F x j) : zDe F x e := by
  obtain ⟨k, hk⟩ := h
  refine ⟨k + 1, ?_⟩
  rw [zpi, hp, if_neg (zn_nm (by omega)), zn_cl (by omega)]
  exact hk
/-- the letters of a body behind the last beginning that is none of an x -/
def zAo (F : List zE) (k : Nat) (q : Nat × Nat) : Prop := q.2 < k ∧ (F.getD (zpO F q.2) (0, 0, 0, [])).2.1 < q.1 ∧ ∀ e, zpO F q.2 < e → e < k → zkd F e ≠ 120 → q.1 < (F.getD e (0, 0, 0, [])).2.1
/-- the elements in work: each in the next -/
def zSf (F : List zE) (k : Nat) : List Nat → Prop
  | [] => True
  | e :: st => e < k ∧ (F.getD e (0, 0, 0, [])).2.2.1 = ztop st ∧ zSf F k st
theorem zSf_m {F : List zE} {k k' : Nat} (h : k ≤ k') : ∀ st, zSf F k st → zSf F k' st := by
  intro st
  induction st with
  | nil => intro _; trivial
  | cons e st ih => intro h1; exact ⟨Nat.lt_of_lt_of_le h1.1 h, h1.2.1, ih h1.2.2⟩
theorem zgetF {F E X : List zE} {q : zE} (h : F = E ++ [q] ++ X) : F.getD E.length (0, 0, 0, []) = q ∧ E.length < F.length := by
  rw [h]
  refine ⟨?_, ?_⟩
  · rw [List.append_assoc, List.getD_eq_getElem?_getD, List.getElem?_append_right (Nat.le_refl _), Nat.sub_self]
    rfl
  · rw [List.length_append, List.length_append, List.length_singleton]
    omega
theorem zpar_A {C : List Int32} {F : List zE} {O' : List (Nat × Nat)} (hl : C.length ≤ 300) (hK : zKp F) (h30 : F.length ≤ 30) (hO' : ∀ q ∈ O', zkd F q.2 = 112 ∨ zkd F q.2 = 120) : ∀ n a E st O, zpar C n a E st O = .inr (F, O') →
    (∀ q ∈ O, zAo F E.length q ∧ q.1 < a ∧ C.getD q.1 (-1) ≠ 60) → (∀ e, e < E.length → (F.getD e (0, 0, 0, [])).2.1 < a) → zSf F E.length st →
    (∀ t r, st = t :: r → (zkd F t = 112 ∨ zkd F t = 120) → ∀ e, zpO F t < e → e < E.length → zkd F e = 120) →
    (zcg none O + (if zlo none O = st.head? ∨ st = [] then 0 else 1) + st.length ≤ 2 * E.length) →
    (∀ x ∈ st, ∀ e, x ≤ e → e < E.length → zDe F x e) →
    (∀ e j, e < E.length → (F.getD e (0, 0, 0, [])).2.2.1 = nI j → j < 1000 → ∀ e', j ≤ e' → e' < e → zDe F j e') →
    O.Pairwise (fun x y => x.1 < y.1) →
    (∀ q ∈ O', zAo F F.length q ∧ C.getD q.1 (-1) ≠ 60) ∧ zcg none O' ≤ 60 ∧ (∀ e j, e < F.length → (F.getD e (0, 0, 0, [])).2.2.1 = nI j → j < 1000 → ∀ e', j ≤ e' → e' < e → zDe F j e') ∧ O'.Pairwise (fun x y => x.1 < y.1) := by
  intro n
  induction n with
  | zero => intro a E st O h; cases h
  | succ n ih =>
    intro a E st O h i1 i2 i3 i4 i5 i6 i7 i8
    have hpre := zpar_pre _ _ _ _ _ _ _ h
    cases st with
    | nil =>
      rw [zpar] at h
      split at h
      · next gE =>
        split at h
        · next ga =>
          split at h
          · cases h
          · next cl b A hz =>
            obtain ⟨k1, k2, k3⟩ := zbeg_ok (pa := -1) hl ga hz
            obtain ⟨⟨X, hX⟩, _⟩ := zpar_pre _ _ _ _ _ _ _ h
            have hX2 : F = [] ++ [(C.getD (a + 1) (-1), a, -1, A)] ++ X := hX
            obtain ⟨f1, f2⟩ := zgetF hX2
            have f1' : F.getD 0 (0, 0, 0, []) = (C.getD (a + 1) (-1), a, -1, A) := f1
            have hOn : O = [] := by
              cases O with
              | nil => rfl
              | cons q O =>
                have := (i1 q List.mem_cons_self).1.1
                rw [gE] at this
                exact absurd this (Nat.not_lt_zero _)
            have f0 : zkd F 0 = 100 := by
              rcases hK 0 f2 with ⟨_, _, g⟩ | ⟨j, g, _⟩
              · exact g
              · exact absurd g (Nat.not_lt_zero _)
            refine ih _ _ _ _ h (fun q hq => by rw [hOn] at hq; cases hq) ?_ ?_ ?_ ?_ ?_ ?_ i8
            · intro e he
              have : e = 0 := Nat.lt_one_iff.mp he
              rw [this, f1']
              exact k2
            · cases cl
              · exact ⟨Nat.zero_lt_one, by rw [f1']; rfl, trivial⟩
              · exact trivial
            · intro t r q hk e h1 h2
              have : e = 0 := Nat.lt_one_iff.mp h2
              omega
            · rw [hOn]
              cases cl
              · show 0 + (if (none : Option Nat) = some 0 ∨ [0] = [] then 0 else 1) + 1 ≤ 2 * 1
                rw [if_neg (by simp)]
                decide
              · show 0 + (if (none : Option Nat) = none ∨ ([] : List Nat) = [] then 0 else 1) + 0 ≤ 2 * 1
                rw [if_pos (Or.inl rfl)]
                decide
            · intro x hx e h1 h2
              have h0 : e = 0 := Nat.lt_one_iff.mp h2
              have : x = 0 := by omega
              rw [h0, this]
              exact zDe_r
            · intro e j he hp hj
              have : e = 0 := Nat.lt_one_iff.mp he
              rw [this, f1'] at hp
              exact absurd hp.symm (zn_nm (by omega))
        · cases h
      · next gE =>
        split at h
        · cases h
          refine ⟨fun q hq => ⟨(i1 q hq).1, (i1 q hq).2.2⟩, ?_, i7, i8⟩
          have : ([] : List Nat).length = 0 := rfl
          omega
        · cases h
    | cons e st =>
      have he : e < E.length := i3.1
      rw [zpar] at h
      split at h
      · next ga =>
        split at h
        · split at h
          · split at h
            · -- an end
              refine ih _ _ _ _ h (fun q hq => ⟨(i1 q hq).1, by have := (i1 q hq).2.1; omega, (i1 q hq).2.2⟩) (fun x hx => by have := i2 x hx; omega) i3.2.2 ?_ ?_ (fun x hx => i6 x (List.mem_cons_of_mem _ hx)) i7 i8
              · intro t r q hk x h1 h2
                have hp : (F.getD e (0, 0, 0, [])).2.2.1 = nI t := by rw [i3.2.1, q]; rfl
                have hEF : E.length ≤ F.length := by
                  obtain ⟨⟨X, hX⟩, _⟩ := hpre
                  rw [hX, List.length_append]
                  omega
                have ht : t < E.length := by have := i3.2.2; rw [q] at this; exact this.1
                rcases hK e (by omega) with ⟨g1, g2, g3⟩ | ⟨j, g1, g2, g3⟩
                · rw [g2] at hp
                  exact absurd hp.symm (zn_nm (by omega))
                · rw [g2] at hp
                  have hjt := (zn_eq (by omega) (by omega)).mp hp
                  rw [hjt] at g1 g2 g3
                  have hx : zkd F e = 120 := by
                    rcases g3 with g3 | g3 | g3 | g3
                    · rcases hk with hk | hk <;> rw [hk] at g3 <;> exact absurd g3.2 (by decide)
                    · rcases hk with hk | hk <;> rw [hk] at g3 <;> exact absurd g3.2 (by decide)
                    · rcases hk with hk | hk <;> rw [hk] at g3 <;> exact absurd g3.2 (by decide)
                    · exact g3.1
                  have := i4 e st rfl (Or.inr hx)
                  rw [zpO_x hK h30 (by omega) hx g1 g2] at this
                  exact this x h1 h2
              · have e1 : (e :: st).length = st.length + 1 := rfl
                rw [e1] at i5
                split
                · split at i5 <;> omega
                · split at i5 <;> omega
            · cases h
          · cases h
        · split at h
          · cases h
          · next cl b A hz =>
            obtain ⟨k1, k2, k3⟩ := zbeg_ok (pa := nI e) hl ga hz
            obtain ⟨⟨X, hX⟩, _⟩ := zpar_pre _ _ _ _ _ _ _ h
            obtain ⟨f1, f2⟩ := zgetF hX
            have len : (E ++ [(C.getD (a + 1) (-1), a, nI e, A)]).length = E.length + 1 := by rw [List.length_append]; rfl
            have fp : (F.getD E.length (0, 0, 0, [])).2.2.1 = nI e := by rw [f1]
            have fb : (F.getD E.length (0, 0, 0, [])).2.1 = a := by rw [f1]
            -- its kind and the kind above
            have kk : (zkd F E.length = 120 ∧ (zkd F e = 112 ∨ zkd F e = 120)) ∨ (zkd F E.length ≠ 120 ∧ zkd F e ≠ 112 ∧ zkd F e ≠ 120) := by
              rcases hK E.length f2 with ⟨g1, g2, g3⟩ | ⟨j, g1, g2, g3⟩
              · rw [g2] at fp
                exact absurd fp.symm (zn_nm (by omega))
              · rw [g2] at fp
                have hjt := (zn_eq (by omega) (by omega)).mp fp
                rw [hjt] at g3
                rcases g3 with g3 | g3 | g3 | g3
                · right; rw [g3.1]; rcases g3.2 with g | g <;> rw [g] <;> decide
                · right; rw [g3.1]; rcases g3.2 with g | g <;> rw [g] <;> decide
                · right; rw [g3.1, g3.2]; decide
                · left; exact g3
            have i3' : zSf F (E.length + 1) (e :: st) := zSf_m (by omega) _ i3
            have hEF : E.length < F.length := f2
            refine ih _ _ _ _ h (fun q hq => ?_) (fun x hx => ?_) ?_ ?_ ?_ ?_ ?_ i8
            · obtain ⟨⟨u1, u2, u3⟩, u4, u5⟩ := i1 q hq
              rw [len]
              refine ⟨⟨by omega, u2, fun x h1 h2 h3 => ?_⟩, by omega, u5⟩
              by_cases g : x = E.length
              · rw [g, fb]; exact u4
              · exact u3 x h1 (by omega) h3
            · rw [len] at hx
              by_cases g : x = E.length
              · rw [g, fb]; exact k2
              · have := i2 x (by omega); omega
            · rw [len]
              cases cl
              · exact ⟨by omega, fp, i3'⟩
              · exact i3'
            · intro t r q hk x h1 h2
              rw [len] at h2
              cases cl with
              | false =>
                have q' : E.length :: e :: st = t :: r := q
                have ht : t = E.length := by cases q'; rfl
                subst ht
                rcases kk with ⟨m1, m2⟩ | ⟨m1, m2, m3⟩
                · rw [zpO_x hK h30 f2 m1 he fp] at h1
                  by_cases g : x = E.length
                  · rw [g]; exact m1
                  · exact i4 e st rfl m2 x h1 (by omega)
                · rw [zpO_n m1] at h1
                  omega
              | true =>
                have q' : e :: st = t :: r := q
                have ht : t = e := by cases q'; rfl
                subst ht
                rcases kk with ⟨m1, m2⟩ | ⟨m1, m2, m3⟩
                · by_cases g : x = E.length
                  · rw [g]; exact m1
                  · exact i4 t st rfl m2 x h1 (by omega)
                · rcases hk with hk | hk
                  · exact absurd hk m2
                  · exact absurd hk m3
            · rw [len]
              have e1 : (e :: st).length = st.length + 1 := rfl
              rw [e1] at i5
              cases cl
              · show zcg none O + (if zlo none O = some E.length ∨ E.length :: e :: st = [] then 0 else 1) + (st.length + 1 + 1) ≤ 2 * (E.length + 1)
                split <;> (split at i5 <;> omega)
              · show zcg none O + (if zlo none O = some e ∨ e :: st = [] then 0 else 1) + (st.length + 1) ≤ 2 * (E.length + 1)
                split <;> (split at i5 <;> omega)
            · intro x hx y h1 h2
              rw [len] at h2
              have old : ∀ x ∈ e :: st, x ≤ y → zDe F x y := by
                intro x hx h1
                by_cases g : y = E.length
                · rw [g]
                  have hxe : x < E.length := by
                    have gen : ∀ st, zSf F E.length st → ∀ x ∈ st, x < E.length := by
                      intro st
                      induction st with
                      | nil => intro _ x hx; cases hx
                      | cons z st ihs =>
                        intro hs x hx
                        rcases List.mem_cons.mp hx with rfl | hx
                        · exact hs.1
                        · exact ihs hs.2.2 x hx
                    exact gen _ i3 x hx
                  have hxle : x ≤ e := by
                    have gen : ∀ st t, zSf F E.length (t :: st) → ∀ x ∈ t :: st, x ≤ t := by
                      intro st
                      induction st with
                      | nil => intro t _ x hx; rw [List.mem_singleton.mp hx]; exact Nat.le_refl _
                      | cons z st ihs =>
                        intro t hs x hx
                        rcases List.mem_cons.mp hx with rfl | hx
                        · exact Nat.le_refl _
                        · have hzx := ihs z hs.2.2 x hx
                          have hz1 : z < E.length := hs.2.2.1
                          have hpt : (F.getD t (0, 0, 0, [])).2.2.1 = nI z := hs.2.1
                          rcases hK t (by have := hs.1; omega) with ⟨g1, g2, g3⟩ | ⟨j, g1, g2, g3⟩
                          · rw [g2] at hpt
                            exact absurd hpt.symm (zn_nm (by omega))
                          · rw [g2] at hpt
                            have hjt := (zn_eq (by have := hs.1; omega) (by omega)).mp hpt
                            omega
                    exact gen st e i3 x hx
                  exact zDe_s (by omega) fp (i6 x hx e hxle he)
                · exact i6 x hx y h1 (by omega)
              cases cl with
              | false =>
                have hx' : x ∈ E.length :: e :: st := hx
                rcases List.mem_cons.mp hx' with g | g
                · have : y = E.length := by omega
                  rw [this, g]
                  exact zDe_r
                · exact old x g h1
              | true => exact old x hx h1
            · intro y j hy hp hj z h1 h2
              rw [len] at hy
              by_cases g : y = E.length
              · rw [g] at hp h2
                rw [fp] at hp
                have hje := (zn_eq (by omega) (by omega)).mp hp
                rw [← hje] at h1 ⊢
                exact i6 e List.mem_cons_self z h1 h2
              · exact i7 y j (by omega) hp hj z h1 h2
      · next ga =>
        split at h
        · cases h
        · have hmem : (a, e) ∈ O' := by
            obtain ⟨_, Y, hY⟩ := zpar_pre _ _ _ _ _ _ _ h
            rw [hY]
            exact List.mem_append_left _ (List.mem_append_right _ List.mem_cons_self)
          have hke := hO' _ hmem
          have hEF : E.length ≤ F.length := by
            obtain ⟨⟨X, hX⟩, _⟩ := hpre
            rw [hX, List.length_append]
            omega
          refine ih _ _ _ _ h (fun q hq => ?_) (fun x hx => by have := i2 x hx; omega) i3 i4 ?_ i6 i7 ?_
          · rcases List.mem_append.mp hq with hq | hq
            · exact ⟨(i1 q hq).1, by have := (i1 q hq).2.1; omega, (i1 q hq).2.2⟩
            · rw [List.mem_singleton.mp hq]
              have hpo := zpO_k hK h30 e (by omega) hke
              refine ⟨⟨he, i2 (zpO F e) (by omega), fun x h1 h2 h3 => absurd (i4 e st rfl hke x h1 h2) h3⟩, by show a < a + 1; omega, ga⟩
          · rw [zcg_app, zlo_app]
            show zcg none O + (if zlo none O = some e then 0 else 1) + (if some e = some e ∨ e :: st = [] then 0 else 1) + (e :: st).length ≤ 2 * E.length
            rw [if_pos (show some e = some e ∨ e :: st = [] from Or.inl rfl)]
            have hd : (e :: st).head? = some e := rfl
            rw [hd] at i5
            by_cases g : zlo none O = some e
            · rw [if_pos g]
              rw [if_pos (Or.inl g)] at i5
              omega
            · rw [if_neg g]
              rw [if_neg (fun z => z.elim g (fun z => by cases z))] at i5
              omega
          · rw [List.pairwise_append]
            refine ⟨i8, List.pairwise_singleton _ _, fun x hx y hy => ?_⟩
            rw [List.mem_singleton.mp hy]
            exact (i1 x hx).2.1
/-- what a body keeps to -/
def zBo (C : List Int32) (F : List zE) (O : List (Nat × Nat)) : Prop := (∀ q ∈ O, zAo F F.length q ∧ C.getD q.1 (-1) ≠ 60) ∧ zcg none O ≤ 60 ∧ (∀ e j, e < F.length → (F.getD e (0, 0, 0, [])).2.2.1 = nI j → j < 1000 → ∀ e', j ≤ e' → e' < e → zDe F j e') ∧ O.Pairwise (fun x y => x.1 < y.1)
theorem zBo_of {C : List Int32} {F : List zE} {O : List (Nat × Nat)} {n : Nat} (hl : C.length ≤ 300) (hK : zKp F) (h30 : F.length ≤ 30) (hO : ∀ q ∈ O, zkd F q.2 = 112 ∨ zkd F q.2 = 120) (h : zpar C n 0 [] [] [] = .inr (F, O)) : zBo C F O :=
  zpar_A hl hK h30 hO n 0 [] [] [] h (fun q hq => (by cases hq)) (fun e he => absurd he (Nat.not_lt_zero _)) trivial (fun t r q => (by cases q)) (by decide) (fun x hx => (by cases hx)) (fun e j he => absurd he (Nat.not_lt_zero _)) List.Pairwise.nil
