/-! An abstract machine over places: what a method does to the cells that the law has made, by computation. A reference is the number of a cell (its place); 'ad' says at which address a place lies. -/
def am_v (ad : Nat → Nat) (v : Value) : Value := match v with
  | .ref k => .ref (ad k)
  | w => w
/-- locals by their numbers; none: nothing is known -/
def am_has (ad : Nat → Nat) (ls : Array Slot) (nL : Nat) (L : List (Option Value)) : Prop := ls.size = nL ∧ lv_wf ls ∧ L.length = nL ∧ ∀ (i : Nat) (w : Value), L[i]? = some (some w) → ls[i]? = some (.val (am_v ad w))
def am_le (L' L : List (Option Value)) : Prop := L'.length = L.length ∧ ∀ (i : Nat) (w : Value), L'[i]? = some (some w) → L[i]? = some (some w)
theorem am_has_le {ad : Nat → Nat} {ls : Array Slot} {nL : Nat} {L L' : List (Option Value)} (h : am_has ad ls nL L) (hl : am_le L' L) : am_has ad ls nL L' :=
  ⟨h.1, h.2.1, hl.1.trans h.2.2.1, fun i w hw => h.2.2.2 i w (hl.2 i w hw)⟩
theorem am_cat (ad : Nat → Nat) (v : Value) : (am_v ad v).category = v.category := by cases v <;> rfl
/-- no long stands just below the local i -/
def am_lo (L : List (Option Value)) (i : Nat) : Bool := match i with
  | 0 => true
  | j + 1 => match L[j]? with
    | some (some v) => v.category == 1
    | _ => true
def am_s1 (L : List (Option Value)) (i : Nat) (v : Value) : Option (List (Option Value)) := if i < L.length ∧ am_lo L i = true then some (L.set i (some v)) else none
def am_s2 (L : List (Option Value)) (i : Nat) (v : Value) : Option (List (Option Value)) := if i + 1 < L.length ∧ am_lo L i = true then some ((L.set i (some v)).set (i + 1) none) else none
/-- the list of the kit's locals that says as much -/
def am_ll (ad : Nat → Nat) (L : List (Option Value)) : List (Nat × Value) := (List.range L.length).filterMap (fun i => match L[i]? with
  | some (some w) => some (i, am_v ad w)
  | _ => none)
theorem am_ll_mem {ad : Nat → Nat} {L : List (Option Value)} {q : Nat × Value} : q ∈ am_ll ad L ↔ ∃ w, L[q.1]? = some (some w) ∧ q.2 = am_v ad w := by
  unfold am_ll
  rw [List.mem_filterMap]
  constructor
  · rintro ⟨i, hi, h⟩
    split at h
    · next w hw =>
      cases h
      exact ⟨w, hw, rfl⟩
    · cases h
  · rintro ⟨w, hw, e⟩
    refine ⟨q.1, List.mem_range.mpr (List.getElem?_eq_some_iff.mp hw).1, ?_⟩
    rw [hw]
    simp only
    rw [← e]
theorem am_has_lv {ad : Nat → Nat} {ls : Array Slot} {nL : Nat} {L : List (Option Value)} (h : am_has ad ls nL L) : lv_has ls nL (am_ll ad L) := by
  refine ⟨h.1, h.2.1, fun q hq => ?_⟩
  obtain ⟨w, hw, e⟩ := am_ll_mem.mp hq
  rw [e]
  exact h.2.2.2 _ _ hw
theorem am_has_s1 {ad : Nat → Nat} {ls' : Array Slot} {nL i : Nat} {v : Value} {L L' : List (Option Value)} (hn : L.length = nL) (hs : am_s1 L i v = some L')
    (h : lv_has ls' nL ((i, am_v ad v) :: (am_ll ad L).filter (fun q => !(q.1 == i) && !(q.1 + 1 == i && q.2.category == 2)))) : am_has ad ls' nL L' := by
  unfold am_s1 at hs
  split at hs
  · next hc =>
    cases hs
    refine ⟨h.1, h.2.1, by simpa using hn, fun j w hw => ?_⟩
    by_cases hj : j = i
    · subst hj
      rw [List.getElem?_set_self hc.1] at hw
      cases hw
      exact h.2.2 (j, am_v ad v) List.mem_cons_self
    · rw [List.getElem?_set_ne (fun e => hj e.symm)] at hw
      refine h.2.2 (j, am_v ad w) (List.mem_cons_of_mem _ (List.mem_filter.mpr ⟨am_ll_mem.mpr ⟨w, hw, rfl⟩, ?_⟩))
      have h1 : (j == i) = false := by simpa using hj
      simp only [h1, Bool.not_false, Bool.true_and, Bool.not_eq_true']
      by_cases hj1 : j + 1 = i
      · subst hj1
        have h2 := hc.2
        simp only [am_lo, hw] at h2
        rw [am_cat]
        have h3 : w.category = 1 := by simpa using h2
        simp [h3]
      · have h2 : (j + 1 == i) = false := by simpa using hj1
        simp [h2]
  · cases hs
theorem am_has_s2 {ad : Nat → Nat} {ls' : Array Slot} {nL i : Nat} {v : Value} {L L' : List (Option Value)} (hn : L.length = nL) (hs : am_s2 L i v = some L')
    (h : lv_has ls' nL ((i, am_v ad v) :: (am_ll ad L).filter (fun q => !(q.1 == i) && (!(q.1 == i + 1) && !(q.1 + 1 == i && q.2.category == 2))))) : am_has ad ls' nL L' := by
  unfold am_s2 at hs
  split at hs
  · next hc =>
    cases hs
    refine ⟨h.1, h.2.1, by simpa using hn, fun j w hw => ?_⟩
    by_cases hj2 : j = i + 1
    · subst hj2
      rw [List.getElem?_set_self (by simpa using hc.1)] at hw
      cases hw
    · rw [List.getElem?_set_ne (fun e => hj2 e.symm)] at hw
      by_cases hj : j = i
      · subst hj
        rw [List.getElem?_set_self (by omega)] at hw
        cases hw
        exact h.2.2 (j, am_v ad v) List.mem_cons_self
      · rw [List.getElem?_set_ne (fun e => hj e.symm)] at hw
        refine h.2.2 (j, am_v ad w) (List.mem_cons_of_mem _ (List.mem_filter.mpr ⟨am_ll_mem.mpr ⟨w, hw, rfl⟩, ?_⟩))
        have h1 : (j == i) = false := by simpa using hj
        have h1' : (j == i + 1) = false := by simpa using hj2
        simp only [h1, h1', Bool.not_false, Bool.true_and, Bool.not_eq_true']
        by_cases hj1 : j + 1 = i
        · subst hj1
          have h2 := hc.2
          simp only [am_lo, hw] at h2
          rw [am_cat]
          have h3 : w.category = 1 := by simpa using h2
          simp [h3]
        · have h2 : (j + 1 == i) = false := by simpa using hj1
          simp [h2]
  · cases hs
