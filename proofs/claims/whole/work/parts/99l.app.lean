/-! apply: what a script keeps, and what comes of it. -/
set_option maxRecDepth 100000
set_option linter.unusedVariables false
def zcB (B : List zN) (f : Nat → Nat) (x : zSp) : Nat := match x.2.1 with
  | none => 0
  | some j => match x.1 with
    | some _ => f j
    | none => zW B f j
def zcA (A : List zN) (f : Nat → Nat) (x : zSp) : Nat := match x.1 with
  | none => 0
  | some i => match x.2.1 with
    | some _ => f i
    | none => zW A f i
def zrA (A : List zN) (f : Nat → Nat) : List zF4 → Nat
  | [] => 0
  | (a, b, l1, l2) :: st => (l1.map (zW A f)).sum + zrA A f st
def zrB (B : List zN) (f : Nat → Nat) : List zF4 → Nat
  | [] => 0
  | (a, b, l1, l2) :: st => (l2.map (zW B f)).sum + zrB B f st
/-- a step as it may be -/
def zSv (A B : List zN) (x : zSp) : Prop := (∃ i j, x = (some i, some j, none, none) ∧ i < A.length ∧ j < B.length ∧ (zno A i).1 = (zno B j).1) ∨ (∃ i, x = (some i, none, none, none) ∧ 0 < i ∧ i < A.length) ∨ ∃ j a pl, x = (none, some j, some a, pl) ∧ 0 < j ∧ j < B.length ∧ a < A.length ∧ (∀ i, pl = some i → zab A i = some a) ∧ (zno A a).1 ≠ 2
theorem zcs_p {A B : List zN} {i j : Nat} (hi : i < A.length) (hj : j < B.length) (hk : (zno A i).1 = (zno B j).1) (fA fB : Nat → Nat) : (∀ x ∈ zcs A B i j, zSv A B x) ∧ ((zcs A B i j).map (zcA A fA)).sum ≤ fA i ∧ ((zcs A B i j).map (zcB B fB)).sum ≤ fB j := by
  unfold zcs
  split
  · exact ⟨fun x hx => absurd hx List.not_mem_nil, Nat.zero_le _, Nat.zero_le _⟩
  · refine ⟨fun x hx => ?_, ?_, ?_⟩
    · rw [List.mem_singleton.mp hx]
      exact Or.inl ⟨i, j, rfl, hi, hj, hk⟩
    · show fA i + 0 ≤ _; omega
    · show fB j + 0 ≤ _; omega
theorem zwk_p {A B : List zN} {fA fB : Nat → Nat} {NA NB : Nat} (hA : zWf A) (hB : zWf B) : ∀ n st L, (st = [] ∨ zok4 A B st) → (∀ fr ∈ st, (zno A fr.1).1 = (zno B fr.2.1).1) → (∀ x ∈ L, zSv A B x) → (L.map (zcA A fA)).sum + zrA A fA st ≤ NA → (L.map (zcB B fB)).sum + zrB B fB st ≤ NB →
    (∀ x ∈ zwk A B n st L, zSv A B x) ∧ ((zwk A B n st L).map (zcA A fA)).sum ≤ NA ∧ ((zwk A B n st L).map (zcB B fB)).sum ≤ NB := by
  intro n
  induction n with
  | zero => intro st L _ _ h1 h2 h3; exact ⟨h1, by show (L.map _).sum ≤ _; omega, by show (L.map _).sum ≤ _; omega⟩
  | succ n ih =>
    intro st L ho hkd h1 h2 h3
    cases st with
    | nil => exact ⟨h1, by show (L.map _).sum ≤ _; omega, by show (L.map _).sum ≤ _; omega⟩
    | cons fr st =>
      obtain ⟨a, b, l1, l2⟩ := fr
      have ho : zok4 A B ((a, b, l1, l2) :: st) := by
        rcases ho with q | q
        · cases q
        · exact q
      obtain ⟨ha, hb, r1, r2⟩ := zok4_t ho
      rw [zrA] at h2
      rw [zrB] at h3
      have pop : st = [] ∨ zok4 A B st := by
        cases st with
        | nil => exact Or.inl rfl
        | cons g st => exact Or.inr ho.2.2.2.2.2.2
      rw [zwk]
      by_cases e : l1 = [] ∧ l2 = []
      · rw [if_pos e]
        exact ih st L pop (fun fr hfr => hkd fr (List.mem_cons_of_mem _ hfr)) h1 (by omega) (by omega)
      · rw [if_neg e]
        by_cases g0 : zgo A B l1 l2 = 0
        · rw [if_pos g0]
          cases l1 with
          | nil => cases g0
          | cons i m1 =>
            cases l2 with
            | nil => cases g0
            | cons j m2 =>
              obtain ⟨a1, a2, a3, a4⟩ := zrw_tl r1
              obtain ⟨b1, b2, b3, b4⟩ := zrw_tl r2
              have hk : (zno A i).1 = (zno B j).1 := by
                refine Classical.byContradiction fun q => ?_
                have hcc : zcc A B i j = none := by rw [zcc_e a3, if_neg q]
                exact zgo_n hcc g0
              obtain ⟨c1, c2, c3⟩ := zcs_p a3 b3 hk fA fB
              rw [List.map_cons, List.sum_cons, zW_e] at h2 h3
              refine ih _ _ (Or.inr (zok4_p ho)) (fun fr hfr => ?_) (fun x hx => ?_) ?_ ?_
              · rcases List.mem_cons.mp hfr with q | q
                · rw [q]; exact hk
                · rcases List.mem_cons.mp q with q | q
                  · rw [q]; exact hkd (a, b, i :: m1, j :: m2) List.mem_cons_self
                  · exact hkd fr (List.mem_cons_of_mem _ q)
              · rcases List.mem_append.mp hx with q | q
                · exact h1 x q
                · exact c1 x q
              · rw [List.map_append, List.sum_append, zrA, zrA]
                show _ + ((zcs A B i j).map (zcA A fA)).sum + (((zkb A i).map (zW A fA)).sum + ((m1.map (zW A fA)).sum + zrA A fA st)) ≤ NA
                omega
              · rw [List.map_append, List.sum_append, zrB, zrB]
                show _ + ((zcs A B i j).map (zcB B fB)).sum + (((zkb B j).map (zW B fB)).sum + ((m2.map (zW B fB)).sum + zrB B fB st)) ≤ NB
                omega
        · rw [if_neg g0]
          by_cases g1 : zgo A B l1 l2 = 1
          · rw [if_pos g1]
            cases l1 with
            | nil => unfold zgo at g1; cases g1
            | cons i m1 =>
              obtain ⟨a1, a2, a3, a4⟩ := zrw_tl r1
              have hi0 : 0 < i := by
                rcases (hA i a3).2.1 with ⟨_, w, _⟩ | ⟨c, w, _⟩
                · rw [a4] at w; cases w
                · omega
              rw [List.map_cons, List.sum_cons] at h2
              refine ih _ _ (Or.inr (zok4_r ho a1 r2)) (fun fr hfr => ?_) (fun x hx => ?_) ?_ ?_
              · rcases List.mem_cons.mp hfr with q | q
                · rw [q]; exact hkd (a, b, i :: m1, l2) List.mem_cons_self
                · exact hkd fr (List.mem_cons_of_mem _ q)
              · rcases List.mem_append.mp hx with q | q
                · exact h1 x q
                · rw [List.mem_singleton.mp q]
                  exact Or.inr (Or.inl ⟨i, rfl, hi0, a3⟩)
              · rw [List.map_append, List.sum_append, zrA]
                show _ + (zW A fA i + 0) + ((m1.map (zW A fA)).sum + zrA A fA st) ≤ NA
                omega
              · rw [List.map_append, List.sum_append, zrB]
                show _ + (0 + 0) + ((l2.map (zW B fB)).sum + zrB B fB st) ≤ NB
                omega
          · rw [if_neg g1]
            cases l2 with
            | nil =>
              cases l1 with
              | nil => exact absurd ⟨rfl, rfl⟩ e
              | cons i m1 => exact absurd rfl g1
            | cons j m2 =>
              obtain ⟨b1, b2, b3, b4⟩ := zrw_tl r2
              have hj0 : 0 < j := by
                rcases (hB j b3).2.1 with ⟨_, w, _⟩ | ⟨c, w, _⟩
                · rw [b4] at w; cases w
                · omega
              rw [List.map_cons, List.sum_cons] at h3
              have hka : (zno A a).1 ≠ 2 := by
                have e1 : (zno A a).1 = (zno B b).1 := hkd (a, b, l1, j :: m2) List.mem_cons_self
                rw [e1]
                exact (hB j b3).2.2.2.2.2 b b4
              refine ih _ _ (Or.inr (zok4_r ho r1 b1)) (fun fr hfr => ?_) (fun x hx => ?_) ?_ ?_
              · rcases List.mem_cons.mp hfr with q | q
                · rw [q]; exact hkd (a, b, l1, j :: m2) List.mem_cons_self
                · exact hkd fr (List.mem_cons_of_mem _ q)
              · rcases List.mem_append.mp hx with q | q
                · exact h1 x q
                · rw [List.mem_singleton.mp q]
                  refine Or.inr (Or.inr ⟨j, a, l1.head?, rfl, hj0, b3, ha, fun i hi => ?_, hka⟩)
                  cases l1 with
                  | nil => cases hi
                  | cons x m1 =>
                    cases hi
                    exact (zrw_tl r1).2.2.2
              · rw [List.map_append, List.sum_append, zrA]
                show _ + (0 + 0) + ((l1.map (zW A fA)).sum + zrA A fA st) ≤ NA
                omega
              · rw [List.map_append, List.sum_append, zrB]
                show _ + (zW B fB j + 0) + ((m2.map (zW B fB)).sum + zrB B fB st) ≤ NB
                omega
theorem zscr_p {A B : List zN} (hA : zWf A) (hB : zWf B) (hA0 : 0 < A.length) (hB0 : 0 < B.length) (fA fB : Nat → Nat) : (∀ x ∈ zscr A B, zSv A B x) ∧ ((zscr A B).map (zcA A fA)).sum ≤ zFs A fA 0 ∧ ((zscr A B).map (zcB B fB)).sum ≤ zFs B fB 0 := by
  have hk0 : (zno A 0).1 = (zno B 0).1 := by
    rcases (hA 0 hA0).2.1 with ⟨_, _, w⟩ | ⟨x, w, _⟩
    · rcases (hB 0 hB0).2.1 with ⟨_, _, w'⟩ | ⟨x, w', _⟩
      · rw [w, w']
      · omega
    · omega
  obtain ⟨c1, c2, c3⟩ := zcs_p hA0 hB0 hk0 fA fB
  have h1 := zW_le (f := fA) hA hA0
  have h2 := zW_le (f := fB) hB hB0
  rw [zW_e] at h1 h2
  refine zwk_p hA hB 100 _ _ (Or.inr ⟨rfl, rfl, hA0, hB0, ⟨_, rfl⟩, ⟨_, rfl⟩⟩) (fun fr hfr => by rw [List.mem_singleton.mp hfr]; exact hk0) c1 ?_ ?_
  · rw [zrA, zrA]; omega
  · rw [zrB, zrB]; omega
/-- how an old node ends: nothing, out, or what it becomes -/
def zfx (P : List zSp) (a : Nat) : Option (Option Nat) := (P.find? (fun x => x.1 == some a)).map (fun x => x.2.1)
theorem zone {A B : List zN} (hA : zWf A) (hB : zWf B) (hA0 : 0 < A.length) (hB0 : 0 < B.length) {a : Nat} : ((zscr A B).filter (fun x => x.1 == some a)).length ≤ 1 := by
  have h := (zscr_p hA hB hA0 hB0 (fun x => if a = x then 1 else 0) (fun _ => 0)).2.1
  have e : zFs A (fun x => if a = x then 1 else 0) 0 ≤ 1 := by
    unfold zFs
    rw [Nat.sub_zero, ← List.range_eq_range', zsum_one]
    split <;> decide
  have g : ∀ L : List zSp, (L.filter (fun x => x.1 == some a)).length ≤ (L.map (zcA A (fun x => if a = x then 1 else 0))).sum := by
    intro L
    induction L with
    | nil => exact Nat.le_refl _
    | cons x L ih =>
      rw [List.filter_cons, List.map_cons, List.sum_cons]
      by_cases q : x.1 = some a
      · rw [if_pos (by simpa using q), List.length_cons]
        have : 1 ≤ zcA A (fun x => if a = x then 1 else 0) x := by
          unfold zcA
          rw [q]
          dsimp only
          split
          · rw [if_pos rfl]; exact Nat.le_refl _
          · rw [zW_e, if_pos rfl]; omega
        omega
      · rw [if_neg (by simpa using q)]
        omega
  have := g (zscr A B)
  omega
theorem zuq {L : List zSp} (h1 : ∀ a, (L.filter (fun x => x.1 == some a)).length ≤ 1) {k a : Nat} (hk : k < L.length) (ha : (zsL L k).1 = some a) : (L.take k).find? (fun x => x.1 == some a) = none := by
  rw [List.find?_eq_none]
  intro x hx hq
  have e : L = L.take k ++ (zsL L k :: L.drop (k + 1)) := by
    have : L.drop k = zsL L k :: L.drop (k + 1) := by
      rw [List.drop_eq_getElem_cons hk]
      congr 1
      unfold zsL
      rw [List.getD_eq_getElem?_getD, List.getElem?_eq_getElem hk]
      rfl
    rw [← this, List.take_append_drop]
  have h := h1 a
  rw [e, List.filter_append, List.length_append, List.filter_cons, if_pos (by simpa using ha), List.length_cons] at h
  have : 0 < ((L.take k).filter (fun x => x.1 == some a)).length := List.length_pos_iff.mpr (fun q => by
    have : x ∈ (L.take k).filter (fun x => x.1 == some a) := List.mem_filter.mpr ⟨hx, hq⟩
    rw [q] at this
    cases this)
  omega
/-- the first node behind a node's own -/
def zen (D : List zN) (j : Nat) : Nat → Nat → Nat
  | 0, k => k
  | m + 1, k => match zab D k with
    | some v => if j ≤ v then zen D j m (k + 1) else k
    | none => k
def zend (D : List zN) (j : Nat) : Nat := zen D j D.length (j + 1)
theorem zen_p {D : List zN} {j : Nat} : ∀ m k, k ≤ zen D j m k ∧ (∀ u, k ≤ u → u < zen D j m k → ∃ v, zab D u = some v ∧ j ≤ v) := by
  intro m
  induction m with
  | zero => intro k; exact ⟨Nat.le_refl _, fun u h1 h2 => absurd h2 (by rw [zen]; omega)⟩
  | succ m ih =>
    intro k
    rw [zen]
    cases h : zab D k with
    | none => exact ⟨Nat.le_refl _, fun u h1 h2 => by dsimp only at h2; omega⟩
    | some v =>
      dsimp only
      by_cases g : j ≤ v
      · rw [if_pos g]
        obtain ⟨a1, a2⟩ := ih (k + 1)
        refine ⟨by omega, fun u h1 h2 => ?_⟩
        by_cases q : u = k
        · rw [q]; exact ⟨v, h, g⟩
        · exact a2 u (by omega) h2
      · rw [if_neg g]
        exact ⟨Nat.le_refl _, fun u h1 h2 => by omega⟩
theorem zen_e {D : List zN} {j : Nat} : ∀ m k, D.length ≤ k + m → ∀ v, zab D (zen D j m k) = some v → v < j := by
  intro m
  induction m with
  | zero =>
    intro k h v hv
    have := zab_lt hv
    rw [zen] at this
    omega
  | succ m ih =>
    intro k h v hv
    rw [zen] at hv
    cases hk : zab D k with
    | none => rw [hk] at hv; dsimp only at hv; rw [hk] at hv; cases hv
    | some w =>
      rw [hk] at hv
      dsimp only at hv
      by_cases g : j ≤ w
      · rw [if_pos g] at hv
        exact ih (k + 1) (by omega) v hv
      · rw [if_neg g, hk] at hv
        cases hv
        omega
theorem zend_p {D : List zN} {j : Nat} (hj : j < D.length) : j < zend D j ∧ zend D j ≤ D.length ∧ (∀ u, j < u → u < zend D j → ∃ v, zab D u = some v ∧ j ≤ v) ∧ ∀ v, zab D (zend D j) = some v → v < j := by
  obtain ⟨a1, a2⟩ := zen_p (D := D) (j := j) D.length (j + 1)
  have a3 := zen_e (D := D) (j := j) D.length (j + 1) (by omega)
  refine ⟨a1, ?_, fun u h1 h2 => a2 u h1 h2, a3⟩
  refine Nat.le_of_not_lt (fun q => ?_)
  obtain ⟨v, h1, _⟩ := a2 (zend D j - 1) (by have : j + 1 ≤ zend D j := a1; omega) (by show _ < zend D j; omega)
  have := zab_lt h1
  omega
theorem zend_s {D : List zN} {f : Nat → Nat} {j : Nat} (hW : zWf D) (hj : j < D.length) : ((List.range' j (zend D j - j)).map f).sum ≤ zW D f j := by
  obtain ⟨e1, e2, e3, _⟩ := zend_p hj
  have l : ∀ m k, j < k → k + m = zend D j → ((List.range' k m).map f).sum ≤ ((List.range' j (k - j)).map (zG D f k)).sum := by
    intro m
    induction m with
    | zero => intro k h1 h2; exact Nat.zero_le _
    | succ m ih =>
      intro k h1 h2
      have h3 := ih (k + 1) (by omega) (by omega)
      obtain ⟨p, w2, w1⟩ := e3 k h1 (by omega)
      have hpk : p < k := by
        rcases (hW k (zab_lt w2)).2.1 with ⟨_, w, _⟩ | ⟨c, q1, q2, _⟩
        · rw [w2] at w; cases w
        · rw [w2] at q2; cases q2; exact q1
      rw [List.range'_succ, List.map_cons, List.sum_cons]
      rw [show k + 1 - j = (k - j) + 1 by omega, List.range'_concat, List.map_append, List.sum_append] at h3
      have h4 : ([j + 1 * (k - j)].map (zG D f (k + 1))).sum = zG D f (k + 1) k := by
        rw [show j + 1 * (k - j) = k by omega]
        show _ + 0 = _
        omega
      rw [h4] at h3
      have e : (List.range' j (k - j)).map (zG D f k) = (List.range' j (k - j)).map (fun a => (if p = a then zW D f k else 0) + zG D f (k + 1) a) := by
        refine List.map_congr_left (fun a _ => ?_)
        rw [zG_e (zab_lt w2), w2]
        by_cases q : p = a
        · rw [if_pos (by rw [q]), if_pos q]
        · rw [if_neg (fun z => q (Option.some.inj z)), if_neg q]
      rw [e, zsum_add]
      have h5 : zW D f k ≤ ((List.range' j (k - j)).map (fun a => if p = a then zW D f k else 0)).sum := by
        have := zsum_le (f := fun a => if p = a then zW D f k else 0) (x := p) (List.range' j (k - j)) (List.mem_range'_1.mpr ⟨w1, by omega⟩)
        rw [if_pos rfl] at this
        exact this
      have h6 : zW D f k = f k + zG D f (k + 1) k := by rw [zW_e]; rfl
      omega
  have h := l (zend D j - (j + 1)) (j + 1) (by omega) (by omega)
  rw [show j + 1 - j = 1 by omega] at h
  have h1 : ((List.range' j 1).map (zG D f (j + 1))).sum = zG D f (j + 1) j := by show _ + 0 = _; omega
  rw [h1] at h
  rw [show zend D j - j = (zend D j - (j + 1)) + 1 by omega, List.range'_succ, List.map_cons, List.sum_cons, zW_e]
  have : zG D f (j + 1) j = ((zkb D j).map (zW D f)).sum := rfl
  omega
/-! what comes of a script -/
/-- the nodes of a subtree, copied behind D -/
def zcq (B : List zN) (c j : Nat) (ab : Option Nat) (u : Nat) : zN := ((zno B u).1, if u = j then ab else (zab B u).map (fun v => c + (v - j)), (zno B u).2.2.1, (zno B u).2.2.2)
def zcl2 (B : List zN) (D : List zN) (j : Nat) (ab : Option Nat) : List zN := D ++ (List.range' j (zend B j - j)).map (zcq B D.length j ab)
/-- does a step put in here -/
def zky (row : Nat) (pl : Option Nat) (x : zSp) : Bool := decide (x.1 = none) && (decide (x.2.2.1 = some row) && decide (x.2.2.2 = pl))
def zpin (B : List zN) (P : List zSp) (CP : Nat → Nat) (row : Nat) (pl : Option Nat) (D : List zN) : List zN := P.foldl (fun D x => if zky row pl x = true then zcl2 B D (x.2.1.getD 0) (some (CP row)) else D) D
/-- the rows' ends from c up to, not with, u -/
def zerw (A B : List zN) (P : List zSp) (CP : Nat → Nat) (u : Option Nat) : Nat → Option Nat → List zN → List zN
  | 0, _, D => D
  | m + 1, c, D => if c = u then D else match c with
    | none => D
    | some x => zerw A B P CP u m (zab A x) (zpin B P CP x none D)
def zgn (A : List zN) (P : List zSp) : Nat → Nat → Bool
  | 0, _ => false
  | n + 1, a => decide (zfx P a = some none) || (match zab A a with
    | some p => zgn A P n p
    | none => false)
/-- is a node gone -/
def zgB (A : List zN) (P : List zSp) (a : Nat) : Bool := zgn A P (a + 1) a
def zgO (A : List zN) (P : List zSp) (o : Option Nat) : Bool := match o with
  | some p => zgB A P p
  | none => false
theorem zgn_i {A : List zN} {P : List zSp} (hW : zWf A) : ∀ n m a, a < n → a < m → zgn A P n a = zgn A P m a := by
  intro n
  induction n with
  | zero => intro m a h; omega
  | succ n ih =>
    intro m a h1 h2
    obtain ⟨m, rfl⟩ : ∃ m', m = m' + 1 := ⟨m - 1, by omega⟩
    rw [zgn, zgn]
    cases h : zab A a with
    | none => rfl
    | some p =>
      have : p < a := by
        rcases (hW a (zab_lt h)).2.1 with ⟨_, w, _⟩ | ⟨c, q1, q2, _⟩
        · rw [h] at w; cases w
        · rw [h] at q2; cases q2; exact q1
      dsimp only
      rw [ih m p (by omega) (by omega)]
theorem zgB_e {A : List zN} {P : List zSp} (hW : zWf A) {a : Nat} : zgB A P a = (decide (zfx P a = some none) || zgO A P (zab A a)) := by
  unfold zgB
  rw [zgn]
  cases h : zab A a with
  | none => rfl
  | some p =>
    have : p < a := by
      rcases (hW a (zab_lt h)).2.1 with ⟨_, w, _⟩ | ⟨c, q1, q2, _⟩
      · rw [h] at w; cases w
      · rw [h] at q2; cases q2; exact q1
    show (_ || zgn A P a p) = (_ || zgB A P p)
    unfold zgB
    rw [zgn_i hW a (p + 1) p this (Nat.lt_succ_self _)]
/-- what an old node becomes -/
def zcpo (A B : List zN) (P : List zSp) (CP : Nat → Nat) (p : Nat) : zN := match zfx P p with
  | some (some b) => ((zno B b).1, (zab A p).map CP, (zno B b).2.2.1, (zno B b).2.2.2)
  | _ => ((zno A p).1, (zab A p).map CP, (zno A p).2.2.1, (zno A p).2.2.2)
abbrev zYY : Type := List zN × (Nat → Nat) × Option Nat
def zpiO (B : List zN) (P : List zSp) (CP : Nat → Nat) (row : Option Nat) (p : Nat) (D : List zN) : List zN := match row with
  | some q => zpin B P CP q (some p) D
  | none => D
def zst2 (A B : List zN) (P : List zSp) (p : Nat) (Y : zYY) : zYY :=
  if zgO A P (zab A p) = true then Y
  else if zgB A P p = true then (zpiO B P Y.2.1 (zab A p) p (zerw A B P Y.2.1 (zab A p) 41 Y.2.2 Y.1), Y.2.1, zab A p)
  else (zpiO B P Y.2.1 (zab A p) p (zerw A B P Y.2.1 (zab A p) 41 Y.2.2 Y.1) ++ [zcpo A B P Y.2.1 p], (fun x => if x = p then (zpiO B P Y.2.1 (zab A p) p (zerw A B P Y.2.1 (zab A p) 41 Y.2.2 Y.1)).length else Y.2.1 x), some p)
def zrun2 (A B : List zN) (P : List zSp) : Nat → Nat → zYY → zYY
  | 0, _, Y => Y
  | m + 1, p, Y => zrun2 A B P m (p + 1) (zst2 A B P p Y)
def zfin2 (A B : List zN) (P : List zSp) (Y : zYY) : List zN := zerw A B P Y.2.1 none 41 Y.2.2 Y.1
/-- what comes of the steps P -/
def zap (A B : List zN) (P : List zSp) : List zN := zfin2 A B P (zrun2 A B P A.length 0 ([], fun _ => 0, none))
/-! all only gets longer -/
theorem zpin_x {B : List zN} {CP : Nat → Nat} {row : Nat} {pl : Option Nat} : ∀ (P : List zSp) (D : List zN), ∃ X, zpin B P CP row pl D = D ++ X := by
  intro P
  induction P with
  | nil => intro D; exact ⟨[], (List.append_nil _).symm⟩
  | cons x P ih =>
    intro D
    unfold zpin
    rw [List.foldl_cons]
    split
    · obtain ⟨X, hX⟩ := ih (zcl2 B D (x.2.1.getD 0) (some (CP row)))
      exact ⟨_, by unfold zpin at hX; rw [hX]; unfold zcl2; rw [List.append_assoc]⟩
    · exact ih D
theorem zerw_x {A B : List zN} {P : List zSp} {CP : Nat → Nat} {u : Option Nat} : ∀ m c D, ∃ X, zerw A B P CP u m c D = D ++ X := by
  intro m
  induction m with
  | zero => intro c D; exact ⟨[], (List.append_nil _).symm⟩
  | succ m ih =>
    intro c D
    cases c with
    | none =>
      rw [zerw]
      split
      · exact ⟨[], (List.append_nil _).symm⟩
      · exact ⟨[], (List.append_nil _).symm⟩
    | some x =>
      rw [zerw]
      split
      · exact ⟨[], (List.append_nil _).symm⟩
      · obtain ⟨X, hX⟩ := zpin_x (B := B) (CP := CP) (row := x) (pl := none) P D
        obtain ⟨Y, hY⟩ := ih (zab A x) (zpin B P CP x none D)
        exact ⟨X ++ Y, by rw [hY, hX, List.append_assoc]⟩
theorem zpiO_x {B : List zN} {P : List zSp} {CP : Nat → Nat} {row : Option Nat} {p : Nat} {D : List zN} : ∃ X, zpiO B P CP row p D = D ++ X := by
  unfold zpiO
  split
  · exact zpin_x P D
  · exact ⟨[], (List.append_nil _).symm⟩
theorem zst2_x {A B : List zN} {P : List zSp} {p : Nat} {Y : zYY} : ∃ X, (zst2 A B P p Y).1 = Y.1 ++ X := by
  unfold zst2
  split
  · exact ⟨[], (List.append_nil _).symm⟩
  · obtain ⟨X, hX⟩ := zerw_x (A := A) (B := B) (P := P) (CP := Y.2.1) (u := zab A p) 41 Y.2.2 Y.1
    obtain ⟨Z, hZ⟩ := zpiO_x (B := B) (P := P) (CP := Y.2.1) (row := zab A p) (p := p) (D := zerw A B P Y.2.1 (zab A p) 41 Y.2.2 Y.1)
    split
    · exact ⟨X ++ Z, by dsimp only; rw [hZ, hX, List.append_assoc]⟩
    · exact ⟨X ++ (Z ++ [zcpo A B P Y.2.1 p]), by dsimp only; rw [hZ, hX, List.append_assoc, List.append_assoc]⟩
theorem zrun2_x {A B : List zN} {P : List zSp} : ∀ m p Y, ∃ X, (zrun2 A B P m p Y).1 = Y.1 ++ X := by
  intro m
  induction m with
  | zero => intro p Y; exact ⟨[], (List.append_nil _).symm⟩
  | succ m ih =>
    intro p Y
    rw [zrun2]
    obtain ⟨X, hX⟩ := zst2_x (A := A) (B := B) (P := P) (p := p) (Y := Y)
    obtain ⟨Z, hZ⟩ := ih (p + 1) (zst2 A B P p Y)
    exact ⟨X ++ Z, by rw [hZ, hX, List.append_assoc]⟩
