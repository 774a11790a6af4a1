/-! compare: rows, weights, costs of documents. -/
set_option maxRecDepth 100000
set_option linter.unusedVariables false
/-- the nodes in a, from k on -/
def zrw (D : List zN) (a k : Nat) : List Nat := (List.range' k (D.length - k)).filter (fun c => zab D c == some a)
def zkb (D : List zN) (a : Nat) : List Nat := zrw D a (a + 1)
theorem zrw_e {D : List zN} {a k : Nat} (h : k < D.length) : zrw D a k = if zab D k = some a then k :: zrw D a (k + 1) else zrw D a (k + 1) := by
  unfold zrw
  obtain ⟨m, hm⟩ : ∃ m, D.length - k = m + 1 := ⟨D.length - k - 1, by omega⟩
  rw [hm, List.range'_succ, List.filter_cons, show D.length - (k + 1) = m by omega]
  by_cases g : zab D k = some a
  · rw [if_pos (by simpa using g), if_pos g]
  · rw [if_neg (by simpa using g), if_neg g]
theorem zrw_n {D : List zN} {a k : Nat} (h : D.length ≤ k) : zrw D a k = [] := by
  unfold zrw
  rw [show D.length - k = 0 by omega]
  rfl
theorem zrw_m {D : List zN} {a k c : Nat} : c ∈ zrw D a k ↔ k ≤ c ∧ c < D.length ∧ zab D c = some a := by
  unfold zrw
  rw [List.mem_filter, List.mem_range'_1]
  constructor
  · intro ⟨h1, h2⟩
    exact ⟨h1.1, by omega, by simpa using h2⟩
  · intro ⟨h1, h2, h3⟩
    exact ⟨⟨h1, by omega⟩, by simpa using h3⟩
theorem zrw_c {D : List zN} {a : Nat} (hW : zWf D) : ∀ m k, k + m = a + 1 → zrw D a k = zkb D a := by
  intro m
  induction m with
  | zero => intro k h; rw [show k = a + 1 by omega]; rfl
  | succ m ih =>
    intro k h
    by_cases g : k < D.length
    · rw [zrw_e g, if_neg, ih (k + 1) (by omega)]
      intro q
      rcases (hW k g).2.1 with ⟨_, w, _⟩ | ⟨b, w1, w2, _⟩
      · rw [q] at w; cases w
      · rw [q] at w2; cases w2; omega
    · unfold zkb
      rw [zrw_n (by omega), zrw_n (by omega)]
theorem zrw_s {D : List zN} {a c : Nat} {l : List Nat} : ∀ m k, k + m = D.length → zrw D a k = c :: l → l = zrw D a (c + 1) ∧ k ≤ c ∧ c < D.length ∧ zab D c = some a := by
  intro m
  induction m with
  | zero => intro k h q; rw [zrw_n (by omega)] at q; cases q
  | succ m ih =>
    intro k h q
    rw [zrw_e (by omega)] at q
    split at q
    · next g => cases q; exact ⟨rfl, Nat.le_refl _, by omega, g⟩
    · obtain ⟨a1, a2, a3, a4⟩ := ih (k + 1) (by omega) q
      exact ⟨a1, by omega, a3, a4⟩
theorem zrw_s' {D : List zN} {a c k : Nat} {l : List Nat} (h : zrw D a k = c :: l) : l = zrw D a (c + 1) ∧ k ≤ c ∧ c < D.length ∧ zab D c = some a := by
  by_cases g : k ≤ D.length
  · exact zrw_s (D.length - k) k (by omega) h
  · rw [zrw_n (by omega)] at h; cases h
/-- sums along the tree -/
def zwe (D : List zN) (f : Nat → Nat) : Nat → Nat → Nat
  | 0, a => f a
  | n + 1, a => f a + ((zkb D a).map (zwe D f n)).sum
theorem zwe_i {D : List zN} {f : Nat → Nat} : ∀ n m a, D.length ≤ a + n → D.length ≤ a + m → zwe D f n a = zwe D f m a := by
  intro n
  induction n with
  | zero =>
    intro m a h1 h2
    have e : zkb D a = [] := zrw_n (by omega)
    cases m with
    | zero => rfl
    | succ m => rw [zwe, zwe, e]; rfl
  | succ n ih =>
    intro m a h1 h2
    cases m with
    | zero =>
      have e : zkb D a = [] := zrw_n (by omega)
      rw [zwe, zwe, e]; rfl
    | succ m =>
      rw [zwe, zwe]
      congr 2
      refine List.map_congr_left (fun c hc => ?_)
      have := (zrw_m.mp hc).1
      exact ih m c (by omega) (by omega)
def zW (D : List zN) (f : Nat → Nat) (a : Nat) : Nat := zwe D f D.length a
theorem zW_e {D : List zN} {f : Nat → Nat} {a : Nat} : zW D f a = f a + ((zkb D a).map (zW D f)).sum := by
  unfold zW
  rw [zwe_i D.length (D.length + 1) a (by omega) (by omega), zwe]
def zG (D : List zN) (f : Nat → Nat) (k a : Nat) : Nat := ((zrw D a k).map (zW D f)).sum
theorem zG_e {D : List zN} {f : Nat → Nat} {k a : Nat} (h : k < D.length) : zG D f k a = (if zab D k = some a then zW D f k else 0) + zG D f (k + 1) a := by
  unfold zG
  rw [zrw_e h]
  split
  · rw [List.map_cons, List.sum_cons]
  · rw [Nat.zero_add]
theorem zsum_add {f g : Nat → Nat} : ∀ l : List Nat, (l.map (fun x => f x + g x)).sum = (l.map f).sum + (l.map g).sum := by
  intro l
  induction l with
  | nil => rfl
  | cons x l ih =>
    rw [List.map_cons, List.map_cons, List.map_cons, List.sum_cons, List.sum_cons, List.sum_cons, ih]
    omega
theorem zsum_one {p v : Nat} : ∀ k, ((List.range k).map (fun a => if p = a then v else 0)).sum = if p < k then v else 0 := by
  intro k
  induction k with
  | zero => rfl
  | succ k ih =>
    rw [List.range_succ, List.map_append, List.sum_append, ih]
    show _ + ((if p = k then v else 0) + 0) = _
    by_cases h1 : p < k
    · rw [if_pos h1, if_neg (by omega), if_pos (by omega)]; omega
    · by_cases h2 : p = k
      · rw [if_neg h1, if_pos h2, if_pos (by omega)]; omega
      · rw [if_neg h1, if_neg h2, if_neg (by omega)]
theorem zsum_le {f : Nat → Nat} {x : Nat} : ∀ l : List Nat, x ∈ l → f x ≤ (l.map f).sum := by
  intro l
  induction l with
  | nil => intro h; cases h
  | cons y l ih =>
    intro h
    rw [List.map_cons, List.sum_cons]
    rcases List.mem_cons.mp h with h | h
    · rw [h]; omega
    · have := ih h; omega
def zFs (D : List zN) (f : Nat → Nat) (k : Nat) : Nat := ((List.range' k (D.length - k)).map f).sum
theorem zFs_e {D : List zN} {f : Nat → Nat} {k : Nat} (h : k < D.length) : zFs D f k = f k + zFs D f (k + 1) := by
  unfold zFs
  obtain ⟨m, hm⟩ : ∃ m, D.length - k = m + 1 := ⟨D.length - k - 1, by omega⟩
  rw [hm, List.range'_succ, List.map_cons, List.sum_cons, show D.length - (k + 1) = m by omega]
theorem zFs_m {D : List zN} {f : Nat → Nat} : ∀ m k, zFs D f (k + m) ≤ zFs D f k := by
  intro m
  induction m with
  | zero => intro k; exact Nat.le_refl _
  | succ m ih =>
    intro k
    refine Nat.le_trans ?_ (ih k)
    by_cases g : k + m < D.length
    · rw [zFs_e g]; show zFs D f (k + m + 1) ≤ _; omega
    · unfold zFs
      rw [show D.length - (k + (m + 1)) = 0 by omega]
      exact Nat.zero_le _
theorem zT_e {D : List zN} {f : Nat → Nat} (hW : zWf D) : ∀ m k, 1 ≤ k → k + m = D.length → ((List.range k).map (zG D f k)).sum = zFs D f k := by
  intro m
  induction m with
  | zero =>
    intro k h1 h
    have e : ∀ a, zG D f k a = 0 := fun a => by unfold zG; rw [zrw_n (by omega)]; rfl
    have e2 : (List.range k).map (zG D f k) = (List.range k).map (fun _ => 0) := List.map_congr_left (fun a _ => e a)
    rw [e2]
    unfold zFs
    rw [show D.length - k = 0 by omega]
    have : ∀ l : List Nat, (l.map (fun _ => 0)).sum = 0 := by
      intro l
      induction l with
      | nil => rfl
      | cons x l ih => rw [List.map_cons, List.sum_cons, ih]
    rw [this]
    rfl
  | succ m ih =>
    intro k h1 h
    have hk : k < D.length := by omega
    have h2 := ih (k + 1) (by omega) (by omega)
    rw [List.range_succ, List.map_append, List.sum_append] at h2
    have h3 : ([k].map (zG D f (k + 1))).sum = zG D f (k + 1) k := by show _ + 0 = _; omega
    rw [h3] at h2
    have e : (List.range k).map (zG D f k) = (List.range k).map (fun a => (if zab D k = some a then zW D f k else 0) + zG D f (k + 1) a) := List.map_congr_left (fun a _ => zG_e hk)
    rw [e, zsum_add, zFs_e hk]
    rcases (hW k hk).2.1 with ⟨w, _⟩ | ⟨p, w1, w2, _⟩
    · omega
    · have e3 : (List.range k).map (fun a => if zab D k = some a then zW D f k else 0) = (List.range k).map (fun a => if p = a then zW D f k else 0) := by
        refine List.map_congr_left (fun a _ => ?_)
        rw [w2]
        by_cases q : p = a
        · rw [if_pos (by rw [q]), if_pos q]
        · rw [if_neg (fun z => q (Option.some.inj z)), if_neg q]
      rw [e3, zsum_one, if_pos w1, zW_e]
      have : zG D f (k + 1) k = ((zkb D k).map (zW D f)).sum := rfl
      omega
theorem zG_le {D : List zN} {f : Nat → Nat} (hW : zWf D) {k a : Nat} (h1 : a < k) : zG D f k a ≤ zFs D f k := by
  by_cases g : k ≤ D.length
  · rw [← zT_e hW (D.length - k) k (by omega) (by omega)]
    exact zsum_le (f := zG D f k) _ (List.mem_range.mpr h1)
  · unfold zG
    rw [zrw_n (by omega)]
    exact Nat.zero_le _
theorem zW_le {D : List zN} {f : Nat → Nat} (hW : zWf D) {a : Nat} (ha : a < D.length) : zW D f a ≤ zFs D f a := by
  rw [zW_e, zFs_e ha]
  have := zG_le (f := f) hW (show a < a + 1 by omega)
  have e : zG D f (a + 1) a = ((zkb D a).map (zW D f)).sum := rfl
  omega
theorem zFs_0 {D : List zN} {f : Nat → Nat} {k : Nat} : zFs D f k ≤ zFs D f 0 := by
  have := zFs_m (D := D) (f := f) k 0
  rw [Nat.zero_add] at this
  exact this
/-- the cost of two rows -/
def zR (w1 w2 : Nat → Nat) (c : Nat → Nat → Option Nat) (l1 l2 : List Nat) : Nat := match l1, l2 with
  | [], [] => 0
  | [], j :: l2 => w2 j + zR w1 w2 c [] l2
  | i :: l1, [] => w1 i + zR w1 w2 c l1 []
  | i :: l1, j :: l2 => match c i j with
    | some x => min (min (w1 i + zR w1 w2 c l1 (j :: l2)) (w2 j + zR w1 w2 c (i :: l1) l2)) (x + zR w1 w2 c l1 l2)
    | none => min (w1 i + zR w1 w2 c l1 (j :: l2)) (w2 j + zR w1 w2 c (i :: l1) l2)
  termination_by l1.length + l2.length
  decreasing_by all_goals simp only [List.length_cons, List.length_nil]; omega
theorem zR_nn {w1 w2 : Nat → Nat} {c : Nat → Nat → Option Nat} : zR w1 w2 c [] [] = 0 := by rw [zR]
theorem zR_nc {w1 w2 : Nat → Nat} {c : Nat → Nat → Option Nat} {j : Nat} {l2 : List Nat} : zR w1 w2 c [] (j :: l2) = w2 j + zR w1 w2 c [] l2 := by rw [zR]
theorem zR_cn {w1 w2 : Nat → Nat} {c : Nat → Nat → Option Nat} {i : Nat} {l1 : List Nat} : zR w1 w2 c (i :: l1) [] = w1 i + zR w1 w2 c l1 [] := by rw [zR]
theorem zR_cc {w1 w2 : Nat → Nat} {c : Nat → Nat → Option Nat} {i j : Nat} {l1 l2 : List Nat} : zR w1 w2 c (i :: l1) (j :: l2) = match c i j with
    | some x => min (min (w1 i + zR w1 w2 c l1 (j :: l2)) (w2 j + zR w1 w2 c (i :: l1) l2)) (x + zR w1 w2 c l1 l2)
    | none => min (w1 i + zR w1 w2 c l1 (j :: l2)) (w2 j + zR w1 w2 c (i :: l1) l2) := by rw [zR]
theorem zR_ind {P : List Nat → List Nat → Prop} (h1 : P [] []) (h2 : ∀ j l2, P [] l2 → P [] (j :: l2)) (h3 : ∀ i l1, P l1 [] → P (i :: l1) []) (h4 : ∀ i j l1 l2, P l1 (j :: l2) → P (i :: l1) l2 → P l1 l2 → P (i :: l1) (j :: l2)) : ∀ l1 l2, P l1 l2 := by
  intro l1
  induction l1 with
  | nil =>
    intro l2
    induction l2 with
    | nil => exact h1
    | cons j l2 ih => exact h2 j l2 ih
  | cons i l1 ih =>
    intro l2
    induction l2 with
    | nil => exact h3 i l1 (ih [])
    | cons j l2 ih2 => exact h4 i j l1 l2 (ih _) ih2 (ih _)
theorem zR_c {w1 w2 : Nat → Nat} {c c' : Nat → Nat → Option Nat} : ∀ l1 l2, (∀ i ∈ l1, ∀ j ∈ l2, c i j = c' i j) → zR w1 w2 c l1 l2 = zR w1 w2 c' l1 l2 := by
  refine zR_ind (fun _ => by rw [zR_nn, zR_nn]) (fun j l2 ih h => ?_) (fun i l1 ih h => ?_) (fun i j l1 l2 ih1 ih2 ih3 h => ?_)
  · rw [zR_nc, zR_nc, ih (fun i hi => absurd hi List.not_mem_nil)]
  · rw [zR_cn, zR_cn, ih (fun i _ j hj => absurd hj List.not_mem_nil)]
  · rw [zR_cc, zR_cc, h i List.mem_cons_self j List.mem_cons_self, ih1 (fun x hx y hy => h x (List.mem_cons_of_mem _ hx) y hy), ih2 (fun x hx y hy => h x hx y (List.mem_cons_of_mem _ hy)), ih3 (fun x hx y hy => h x (List.mem_cons_of_mem _ hx) y (List.mem_cons_of_mem _ hy))]
theorem zR_le {w1 w2 : Nat → Nat} {c : Nat → Nat → Option Nat} : ∀ l1 l2, zR w1 w2 c l1 l2 ≤ (l1.map w1).sum + (l2.map w2).sum := by
  refine zR_ind (by rw [zR_nn]; exact Nat.zero_le _) (fun j l2 ih => ?_) (fun i l1 ih => ?_) (fun i j l1 l2 ih1 ih2 ih3 => ?_)
  · rw [zR_nc, List.map_cons, List.sum_cons]; omega
  · rw [zR_cn, List.map_cons, List.sum_cons]; omega
  · rw [zR_cc]
    rw [List.map_cons, List.sum_cons] at ih1 ih2 ⊢
    rw [List.map_cons, List.sum_cons]
    split
    · refine Nat.le_trans (Nat.min_le_left _ _) (Nat.le_trans (Nat.min_le_left _ _) ?_); omega
    · refine Nat.le_trans (Nat.min_le_left _ _) ?_; omega
def zf1 (D : List zN) (n : Nat) : Nat := 1 + (zno D n).2.2.2.length
def zcg1 (A B : List zN) (i j : Nat) : Nat := if (zno A i).2.2.2 = (zno B j).2.2.2 then (if (zno A i).2.2.1 = (zno B j).2.2.1 then 0 else 1) else 2
def zcf (A B : List zN) : Nat → Nat → Nat → Option Nat
  | 0, _, _ => none
  | n + 1, i, j => if (zno A i).1 = (zno B j).1 then some (zcg1 A B i j + zR (zW A (zf1 A)) (zW B (zf1 B)) (zcf A B n) (zkb A i) (zkb B j)) else none
theorem zcf_i {A B : List zN} : ∀ n m i j, A.length < i + n → A.length < i + m → i < A.length → zcf A B n i j = zcf A B m i j := by
  intro n
  induction n with
  | zero => intro m i j h1 h2 h3; omega
  | succ n ih =>
    intro m i j h1 h2 h3
    obtain ⟨m, rfl⟩ : ∃ m', m = m' + 1 := ⟨m - 1, by omega⟩
    rw [zcf, zcf]
    split
    · congr 2
      refine zR_c _ _ (fun x hx y hy => ?_)
      obtain ⟨q1, q2, q3⟩ := zrw_m.mp hx
      exact ih m x y (by omega) (by omega) q2
    · rfl
/-- the cost of two nodes of one kind -/
def zcc (A B : List zN) (i j : Nat) : Option Nat := zcf A B (A.length + 1) i j
def zRR (A B : List zN) : List Nat → List Nat → Nat := zR (zW A (zf1 A)) (zW B (zf1 B)) (zcc A B)
theorem zcc_e {A B : List zN} {i j : Nat} (hi : i < A.length) : zcc A B i j = if (zno A i).1 = (zno B j).1 then some (zcg1 A B i j + zRR A B (zkb A i) (zkb B j)) else none := by
  unfold zcc zRR
  rw [zcf]
  split
  · congr 2
    refine zR_c _ _ (fun x hx y hy => ?_)
    obtain ⟨q1, q2, q3⟩ := zrw_m.mp hx
    exact zcf_i _ _ x y (by omega) (by omega) q2
  · rfl
theorem zsum_let {D : List zN} : ∀ m k, k + m = D.length → ((List.range' k m).map (zf1 D)).sum + zof D k = m + (zlt D).length := by
  intro m
  induction m with
  | zero => intro k h; rw [← zof_n, show D.length = k by omega]; show 0 + _ = 0 + _; rfl
  | succ m ih =>
    intro k h
    have h1 := ih (k + 1) (by omega)
    rw [zof_s (by omega)] at h1
    rw [List.range'_succ, List.map_cons, List.sum_cons]
    have : zf1 D k = 1 + (zno D k).2.2.2.length := rfl
    omega
theorem zFs_1 {D : List zN} : zFs D (zf1 D) 0 = D.length + (zlt D).length := by
  have h := zsum_let (D := D) D.length 0 (Nat.zero_add _)
  have h0 : zof D 0 = 0 := rfl
  unfold zFs
  rw [Nat.sub_zero]
  omega
/-- small enough -/
def zSm (D : List zN) : Prop := zWf D ∧ D.length ≤ 40 ∧ (zlt D).length ≤ 300
theorem zW_b {D : List zN} (h : zSm D) {a : Nat} (ha : a < D.length) : zW D (zf1 D) a ≤ 340 := by
  have h1 := zW_le (f := zf1 D) h.1 ha
  have h2 := zFs_0 (D := D) (f := zf1 D) (k := a)
  rw [zFs_1] at h2
  have := h.2.1
  have := h.2.2
  omega
theorem zG_b {D : List zN} (h : zSm D) {k a : Nat} (hk : a < k) : zG D (zf1 D) k a ≤ 340 := by
  have h1 := zG_le (f := zf1 D) h.1 hk
  have h2 := zFs_0 (D := D) (f := zf1 D) (k := k)
  rw [zFs_1] at h2
  have := h.2.1
  have := h.2.2
  omega
theorem zcg1_le {A B : List zN} {i j : Nat} : zcg1 A B i j ≤ 2 := by
  unfold zcg1
  split
  · split <;> decide
  · decide
theorem zcc_b {A B : List zN} (hA : zSm A) (hB : zSm B) {i j x : Nat} (hi : i < A.length) (h : zcc A B i j = some x) : x ≤ 682 := by
  rw [zcc_e hi] at h
  split at h
  · cases h
    have h1 := zR_le (w1 := zW A (zf1 A)) (w2 := zW B (zf1 B)) (c := zcc A B) (zkb A i) (zkb B j)
    have h2 := zG_b hA (show i < i + 1 by omega)
    have h3 := zG_b hB (show j < j + 1 by omega)
    have e1 : zG A (zf1 A) (i + 1) i = ((zkb A i).map (zW A (zf1 A))).sum := rfl
    have e2 : zG B (zf1 B) (j + 1) j = ((zkb B j).map (zW B (zf1 B))).sum := rfl
    have := zcg1_le (A := A) (B := B) (i := i) (j := j)
    unfold zRR
    omega
  · cases h
