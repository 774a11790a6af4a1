/-! compare, the class's costs (fillCosts). -/
set_option maxRecDepth 100000
set_option linter.unusedVariables false
theorem zR_ns {w1 w2 : Nat → Nat} {c : Nat → Nat → Option Nat} : ∀ l2, zR w1 w2 c [] l2 = (l2.map w2).sum := by
  intro l2
  induction l2 with
  | nil => rw [zR_nn]; rfl
  | cons j l2 ih => rw [zR_nc, ih, List.map_cons, List.sum_cons]
theorem zR_sn {w1 w2 : Nat → Nat} {c : Nat → Nat → Option Nat} : ∀ l1, zR w1 w2 c l1 [] = (l1.map w1).sum := by
  intro l1
  induction l1 with
  | nil => rw [zR_nn]; rfl
  | cons j l1 ih => rw [zR_cn, ih, List.map_cons, List.sum_cons]
theorem z31 {a b : Nat} {s : zS} (ha : a < 2147483648) (hb : b < 2147483648) : zf31 (nI a) (nI b) s = some (nI (min a b), s) := by
  unfold zf31
  by_cases g : b < a
  · rw [if_pos ((zn_lt hb ha).mpr g), Nat.min_eq_right (by omega)]
  · rw [if_neg (fun q => g ((zn_lt hb ha).mp q)), Nat.min_eq_left (by omega)]
/-- what the class's compare looks at -/
def zCm (s : zS) (A B : List zN) : Prop := zPc 4 s A ∧ zPc 12 s B ∧ zLn 70 s A ∧ zLn 75 s B
theorem zLn_f {t : Nat} {s s' : zS} {D : List zN} (h : zLn t s D) (h1 : ∀ p, t + 1 ≤ p → p ≤ t + 4 → s' p = s p) : zLn t s' D := by
  unfold zLn
  rw [h1 (t + 1) (by omega) (by omega), h1 (t + 2) (by omega) (by omega), h1 (t + 3) (by omega) (by omega), h1 (t + 4) (by omega) (by omega)]
  exact h
theorem zCm_f {s s' : zS} {A B : List zN} (h : zCm s A B) (h1 : ∀ p, p < 80 → s' p = s p) : zCm s' A B := ⟨zPc_f zQ4 h.1 (fun p a b => h1 p (by omega)), zPc_f zQ12 h.2.1 (fun p a b => h1 p (by omega)), zLn_f h.2.2.1 (fun p a b => h1 p (by omega)), zLn_f h.2.2.2 (fun p a b => h1 p (by omega))⟩
theorem z99 {s : zS} {A B : List zN} {i j : Nat} (h : zCm s A B) (hA : zSm A) (hB : zSm B) (hi : i < A.length) (hj : j < B.length) : zf99 69 (nI i) (nI j) s = some (if (zno A i).1 = (zno B j).1 then 1 else 0, s) := by
  have hA4 := hA.2.1
  have hB4 := hB.2.1
  have k1 := (hA.1 i hi).1
  have k2 := (hB.1 j hj).1
  unfold zf99
  rw [show zrf (zrf (zrf 69 6) 0) 0 = 5 from rfl, show zrf (zrf (zrf 69 7) 0) 0 = 13 from rfl, zal_n (by show i < 40; omega), zal_n (by show j < 40; omega), show s 5 i = _ from (h.1.2.2.2 i hi).1, show s 13 j = _ from (h.2.1.2.2.2 j hj).1]
  by_cases g : (zno A i).1 = (zno B j).1
  · rw [if_neg (fun q => q (by rw [g])), if_pos g, zrb1]
  · rw [if_pos (fun q => g ((zn_eq (by omega) (by omega)).mp q)), if_neg g, zrb0]
/-- a letter of a node -/
theorem z91 {q i k : Nat} {s : zS} {D : List zN} (hQ : q = 4 ∨ q = 12) (h : zPc q s D) (hi : i < D.length) (hk : k < (zno D i).2.2.2.length) : zf91 q (nI i) (nI k) s = some ((zno D i).2.2.2.getD k (-1), s) := by
  have hq : zQq q := by rcases hQ with rfl | rfl; exact zQ4; exact zQ12
  obtain ⟨u0, u1, u2, u3, u4, u5, u6, u7, u8, u9, u10, u11, u12⟩ := zQq_e hq
  have h300 : (zlt D).length ≤ 600 := by have := h.2.2.1.2.1; rw [u6] at this; omega
  have hof := zof_le hi
  have h2 := h.2.1
  have hz : s (q + 5) i = nI (zno D i).2.2.2.length := (h.2.2.2 i hi).2.2.2.2
  have ho : s (q + 4) i = nI (zof D i) := (h.2.2.2 i hi).2.2.2.1
  unfold zf91
  rw [if_neg (zn_nn (by omega)), u4, u3, u5, zal_n (by rw [u10]; omega), hz, if_neg (fun w => by have := (zn_le (by omega) (by omega)).mp w; omega), zal_n (by rw [u9]; omega), ho, zn_add, z18 h.2.2.1 (by omega), zbi_e, zlt_at D i k hi hk]
theorem zgetD_drop {l : List Int32} {k : Nat} (h : k < l.length) : l.drop k = l.getD k (-1) :: l.drop (k + 1) := by
  rw [List.drop_eq_getElem_cons h]
  congr 1
  rw [List.getD_eq_getElem?_getD, List.getElem?_eq_getElem h]
  rfl
theorem z101 {s : zS} {A B : List zN} {i j : Nat} (h : zCm s A B) (hA : zSm A) (hB : zSm B) (hi : i < A.length) (hj : j < B.length) : zf101 69 (nI i) (nI j) s = some (if (zno A i).2.2.2 = (zno B j).2.2.2 then 1 else 0, s) := by
  have hA4 := hA.2.1
  have hB4 := hB.2.1
  have ofA := zof_le hi
  have ofB := zof_le hj
  have hA3 := hA.2.2
  have hB3 := hB.2.2
  obtain ⟨l1, hl1⟩ : ∃ l1, l1 = (zno A i).2.2.2 := ⟨_, rfl⟩
  obtain ⟨l2, hl2⟩ : ∃ l2, l2 = (zno B j).2.2.2 := ⟨_, rfl⟩
  have hz1 : s 9 i = nI l1.length := by rw [hl1]; exact (h.1.2.2.2 i hi).2.2.2.2
  have hz2 : s 17 j = nI l2.length := by rw [hl2]; exact (h.2.1.2.2.2 j hj).2.2.2.2
  rw [← hl1] at ofA
  rw [← hl2] at ofB
  have l : ∀ m n k, l1.length = l2.length → k + m = l1.length → m < n → zf101_34 69 n (nI i) (nI j) (nI l1.length) (nI k) s = some (if l1.drop k = l2.drop k then 1 else 0, s) := by
    intro m
    induction m with
    | zero =>
      intro n k hll hk hn
      obtain ⟨n, rfl⟩ : ∃ n', n = n' + 1 := ⟨n - 1, by omega⟩
      rw [zf101_34, if_pos ((zn_le (by omega) (by omega)).mpr (by omega)), zrb1, List.drop_eq_nil_of_le (by omega), List.drop_eq_nil_of_le (by omega), if_pos rfl]
    | succ m ih =>
      intro n k hll hk hn
      obtain ⟨n, rfl⟩ : ∃ n', n = n' + 1 := ⟨n - 1, by omega⟩
      have e1 := z91 (Or.inl rfl) h.1 hi (k := k) (by rw [← hl1]; omega)
      have e2 := z91 (Or.inr rfl) h.2.1 hj (k := k) (by rw [← hl2]; omega)
      rw [← hl1] at e1
      rw [← hl2] at e2
      rw [zf101_34, if_neg (fun w => by have := (zn_le (by omega) (by omega)).mp w; omega), show zrf (zrf 69 6) 0 = 4 from rfl, show zrf (zrf 69 7) 0 = 12 from rfl, e1, zbi_e, e2, zbi_e, zgetD_drop (l := l1) (by omega), zgetD_drop (l := l2) (by omega)]
      by_cases g : l1.getD k (-1) = l2.getD k (-1)
      · rw [if_pos g, zn_a1, ih n (k + 1) hll (by omega) (by omega), g]
        by_cases w : l1.drop (k + 1) = l2.drop (k + 1)
        · rw [if_pos w, if_pos (by rw [w])]
        · rw [if_neg w, if_neg (fun z => w (List.cons.inj z).2)]
      · rw [if_neg g, zrb0, if_neg (fun z => g (List.cons.inj z).1)]
  unfold zf101
  rw [show zrf (zrf (zrf 69 6) 0) 4 = 9 from rfl, show zrf (zrf (zrf 69 7) 0) 4 = 17 from rfl, zal_n (by show i < 40; omega), zal_n (by show j < 40; omega), hz1, hz2, ← hl1, ← hl2]
  by_cases g : l1.length = l2.length
  · rw [if_pos (by rw [g])]
    have := l l1.length zfz 0 g (Nat.zero_add _) (by rw [zfz_e]; omega)
    rw [List.drop_zero, List.drop_zero] at this
    exact this
  · rw [if_neg (fun q => g ((zn_eq (by omega) (by omega)).mp q)), zrb0, if_neg (fun q => g (by rw [q]))]
theorem zlk_b {o : Option Nat} (h : zlkO o) : ∀ l, o = some l → l < 2000 := by
  intro l hl
  obtain ⟨L, h1, h2⟩ := h l hl
  rw [h2]
  exact zLg_lt h1
theorem zoi_eq {a b : Option Nat} (ha : ∀ l, a = some l → l < 2000) (hb : ∀ l, b = some l → l < 2000) : zoi a = zoi b ↔ a = b := by
  cases a with
  | none =>
    cases b with
    | none => exact ⟨fun _ => rfl, fun _ => rfl⟩
    | some y => exact ⟨fun h => absurd h.symm (zn_nm (by have := hb y rfl; omega)), fun h => (by cases h)⟩
  | some x =>
    have hx := ha x rfl
    cases b with
    | none => exact ⟨fun h => absurd h (zn_nm (by omega)), fun h => (by cases h)⟩
    | some y =>
      have hy := hb y rfl
      exact ⟨fun h => by rw [(zn_eq (a := x) (b := y) (by omega) (by omega)).mp h], fun h => by rw [h]⟩
theorem z100 {s : zS} {A B : List zN} {i j : Nat} (h : zCm s A B) (hA : zSm A) (hB : zSm B) (hi : i < A.length) (hj : j < B.length) : zf100 69 (nI i) (nI j) s = some (nI (zcg1 A B i j), s) := by
  have hA4 := hA.2.1
  have hB4 := hB.2.1
  unfold zf100
  rw [z101 h hA hB hi hj, zbi_e]
  unfold zcg1
  by_cases g : (zno A i).2.2.2 = (zno B j).2.2.2
  · rw [if_pos g, if_pos g, if_pos (show ¬ (1 : Int32) = 0 by decide), show zrf (zrf (zrf 69 6) 0) 2 = 7 from rfl, show zrf (zrf (zrf 69 7) 0) 2 = 15 from rfl, zal_n (by show i < 40; omega), zal_n (by show j < 40; omega), show s 7 i = _ from (h.1.2.2.2 i hi).2.2.1, show s 15 j = _ from (h.2.1.2.2.2 j hj).2.2.1]
    have e := zoi_eq (zlk_b (hA.1 i hi).2.2.1) (zlk_b (hB.1 j hj).2.2.1)
    by_cases w : (zno A i).2.2.1 = (zno B j).2.2.1
    · rw [if_neg (fun q => q (e.mpr w)), if_pos w]
      rfl
    · rw [if_pos (fun q => w (e.mp q)), if_neg w]
      rfl
  · rw [if_neg g, if_neg g, if_neg (fun q => q rfl)]
    rfl
/-- entries of the class's tables -/
def zEr (s : zS) (A B : List zN) (x y : Nat) : Prop := s (126 + x) y = nI (zRR A B (zsx A x) (zsx B y))
def zEc (s : zS) (A B : List zN) (x y : Nat) : Prop := ∀ v, zcc A B x y = some v → s (85 + x) y = nI v
def zVx (D : List zN) (x : Nat) : Prop := x < D.length ∨ x = 40
theorem zVx_n {D : List zN} {i : Nat} : (zhd (znx D i) < D.length ∧ i < zhd (znx D i)) ∨ zhd (znx D i) = 40 := by
  cases h : znx D i with
  | nil => exact Or.inr rfl
  | cons c l =>
    left
    unfold znx at h
    cases ha : zab D i with
    | none => rw [ha] at h; cases h
    | some a =>
      rw [ha] at h
      obtain ⟨q1, q2, q3, q4⟩ := zrw_s' h
      show c < D.length ∧ i < c
      omega
theorem zVx_k {D : List zN} {i : Nat} : (zhd (zkb D i) < D.length ∧ i < zhd (zkb D i)) ∨ zhd (zkb D i) = 40 := by
  cases h : zkb D i with
  | nil => exact Or.inr rfl
  | cons c l =>
    left
    obtain ⟨q1, q2, q3, q4⟩ := zrw_s' h
    show c < D.length ∧ i < c
    omega
theorem zRR_b {A B : List zN} (hA : zSm A) (hB : zSm B) {x y : Nat} (hx : zVx A x) (hy : zVx B y) : zRR A B (zsx A x) (zsx B y) ≤ 1400 := by
  have h := zR_le (w1 := zW A (zf1 A)) (w2 := zW B (zf1 B)) (c := zcc A B) (zsx A x) (zsx B y)
  have g : ∀ {D : List zN} {x : Nat}, zSm D → zVx D x → ((zsx D x).map (zW D (zf1 D))).sum ≤ 680 := by
    intro D x hD hx
    unfold zsx
    split
    · next hl =>
      rw [List.map_cons, List.sum_cons]
      have h1 := zW_b hD hl
      unfold znx
      rcases (hD.1 x hl).2.1 with ⟨_, w, _⟩ | ⟨a, w1, w2, _⟩
      · rw [w]; show _ + 0 ≤ 680; omega
      · rw [w2]
        have h2 := zG_b hD (show a < x + 1 by omega)
        have e : zG D (zf1 D) (x + 1) a = ((zrw D a (x + 1)).map (zW D (zf1 D))).sum := rfl
        dsimp only
        omega
    · exact Nat.zero_le _
  have h1 := g hA hx
  have h2 := g hB hy
  unfold zRR
  omega
theorem zra_125 {i : Nat} (h : i ≤ 40) : zra 125 i = 126 + i := by
  unfold zra zrg
  rw [if_neg (by decide), if_neg (by decide), if_pos (by omega)]
  rfl
theorem zra_84 {i : Nat} (h : i < 40) : zra 84 i = 85 + i := by
  unfold zra zrg
  rw [if_neg (by decide), if_pos rfl, if_pos h]
  rfl
theorem zca_r : (List.range 41).all (fun i => zca (126 + i) == 41 && (decide (i = 40) || zca (85 + i) == 40)) = true := by decide +kernel
theorem zca_126 {i : Nat} (h : i ≤ 40) : zca (126 + i) = 41 := by
  have := List.all_eq_true.mp zca_r i (List.mem_range.mpr (by omega))
  rw [Bool.and_eq_true] at this
  simpa using this.1
theorem zca_85 {i : Nat} (h : i < 40) : zca (85 + i) = 40 := by
  have := List.all_eq_true.mp zca_r i (List.mem_range.mpr (by omega))
  rw [Bool.and_eq_true, Bool.or_eq_true] at this
  rcases this.2 with q | q
  · have : i = 40 := by simpa using q
    omega
  · simpa using q
/-- what is filled when the row i is filled behind j -/
def zFl (s : zS) (A B : List zN) (i j : Nat) : Prop := (∀ y, zVx B y → zEr s A B 40 y) ∧ (∀ x y, i < x → x < A.length → zVx B y → zEr s A B x y) ∧ (∀ x y, i < x → x < A.length → y < B.length → zEc s A B x y) ∧ (∀ y, zVx B y → j ≤ y → zEr s A B i y) ∧ ∀ y, j ≤ y → y < B.length → zEc s A B i y
theorem z97 {s : zS} {A B : List zN} {i j : Nat} (h : zCm s A B) (hA : zSm A) (hi : i < A.length) (hj : j ≤ 40) (hE : zEr s A B (zhd (znx A i)) j) : zf97 69 (nI i) (nI j) s = some (nI (zW A (zf1 A) i + zRR A B (znx A i) (zsx B j)), s) := by
  have hA4 := hA.2.1
  have hx := zhd_x (D := A) (i := i) hA4
  unfold zEr at hE
  rw [zsx_n hA4] at hE
  obtain ⟨a1, a2, a3, a4⟩ := h.2.2.1.2 i hi
  unfold zf97
  rw [show zrf (zrf 69 6) 3 = 73 from rfl, show zrf (zrf 69 6) 2 = 72 from rfl, show zrf 69 10 = 125 from rfl, zal_n (by show i < 40; omega), zal_n (by show i < 40; omega), show s 73 i = _ from a3, show s 72 i = _ from a2, zar_n (by show _ < 41; omega), zra_125 hx, zal_n (by rw [zca_126 hx]; omega), hE, zn_add]
theorem z98 {s : zS} {A B : List zN} {i j : Nat} (h : zCm s A B) (hB : zSm B) (hi : i ≤ 40) (hj : j < B.length) (hE : zEr s A B i (zhd (znx B j))) : zf98 69 (nI i) (nI j) s = some (nI (zW B (zf1 B) j + zRR A B (zsx A i) (znx B j)), s) := by
  have hB4 := hB.2.1
  have hx := zhd_x (D := B) (i := j) hB4
  unfold zEr at hE
  rw [zsx_n hB4] at hE
  obtain ⟨a1, a2, a3, a4⟩ := h.2.2.2.2 j hj
  unfold zf98
  rw [show zrf (zrf 69 7) 3 = 78 from rfl, show zrf (zrf 69 7) 2 = 77 from rfl, show zrf 69 10 = 125 from rfl, zal_n (by show j < 40; omega), show s 78 j = _ from a3, zar_n (by show _ < 41; omega), zra_125 hi, zal_n (by show j < 40; omega), show s 77 j = _ from a2, zal_n (by rw [zca_126 hi]; omega), hE, zn_add]
theorem z102 {s : zS} {A B : List zN} {i j v : Nat} (h : zCm s A B) (hA : zSm A) (hB : zSm B) (hi : i < A.length) (hj : j < B.length) (hv : s (85 + i) j = nI v) (hE : zEr s A B (zhd (znx A i)) (zhd (znx B j))) : zf102 69 (nI i) (nI j) s = some (nI (v + zRR A B (znx A i) (znx B j)), s) := by
  have hA4 := hA.2.1
  have hB4 := hB.2.1
  have hx := zhd_x (D := A) (i := i) hA4
  have hy := zhd_x (D := B) (i := j) hB4
  unfold zEr at hE
  rw [zsx_n hA4, zsx_n hB4] at hE
  unfold zf102
  rw [show zrf 69 9 = 84 from rfl, show zrf (zrf 69 6) 2 = 72 from rfl, show zrf (zrf 69 7) 2 = 77 from rfl, show zrf 69 10 = 125 from rfl, zar_n (by show i < 40; omega), zra_84 (by omega), zal_n (by rw [zca_85 (by omega)]; omega), hv, zal_n (by show i < 40; omega), show s 72 i = _ from (h.2.2.1.2 i hi).2.1, zar_n (by show _ < 41; omega), zra_125 hx, zal_n (by show j < 40; omega), show s 77 j = _ from (h.2.2.2.2 j hj).2.1, zal_n (by rw [zca_126 hx]; omega), hE, zn_add]
def zFc (s s' : zS) : Prop := ∀ p, p < 85 ∨ 166 < p ∨ p = 125 → s' p = s p
theorem zFc_t {s s1 s2 : zS} (h1 : zFc s s1) (h2 : zFc s1 s2) : zFc s s2 := fun p h => (h2 p h).trans (h1 p h)
theorem z96_99 {A B : List zN} {i : Nat} (hA : zSm A) (hB : zSm B) (hi : i < A.length) {k64 : Int32 → zS → Option zS} : ∀ j n (s : zS), j ≤ B.length → j < n → zCm s A B → zFl s A B i j → ∃ s', zf96_99 69 k64 n (nI i) (zdn j) s = k64 (zdn i) s' ∧ zFl s' A B i 0 ∧ zFc s s' := by
  have hA4 := hA.2.1
  have hB4 := hB.2.1
  intro j
  induction j with
  | zero =>
    intro n s hj hn hC hF
    obtain ⟨n, rfl⟩ : ∃ n', n = n' + 1 := ⟨n - 1, by omega⟩
    exact ⟨s, by rw [zf96_99, if_pos zdn_0, zdn_s], hF, fun _ _ => rfl⟩
  | succ j ih =>
    intro n s hj hn hC hF
    obtain ⟨n, rfl⟩ : ∃ n', n = n' + 1 := ⟨n - 1, by omega⟩
    obtain ⟨F1, F2, F3, F4, F5⟩ := hF
    have hjl : j < B.length := by omega
    have nA : zEr s A B (zhd (znx A i)) j := by
      rcases zVx_n (D := A) (i := i) with ⟨q1, q2⟩ | q
      · exact F2 _ j q2 q1 (Or.inl hjl)
      · rw [q]; exact F1 j (Or.inl hjl)
    have nB : zEr s A B i (zhd (znx B j)) := by
      rcases zVx_n (D := B) (i := j) with ⟨q1, q2⟩ | q
      · exact F4 _ (Or.inl q1) (by omega)
      · rw [q]; exact F4 40 (Or.inr rfl) (by omega)
    have nAB : ∀ y, zVx B y → zEr s A B (zhd (znx A i)) y := fun y hy => by
      rcases zVx_n (D := A) (i := i) with ⟨q1, q2⟩ | q
      · exact F2 _ y q2 q1 hy
      · rw [q]; exact F1 y hy
    have kAB : ∀ y, zVx B y → zEr s A B (zhd (zkb A i)) y := fun y hy => by
      rcases zVx_k (D := A) (i := i) with ⟨q1, q2⟩ | q
      · exact F2 _ y q2 q1 hy
      · rw [q]; exact F1 y hy
    have vn : zVx B (zhd (znx B j)) := by
      rcases zVx_n (D := B) (i := j) with ⟨q1, q2⟩ | q
      · exact Or.inl q1
      · exact Or.inr q
    have vk : zVx B (zhd (zkb B j)) := by
      rcases zVx_k (D := B) (i := j) with ⟨q1, q2⟩ | q
      · exact Or.inl q1
      · exact Or.inr q
    have vAn : zVx A (zhd (znx A i)) := by
      rcases zVx_n (D := A) (i := i) with ⟨q1, q2⟩ | q
      · exact Or.inl q1
      · exact Or.inr q
    have b1 := zRR_b hA hB vAn (Or.inl hjl)
    have b2 := zRR_b hA hB (Or.inl hi) vn
    have b3 := zRR_b hA hB vAn vn
    rw [zsx_n hA4] at b1 b3
    rw [zsx_n hB4] at b2 b3
    have wa := zW_b hA hi
    have wb := zW_b hB hjl
    have sxi : zsx A i = i :: znx A i := by unfold zsx; rw [if_pos hi]
    have sxj : zsx B j = j :: znx B j := by unfold zsx; rw [if_pos hjl]
    -- the entry, written down
    have fin : ∀ (t : zS) (v : Nat), v = zRR A B (zsx A i) (zsx B j) → zCm t A B → zFl t A B i (j + 1) → (∀ y, y = j → zEc t A B i y) → ∃ s', zf96_178 69 k64 (zf96_99 69 k64 n) (nI i) (nI j) (nI v) t = k64 (zdn i) s' ∧ zFl s' A B i 0 ∧ zFc t s' := by
      intro t v hv hCt hFt hcj
      obtain ⟨t1, ht1⟩ : ∃ t1, t1 = zw t (126 + i) j (nI v) := ⟨_, rfl⟩
      have f1 : ∀ p, p ≠ 126 + i → t1 p = t p := fun p hp => by rw [ht1, zw_ne hp]
      obtain ⟨G1, G2, G3, G4, G5⟩ := hFt
      have er : ∀ x y, x ≠ i → zEr t A B x y → zEr t1 A B x y := fun x y hx h => by unfold zEr; rw [f1 (126 + x) (by omega)]; exact h
      have ec : ∀ x y, x < 40 → zEc t A B x y → zEc t1 A B x y := fun x y hx h v hv => by rw [f1 (85 + x) (by omega)]; exact h v hv
      obtain ⟨s', c1, c2, c3⟩ := ih n t1 (by omega) (by omega) (zCm_f hCt (fun p hp => f1 p (by omega))) ⟨fun y hy => er 40 y (by omega) (G1 y hy), fun x y h1 h2 h3 => er x y (by omega) (G2 x y h1 h2 h3), fun x y h1 h2 h3 => ec x y (by omega) (G3 x y h1 h2 h3), fun y hy hjy => by
        by_cases g : y = j
        · subst g
          unfold zEr
          rw [ht1, zw_s, hv]
        · unfold zEr
          rw [ht1, zw_o (Or.inr g)]
          exact G4 y hy (by omega), fun y hjy hy => ec i y (by omega) (by
        by_cases g : y = j
        · exact hcj y g
        · exact G5 y (by omega) hy)⟩
      refine ⟨s', ?_, c2, fun p hp => by rw [c3 p hp, f1 p (by omega)]⟩
      unfold zf96_178
      rw [show zrf 69 10 = 125 from rfl, zar_n (by show i < 41; omega), zra_125 (by omega), zas_n (by rw [zca_126 (by omega)]; omega), ← ht1, zdn_s]
      exact c1
    rw [zf96_99, if_neg (zdn_1 (by omega)), show zdn (j + 1) = nI j from rfl, z97 hC hA hi (by omega) nA, zbi_e, z98 hC hB (by omega) hjl nB, zbi_e, z31 (by omega) (by omega), zbi_e, z99 hC hA hB hi hjl, zbi_e]
    have hmin : min (zW A (zf1 A) i + zRR A B (znx A i) (zsx B j)) (zW B (zf1 B) j + zRR A B (zsx A i) (znx B j)) ≤ 3000 := Nat.le_trans (Nat.min_le_left _ _) (by omega)
    by_cases g : (zno A i).1 = (zno B j).1
    · have hcc : zcc A B i j = some (zcg1 A B i j + zRR A B (zkb A i) (zkb B j)) := by rw [zcc_e hi, if_pos g]
      have hvb := zcc_b hA hB hi hcc
      obtain ⟨v, hv⟩ : ∃ v, v = zcg1 A B i j + zRR A B (zkb A i) (zkb B j) := ⟨_, rfl⟩
      rw [← hv] at hcc hvb
      have ekk := kAB _ vk
      unfold zEr at ekk
      rw [show zsx A (zhd (zkb A i)) = zkb A i from zsx_h hA4, show zsx B (zhd (zkb B j)) = zkb B j from zsx_h hB4] at ekk
      have hx := zhd_le (D := A) (a := i) (k := i + 1) hA4
      have hy := zhd_le (D := B) (a := j) (k := j + 1) hB4
      have hx' : zhd (zkb A i) ≤ 40 := hx
      have hy' : zhd (zkb B j) ≤ 40 := hy
      rw [if_pos g, if_neg (show ¬ (1 : Int32) = 0 by decide), show zrf 69 9 = 84 from rfl, zar_n (by show i < 40; omega), zra_84 (by omega), z100 hC hA hB hi hjl, zbi_e, show zrf (zrf 69 6) 1 = 71 from rfl, show zrf (zrf 69 7) 1 = 76 from rfl, show zrf 69 10 = 125 from rfl, zal_n (by show i < 40; omega), show s 71 i = _ from (hC.2.2.1.2 i hi).1, zar_n (by show _ < 41; omega), zra_125 hx', zal_n (by show j < 40; omega), show s 76 j = _ from (hC.2.2.2.2 j hjl).1, zal_n (by rw [zca_126 hx']; omega), ekk, zn_add, ← hv, zas_n (by rw [zca_85 (by omega)]; omega)]
      obtain ⟨s1, hs1⟩ : ∃ s1, s1 = zw s (85 + i) j (nI v) := ⟨_, rfl⟩
      have f1 : ∀ p, p ≠ 85 + i → s1 p = s p := fun p hp => by rw [hs1, zw_ne hp]
      have C1 : zCm s1 A B := zCm_f hC (fun p hp => f1 p (by omega))
      have er : ∀ x y, zEr s A B x y → zEr s1 A B x y := fun x y h => by unfold zEr; rw [f1 (126 + x) (by omega)]; exact h
      have ec : ∀ x y, (x ≠ i ∨ y ≠ j) → zEc s A B x y → zEc s1 A B x y := fun x y hx h v' hv' => by
        rw [hs1, zw_o (by omega)]
        exact h v' hv'
      rw [← hs1, z102 (v := v) C1 hA hB hi hjl (by rw [hs1, zw_s]) (er _ _ (nAB _ vn)), zbi_e, z31 (by omega) (by omega), zbi_e]
      have hval : zRR A B (zsx A i) (zsx B j) = min (min (zW A (zf1 A) i + zRR A B (znx A i) (zsx B j)) (zW B (zf1 B) j + zRR A B (zsx A i) (znx B j))) (v + zRR A B (znx A i) (znx B j)) := by
        rw [sxi, sxj]
        unfold zRR
        rw [zR_cc, hcc]
      rw [← hval]
      obtain ⟨s', c1, c2, c3⟩ := fin s1 _ rfl C1 ⟨fun y hy => er 40 y (F1 y hy), fun x y h1 h2 h3 => er x y (F2 x y h1 h2 h3), fun x y h1 h2 h3 => ec x y (by omega) (F3 x y h1 h2 h3), fun y hy hjy => er i y (F4 y hy hjy), fun y hjy hy => ec i y (by omega) (F5 y hjy hy)⟩ (fun y hy v' hv' => by
        subst hy
        rw [hcc] at hv'
        cases hv'
        rw [hs1, zw_s])
      exact ⟨s', c1, c2, fun p hp => by rw [c3 p hp, f1 p (by omega)]⟩
    · have hcc : zcc A B i j = none := by rw [zcc_e hi, if_neg g]
      rw [if_neg g, if_pos rfl]
      have hval : zRR A B (zsx A i) (zsx B j) = min (zW A (zf1 A) i + zRR A B (znx A i) (zsx B j)) (zW B (zf1 B) j + zRR A B (zsx A i) (znx B j)) := by
        rw [sxi, sxj]
        unfold zRR
        rw [zR_cc, hcc]
      rw [← hval]
      exact fin s _ rfl hC ⟨F1, F2, F3, F4, F5⟩ (fun y hy v' hv' => by
        subst hy
        rw [hcc] at hv'
        cases hv')
theorem z96_64 {A B : List zN} (hA : zSm A) (hB : zSm B) : ∀ i n (s : zS), i ≤ A.length → i < n → zCm s A B → (∀ y, zVx B y → zEr s A B 40 y) → (∀ x y, i ≤ x → x < A.length → zVx B y → zEr s A B x y) → (∀ x y, i ≤ x → x < A.length → y < B.length → zEc s A B x y) → ∃ s', zf96_64 69 n (zdn i) s = some s' ∧ (∀ x y, zVx A x → zVx B y → zEr s' A B x y) ∧ (∀ x y, x < A.length → y < B.length → zEc s' A B x y) ∧ zFc s s' := by
  have hA4 := hA.2.1
  have hB4 := hB.2.1
  intro i
  induction i with
  | zero =>
    intro n s hi hn hC h1 h2 h3
    obtain ⟨n, rfl⟩ : ∃ n', n = n' + 1 := ⟨n - 1, by omega⟩
    refine ⟨s, by rw [zf96_64, if_pos zdn_0], fun x y hx hy => ?_, fun x y hx hy => h3 x y (Nat.zero_le _) hx hy, fun _ _ => rfl⟩
    rcases hx with hx | rfl
    · exact h2 x y (Nat.zero_le _) hx hy
    · exact h1 y hy
  | succ i ih =>
    intro n s hi hn hC h1 h2 h3
    obtain ⟨n, rfl⟩ : ∃ n', n = n' + 1 := ⟨n - 1, by omega⟩
    have hil : i < A.length := by omega
    have w4 := (hC.2.2.1.2 i hil).2.2.2
    have e40 : ∀ (t : zS) (x : Int32), zas t (126 + i) 40 x = fun (c : zS → Option zS) => c (zw t (126 + i) 40 x) := by intro t x; funext c; exact zas_n (j := 40) (by rw [zca_126 (by omega)]; decide)
    rw [zf96_64, if_neg (zdn_1 (by omega)), show zdn (i + 1) = nI i from rfl, show zrf 69 10 = 125 from rfl, zar_n (by show i < 41; omega), zra_125 (by omega), show zrf (zrf 69 6) 4 = 74 from rfl, zal_n (by show i < 41; omega), show s 74 i = _ from w4, e40]
    dsimp only
    obtain ⟨s1, hs1⟩ : ∃ s1, s1 = zw s (126 + i) 40 (nI ((zsx A i).map (zW A (zf1 A))).sum) := ⟨_, rfl⟩
    have f1 : ∀ p, p ≠ 126 + i → s1 p = s p := fun p hp => by rw [hs1, zw_ne hp]
    have er : ∀ x y, x ≠ i → zEr s A B x y → zEr s1 A B x y := fun x y hx h => by unfold zEr; rw [f1 (126 + x) (by omega)]; exact h
    have C1 : zCm s1 A B := zCm_f hC (fun p hp => f1 p (by omega))
    rw [← hs1, zgf_e, show zrf (zrf 69 7) 0 = 12 from rfl, C1.2.1.1, zdn_m]
    obtain ⟨s2, c1, c2, c3⟩ := z96_99 (k64 := zf96_64 69 n) hA hB hil B.length zfz s1 (Nat.le_refl _) (by rw [zfz_e]; omega) C1 ⟨fun y hy => er 40 y (by omega) (h1 y hy), fun x y g1 g2 g3 => er x y (by omega) (h2 x y (by omega) g2 g3), fun x y g1 g2 g3 v hv => by rw [f1 (85 + x) (by omega)]; exact h3 x y (by omega) g2 g3 v hv, fun y hy hjy => by
      have : y = 40 := by rcases hy with q | q <;> omega
      subst this
      unfold zEr
      rw [hs1, zw_s, zsx_40 hB4]
      unfold zRR
      rw [zR_sn], fun y g1 g2 => by omega⟩
    obtain ⟨G1, G2, G3, G4, G5⟩ := c2
    obtain ⟨s', d1, d2, d3, d4⟩ := ih n s2 (by omega) (by omega) (zCm_f C1 (fun p hp => c3 p (by omega))) G1 (fun x y g1 g2 g3 => by
      by_cases q : x = i
      · rw [q]; exact G4 y g3 (Nat.zero_le _)
      · exact G2 x y (by omega) g2 g3) (fun x y g1 g2 g3 => by
      by_cases q : x = i
      · rw [q]; exact G5 y (Nat.zero_le _) g3
      · exact G3 x y (by omega) g2 g3)
    exact ⟨s', by rw [c1, d1], d2, d3, fun p hp => by rw [d4 p hp, c3 p hp, f1 p (by omega)]⟩
/-- fillCosts -/
theorem z96 {s : zS} {A B : List zN} (hA : zSm A) (hB : zSm B) (hC : zCm s A B) : ∃ s', zf96 69 s = some s' ∧ (∀ x y, zVx A x → zVx B y → zEr s' A B x y) ∧ (∀ x y, x < A.length → y < B.length → zEc s' A B x y) ∧ zFc s s' := by
  have hA4 := hA.2.1
  have hB4 := hB.2.1
  have l : ∀ m n j (s : zS), j + m = B.length → m < n → zCm s A B → (∀ y, y < j ∨ y = 40 → zEr s A B 40 y) → ∃ s', zf96_13 69 n (nI j) s = some s' ∧ (∀ x y, zVx A x → zVx B y → zEr s' A B x y) ∧ (∀ x y, x < A.length → y < B.length → zEc s' A B x y) ∧ zFc s s' := by
    intro m
    induction m with
    | zero =>
      intro n j s hj hn hC h
      obtain ⟨n, rfl⟩ : ∃ n', n = n' + 1 := ⟨n - 1, by omega⟩
      rw [zf96_13, show zrf (zrf 69 7) 0 = 12 from rfl, zgf_e, hC.2.1.1, if_pos ((zn_le (by omega) (by omega)).mpr (by omega)), show zrf (zrf 69 6) 0 = 4 from rfl, zgf_e, hC.1.1, zdn_m]
      exact z96_64 hA hB A.length zfz s (Nat.le_refl _) (by rw [zfz_e]; omega) hC (fun y hy => h y (by rcases hy with q | q <;> omega)) (fun x y g1 g2 => by omega) (fun x y g1 g2 => by omega)
    | succ m ih =>
      intro n j s hj hn hC h
      obtain ⟨n, rfl⟩ : ∃ n', n = n' + 1 := ⟨n - 1, by omega⟩
      have hjl : j < B.length := by omega
      have w4 := (hC.2.2.2.2 j hjl).2.2.2
      have ear : ∀ (c : Nat → Option zS), zar 125 40 c = c 166 := fun c => zar_n (j := 40) (by decide)
      rw [zf96_13, show zrf (zrf 69 7) 0 = 12 from rfl, zgf_e, hC.2.1.1, if_neg (fun w => by have := (zn_le (by omega) (by omega)).mp w; omega), show zrf 69 10 = 125 from rfl, ear, show zrf (zrf 69 7) 4 = 79 from rfl, zal_n (by show j < 41; omega), show s 79 j = _ from w4, zas_n (by show j < 41; omega), zn_a1]
      obtain ⟨s1, hs1⟩ : ∃ s1, s1 = zw s 166 j (nI ((zsx B j).map (zW B (zf1 B))).sum) := ⟨_, rfl⟩
      have f1 : ∀ p, p ≠ 166 → s1 p = s p := fun p hp => by rw [hs1, zw_ne hp]
      rw [← hs1]
      obtain ⟨s', d1, d2, d3, d4⟩ := ih n (j + 1) s1 (by omega) (by omega) (zCm_f hC (fun p hp => f1 p (by omega))) (fun y hy => by
        unfold zEr
        by_cases g : y = j
        · subst g
          rw [hs1, show 126 + 40 = 166 from rfl, zw_s, zsx_40 hA4]
          unfold zRR
          rw [zR_ns]
        · rw [hs1, zw_o (Or.inr g)]
          exact h y (by omega))
      exact ⟨s', d1, d2, d3, fun p hp => by rw [d4 p hp, f1 p (by omega)]⟩
  have ear : ∀ (c : Nat → Option zS), zar 125 40 c = c 166 := fun c => zar_n (j := 40) (by decide)
  have e40 : ∀ (c : zS → Option zS), zas s 166 40 0 c = c (zw s 166 40 0) := fun c => zas_n (j := 40) (by decide)
  unfold zf96
  rw [show zrf 69 10 = 125 from rfl, ear, e40]
  obtain ⟨s', d1, d2, d3, d4⟩ := l B.length zfz 0 (zw s 166 40 0) (Nat.zero_add _) (by rw [zfz_e]; omega) (zCm_f hC (fun p hp => zw_ne (by omega))) (fun y hy => by
    have : y = 40 := by omega
    subst this
    unfold zEr
    rw [show 126 + 40 = 166 from rfl, zw_s, zsx_40 hA4, zsx_40 hB4]
    unfold zRR
    rw [zR_nn]
    rfl)
  exact ⟨s', d1, d2, d3, fun p hp => by rw [d4 p hp, zw_ne (by omega)]⟩
