/-! emit: the body, on the class's side. -/
set_option maxRecDepth 100000
set_option linter.unusedVariables false
/-- o writes T into the row r and changes nothing else -/
def zRw (r : Nat) (s : zS) (T : List Int32) (o : Option zS) : Prop := ∃ s', o = some s' ∧ zRo r s' T ∧ ∀ q, q ≠ r → q ≠ zrf r 0 → s' q = s q
theorem zrwE {r : Nat} {s : zS} {T : List Int32} (h : zRo r s T) : zRw r s T (some s) := ⟨s, rfl, h, fun _ _ _ => rfl⟩
theorem zrwB {r : Nat} {s : zS} {T1 T2 : List Int32} {o : Option zS} {k : zS → Option zS} (ho : zRw r s T1 o) (hk : ∀ s1, zRo r s1 T1 → (∀ q, q ≠ r → q ≠ zrf r 0 → s1 q = s q) → zRw r s1 T2 (k s1)) : zRw r s T2 (zbv o k) := by
  obtain ⟨s1, a, b, c⟩ := ho
  obtain ⟨s2, d, e, f⟩ := hk s1 b c
  exact ⟨s2, by rw [a, zbv_e]; exact d, e, fun q u v => by rw [f q u v, c q u v]⟩
theorem zrwS {r : Nat} {s s1 : zS} {T : List Int32} {o : Option zS} (h : zRw r s1 T o) (f : ∀ q, q ≠ r → q ≠ zrf r 0 → s1 q = s q) : zRw r s T o := by
  obtain ⟨s2, d, e, g⟩ := h
  exact ⟨s2, d, e, fun q u v => by rw [g q u v, f q u v]⟩
/-- the letter of a kind -/
def zkl (k : Nat) : Int32 := ([100, 112, 120, 108, 105] : List Int32).getD k 0
theorem zct_k {R : Type} {k : Nat} {c : Int32 → Option R} (hk : k < 5) : zct [100, 112, 120, 108, 105] (nI k) c = c (zkl k) := by
  unfold zct
  rw [zn_cl (by omega), if_neg (fun q => by
    rcases q with q | q
    · exact zn_nn (by omega) q
    · have : 5 ≤ k := q
      omega)]
  rfl
def zed (D : List zN) (x : Nat) : List Int32 := [60, 47] ++ [zkl (zno D x).1] ++ [62]
theorem z136 {q x : Nat} {s : zS} {D : List zN} {T : List Int32} (hQ : zQq q) (hq : q < 29) (hP : zPc q s D) (hW : zWf D) (hx : x < D.length) (h : zRo 174 s T) : zRw 174 s (T ++ zed D x) (zf136 169 q (nI x) s) := by
  obtain ⟨u0, u1, u2, u3, u4, u5, u6, u7, u8, u9, u10, u11, u12⟩ := zQq_e hQ
  have hc := hP.2.1
  unfold zf136 zed
  rw [← List.append_assoc, ← List.append_assoc, show zrf 169 2 = 174 from rfl]
  refine zrwB (zro121 (by decide) [60, 47] h) (fun s1 h1 f1 => ?_)
  rw [u0, zal_n (by omega), f1 (q + 1) (by omega) (by show _ ≠ 175; omega), (hP.2.2.2 x hx).1, zct_k (hW x hx).1]
  refine zrwB (zro13 (by decide) h1) (fun s2 h2 f2 => ?_)
  exact zrwB (zro13 (by decide) h2) (fun s3 h3 f3 => zrwE h3)
/-- t is among what is open from o on (or nothing) -/
def ze_P (D : List zN) (o t : Option Nat) : Prop := (∀ x, o = some x → x < D.length ∧ (zno D x).1 ≠ 2) ∧ (t = none ∨ ∃ x a, o = some x ∧ t = some a ∧ zan D a x)
theorem zab_b {D : List zN} (hW : zWf D) {x y : Nat} (h : zab D x = some y) : y < x ∧ x < D.length ∧ (zno D y).1 ≠ 2 := by
  have hx := zab_lt h
  obtain ⟨w1, w2, w3, w4, w5, w6⟩ := hW x hx
  refine ⟨?_, hx, w6 y h⟩
  rcases w2 with ⟨_, w, _⟩ | ⟨a, a1, a2, _⟩
  · rw [w] at h; cases h
  · rw [a2] at h; cases h; exact a1
theorem ze_Pn {D : List zN} {x : Nat} {t : Option Nat} (hW : zWf D) (h : ze_P D (some x) t) (hne : some x ≠ t) : ze_P D (zab D x) t := by
  refine ⟨fun y hy => ?_, ?_⟩
  · obtain ⟨a, b, c⟩ := zab_b hW hy
    exact ⟨by omega, c⟩
  · rcases h.2 with q | ⟨x', a, e1, e2, e3⟩
    · exact Or.inl q
    · cases e1
      right
      rcases zan_c e3 with e | ⟨y, y1, y2⟩
      · exact absurd (by rw [e2, e]) hne
      · exact ⟨y, a, y1, e2, y2⟩
/-- the ends of what is open, up to t -/
def ze_e (D : List zN) : Nat → Option Nat → Option Nat → List Int32
  | 0, _, _ => []
  | n + 1, none, t => []
  | n + 1, some x, t => if some x = t then [] else zed D x ++ ze_e D n (zab D x) t
theorem z135_n {q f k : Nat} {s : zS} {t : Option Nat} : zf135_6 169 q (f + 1) (zoi t) (zoi none) (nI k) s = some s := by
  rw [zf135_6, zgf_e]
  by_cases c1 : s q 6 ≤ nI k
  · rw [if_pos c1]
  · rw [if_neg c1]
    by_cases c2 : zoi none = zoi t
    · rw [if_pos c2]
    · rw [if_neg c2, if_pos (show zoi none = -1 from rfl)]
theorem z135_l {q : Nat} {D : List zN} {t : Option Nat} (hQ : zQq q) (hq : q < 29) (hW : zWf D) (ht : ∀ a, t = some a → a < 2000) : ∀ n f o k s T, n < f → (∀ x, o = some x → x < n ∧ k + x < D.length) → ze_P D o t → zPc q s D → zRo 174 s T → zRw 174 s (T ++ ze_e D n o t) (zf135_6 169 q f (zoi t) (zoi o) (nI k) s) := by
  obtain ⟨u0, u1, u2, u3, u4, u5, u6, u7, u8, u9, u10, u11, u12⟩ := zQq_e hQ
  intro n
  induction n with
  | zero =>
    intro f o k s T hf ho hp hP h
    obtain ⟨f, rfl⟩ : ∃ f', f = f' + 1 := ⟨f - 1, by omega⟩
    cases o with
    | some x => exact absurd (ho x rfl).1 (Nat.not_lt_zero _)
    | none => rw [z135_n, ze_e, List.append_nil]; exact zrwE h
  | succ n ih =>
    intro f o k s T hf ho hp hP h
    obtain ⟨f, rfl⟩ : ∃ f', f = f' + 1 := ⟨f - 1, by omega⟩
    cases o with
    | none => rw [z135_n, ze_e, List.append_nil]; exact zrwE h
    | some x =>
      obtain ⟨b1, b2⟩ := ho x rfl
      have hc := hP.2.1
      have hx : x < D.length := by omega
      rw [zf135_6, zgf_e, hP.1, if_neg (fun w => by have := (zn_le (by omega) (by omega)).mp w; omega), ze_e]
      by_cases e : some x = t
      · rw [if_pos (show zoi (some x) = zoi t by rw [e]), if_pos e, List.append_nil]
        exact zrwE h
      · rw [if_neg (fun w => e ((zoi_eq (fun l w => by cases w; omega) ht).mp w)), if_neg (show ¬ zoi (some x) = -1 from zn_nm (by omega)), if_neg e, ← List.append_assoc]
        refine zrwB (z136 hQ hq hP hW hx h) (fun s1 h1 f1 => ?_)
        rw [u1, show zoi (some x) = nI x from rfl, zal_n (by rw [u7]; omega), f1 (q + 2) (by omega) (by show _ ≠ 175; omega), (hP.2.2.2 x hx).2.1, zn_a1]
        refine ih f (zab D x) (k + 1) s1 _ (by omega) (fun y hy => ?_) (ze_Pn hW hp e) (zPc_f hQ hP (fun p a b => f1 p (by omega) (by show _ ≠ 175; omega))) h1
        obtain ⟨y1, y2, y3⟩ := zab_b hW hy
        omega
theorem z135 {q : Nat} {D : List zN} {o t : Option Nat} {s : zS} {T : List Int32} (hQ : zQq q) (hq : q < 29) (hW : zWf D) (ht : ∀ a, t = some a → a < 2000) (hp : ze_P D o t) (hP : zPc q s D) (h : zRo 174 s T) : zRw 174 s (T ++ ze_e D 100 o t) (zf135 169 q (zoi o) (zoi t) s) := by
  unfold zf135
  obtain ⟨u0, u1, u2, u3, u4, u5, u6, u7, u8, u9, u10, u11, u12⟩ := zQq_e hQ
  have hc := hP.2.1
  refine z135_l hQ hq hW ht 100 zfz o 0 s T (by rw [zfz_e]; decide) (fun x hx => ?_) hp hP h
  have := (hp.1 x hx).1
  omega
theorem z139 {q n : Nat} {s : zS} {D : List zN} (hQ : zQq q) (hP : zPc q s D) (hn : n < D.length) (hW : zWf D) : zf139 q (nI n) s = some (if zab D (n + 1) = some n then 0 else 1, s) := by
  obtain ⟨u0, u1, u2, u3, u4, u5, u6, u7, u8, u9, u10, u11, u12⟩ := zQq_e hQ
  have hc := hP.2.1
  unfold zf139
  rw [zgf_e, hP.1, zn_a1]
  by_cases g : D.length ≤ n + 1
  · rw [if_pos ((zn_le (by omega) (by omega)).mpr g), if_neg (fun w => by have := zab_lt w; omega), zrb1]
  · rw [if_neg (fun w => g ((zn_le (by omega) (by omega)).mp w)), u1, zal_n (by rw [u7]; omega), (hP.2.2.2 (n + 1) (by omega)).2.1]
    have e : zoi (zno D (n + 1)).2.1 = nI n ↔ zab D (n + 1) = some n := zoi_eq (a := zab D (n + 1)) (b := some n) (fun l w => by have := zab_b hW w; omega) (fun l w => by cases w; omega)
    by_cases g2 : zab D (n + 1) = some n
    · rw [if_pos (e.mpr g2), if_pos g2, zrb0]
    · rw [if_neg (fun w => g2 (e.mp w)), if_neg g2, zrb1]
/-- the style of a node, if it is said -/
def ze_y (D : List zN) (X : List Nat) (n : Nat) : List Int32 := if zned D n = true then [32, 121, 61, 34] ++ [nI (65 + (zfi (zlkn D n) X 0).getD 0)] ++ [34] else []
def ze_c (D : List zN) (n : Nat) : List Int32 := if (zno D n).1 = 2 ∨ zab D (n + 1) = some n then [] else [47]
/-- the beginning of a node -/
def ze_b (D : List zN) (X : List Nat) (n : Nat) : List Int32 := [60] ++ [zkl (zno D n).1] ++ ze_y D X n ++ ze_c D n ++ [62]
theorem zNc_f {s s' : zS} {X : List Nat} (h : zNc s X) (h1 : s' 169 = s 169) (h2 : s' 178 = s 178) : zNc s' X := by
  unfold zNc
  rw [h1, h2]
  exact h
theorem z138 {q n : Nat} {s : zS} {D : List zN} {X : List Nat} {T : List Int32} (hQ : zQq q) (hq : q < 29) (hP : zPc q s D) (hW : zWf D) (hn : n < D.length) (hN : zNc s X) (hX : zned D n = true → zlkn D n ∈ X) (h : zRo 174 s T) : zRw 174 s (T ++ ze_b D X n) (zf138 169 q (nI n) s) := by
  obtain ⟨u0, u1, u2, u3, u4, u5, u6, u7, u8, u9, u10, u11, u12⟩ := zQq_e hQ
  have hc := hP.2.1
  have fP : ∀ {s1 s2 : zS}, (∀ q, q ≠ 174 → q ≠ zrf 174 0 → s2 q = s1 q) → zPc q s1 D → zPc q s2 D := fun f hP => zPc_f hQ hP (fun p a b => f p (by omega) (by show _ ≠ 175; omega))
  have fN : ∀ {s1 s2 : zS}, (∀ q, q ≠ 174 → q ≠ zrf 174 0 → s2 q = s1 q) → zNc s1 X → zNc s2 X := fun f hN => zNc_f hN (f 169 (by decide) (by decide)) (f 178 (by decide) (by decide))
  -- what follows the style
  have tl : ∀ (s : zS) (T : List Int32), zPc q s D → zRo 174 s T → zRw 174 s (T ++ ze_c D n ++ [62]) (zf138_73 169 q (nI n) s) := by
    intro s T hP h
    unfold zf138_73 ze_c
    rw [u0, zal_n (by omega), (hP.2.2.2 n hn).1]
    have e100 : ∀ (s : zS) T, zRo 174 s T → zRw 174 s (T ++ [62]) (zf138_100 169 q s) := by
      intro s T h
      unfold zf138_100
      rw [show zrf 169 2 = 174 from rfl]
      exact zrwB (zro13 (by decide) h) (fun s1 h1 f1 => zrwE h1)
    by_cases g : (zno D n).1 = 2
    · rw [if_pos (show nI (zno D n).1 = 2 by rw [g]; rfl), if_pos (Or.inl g), List.append_nil]
      exact e100 s T h
    · have k5 := (hW n hn).1
      rw [if_neg (show ¬ nI (zno D n).1 = 2 from fun w => g ((zn_eq (a := (zno D n).1) (b := 2) (by omega) (by decide)).mp w)), z139 hQ hP hn hW, zbi_e]
      by_cases g2 : zab D (n + 1) = some n
      · rw [if_pos g2, if_pos rfl, if_pos (Or.inr g2), List.append_nil]
        exact e100 s T h
      · rw [if_neg g2, if_neg (show ¬ (1 : Int32) = 0 by decide), if_neg (fun w => w.elim g g2), show zrf 169 2 = 174 from rfl]
        exact zrwB (zro13 (by decide) h) (fun s1 h1 f1 => e100 s1 _ h1)
  unfold zf138 ze_b
  rw [show zrf 169 2 = 174 from rfl, show T ++ ([60] ++ [zkl (zno D n).1] ++ ze_y D X n ++ ze_c D n ++ [62]) = T ++ [60] ++ [zkl (zno D n).1] ++ ze_y D X n ++ ze_c D n ++ [62] by simp only [List.append_assoc]]
  refine zrwB (zro13 (by decide) h) (fun s1 h1 f1 => ?_)
  have P1 := fP f1 hP
  have N1 := fN f1 hN
  rw [u0, zal_n (by omega), (P1.2.2.2 n hn).1, zct_k (hW n hn).1]
  refine zrwB (zro13 (by decide) h1) (fun s2 h2 f2 => ?_)
  have P2 := fP f2 P1
  have N2 := fN f2 N1
  rw [z118 hQ P2 hW hn, zbi_e]
  cases hz : zned D n with
  | false =>
    have ey : ze_y D X n = [] := by unfold ze_y; rw [hz]; rfl
    rw [ey, if_neg (show ¬ false = true by decide), if_pos rfl, List.append_nil]
    exact tl s2 _ P2 h2
  | true =>
    obtain ⟨l1, l2⟩ := zned_l hW hn hz
    have ey : ze_y D X n = [32, 121, 61, 34] ++ [nI (65 + (zfi (zlkn D n) X 0).getD 0)] ++ [34] := by unfold ze_y; rw [hz]; rfl
    rw [ey, if_pos rfl, if_neg (show ¬ (1 : Int32) = 0 by decide), ← List.append_assoc, ← List.append_assoc]
    refine zrwB (zro121 (by decide) [32, 121, 61, 34] h2) (fun s3 h3 f3 => ?_)
    have P3 := fP f3 P2
    have N3 := fN f3 N2
    rw [u2, zal_n (by rw [u8]; omega), (P3.2.2.2 n hn).2.2.1, l1, show zoi (some (zlkn D n)) = nI (zlkn D n) from rfl, z119 N3 l2, zbi_e]
    cases hf : zfi (zlkn D n) X 0 with
    | none => exact absurd (hX hz) ((zfi_n _ 0).mp hf)
    | some j =>
      rw [show (65 : Int32) + zoi (some j) = nI (65 + j) by rw [show zoi (some j) = nI j from rfl, zn_lit 65, zn_add], show (some j).getD 0 = j from rfl]
      refine zrwB (zro13 (by decide) h3) (fun s4 h4 f4 => ?_)
      refine zrwB (zro13 (by decide) h4) (fun s5 h5 f5 => ?_)
      exact tl s5 _ (fP f5 (fP f4 P3)) h5
/-- a letter of a node, in any document -/
theorem z91q {q i k : Nat} {s : zS} {D : List zN} (hq : zQq q) (h : zPc q s D) (hi : i < D.length) (hk : k < (zno D i).2.2.2.length) : zf91 q (nI i) (nI k) s = some ((zno D i).2.2.2.getD k (-1), s) := by
  obtain ⟨u0, u1, u2, u3, u4, u5, u6, u7, u8, u9, u10, u11, u12⟩ := zQq_e hq
  have h300 : (zlt D).length ≤ 600 := by have := h.2.2.1.2.1; rw [u6] at this; omega
  have hof := zof_le hi
  have h2 := h.2.1
  have hz : s (q + 5) i = nI (zno D i).2.2.2.length := (h.2.2.2 i hi).2.2.2.2
  have ho : s (q + 4) i = nI (zof D i) := (h.2.2.2 i hi).2.2.2.1
  unfold zf91
  rw [if_neg (zn_nn (by omega)), u4, u3, u5, zal_n (by rw [u10]; omega), hz, if_neg (fun w => by have := (zn_le (by omega) (by omega)).mp w; omega), zal_n (by rw [u9]; omega), ho, zn_add, z18 h.2.2.1 (by omega), zbi_e, zlt_at D i k hi hk]
/-- a run -/
def ze_r (D : List zN) (X : List Nat) (n : Nat) : List Int32 := (if zned D n = true then ze_b D X n else []) ++ (zno D n).2.2.2 ++ (if zned D n = true then zed D n else [])
theorem z137 {q n : Nat} {s : zS} {D : List zN} {X : List Nat} {T : List Int32} (hQ : zQq q) (hq : q < 29) (hP : zPc q s D) (hW : zWf D) (hn : n < D.length) (hN : zNc s X) (hX : zned D n = true → zlkn D n ∈ X) (h : zRo 174 s T) : zRw 174 s (T ++ ze_r D X n) (zf137 169 q (nI n) s) := by
  obtain ⟨u0, u1, u2, u3, u4, u5, u6, u7, u8, u9, u10, u11, u12⟩ := zQq_e hQ
  have hc := hP.2.1
  have h600 : (zlt D).length ≤ 600 := by have := hP.2.2.1.2.1; rw [u6] at this; omega
  have hof := zof_le hn
  have fP : ∀ {s1 s2 : zS}, (∀ q, q ≠ 174 → q ≠ zrf 174 0 → s2 q = s1 q) → zPc q s1 D → zPc q s2 D := fun f hP => zPc_f hQ hP (fun p a b => f p (by omega) (by show _ ≠ 175; omega))
  obtain ⟨E, hE⟩ : ∃ E, E = if zned D n = true then zed D n else [] := ⟨_, rfl⟩
  have lp : ∀ m f k (s : zS) T (b : Int32), k + m = (zno D n).2.2.2.length → m < f → zPc q s D → zRo 174 s T → (b = if zned D n = true then 1 else 0) → zRw 174 s (T ++ (zno D n).2.2.2.drop k ++ E) (zf137_19 169 q f (nI n) b (nI k) s) := by
    intro m
    induction m with
    | zero =>
      intro f k s T b hk hf hP h hb
      obtain ⟨f, rfl⟩ : ∃ f', f = f' + 1 := ⟨f - 1, by omega⟩
      rw [zf137_19, u4, zal_n (by rw [u10]; omega), (hP.2.2.2 n hn).2.2.2.2, if_pos ((zn_le (by omega) (by omega)).mpr (by omega)), List.drop_eq_nil_of_le (by omega), List.append_nil]
      cases hz : zned D n with
      | false =>
        rw [hz, if_neg (show ¬ false = true by decide)] at hb hE
        rw [if_pos hb, hE, List.append_nil]
        exact zrwE h
      | true =>
        rw [hz, if_pos rfl] at hb hE
        rw [if_neg (show ¬ b = 0 by rw [hb]; decide), hE]
        exact zrwB (z136 hQ hq hP hW hn h) (fun s1 h1 f1 => zrwE h1)
    | succ m ih =>
      intro f k s T b hk hf hP h hb
      obtain ⟨f, rfl⟩ : ∃ f', f = f' + 1 := ⟨f - 1, by omega⟩
      rw [zf137_19, u4, zal_n (by rw [u10]; omega), (hP.2.2.2 n hn).2.2.2.2, if_neg (fun w => by have := (zn_le (by omega) (by omega)).mp w; omega), z91q hQ hP hn (by omega), zbi_e, show zrf 169 2 = 174 from rfl, zgetD_drop (by omega), zn_a1]
      refine zrwB (zro13 (by decide) h) (fun s1 h1 f1 => ?_)
      have := ih f (k + 1) s1 _ b (by omega) (by omega) (fP f1 hP) h1 hb
      rw [List.append_assoc T, List.singleton_append] at this
      exact this
  unfold zf137 ze_r
  rw [z118 hQ hP hW hn, zbi_e, ← hE]
  cases hz : zned D n with
  | false =>
    rw [show (if false = true then ze_b D X n else []) = [] from rfl, if_neg (show ¬ false = true by decide), if_pos rfl, List.nil_append, ← List.append_assoc]
    have := lp _ zfz 0 s T 0 (Nat.zero_add _) (by rw [zfz_e]; omega) hP h (by rw [hz]; rfl)
    rw [List.drop_zero] at this
    exact this
  | true =>
    rw [show (if true = true then ze_b D X n else []) = ze_b D X n from rfl, if_pos rfl, if_neg (show ¬ (1 : Int32) = 0 by decide), ← List.append_assoc, ← List.append_assoc]
    refine zrwB (z138 hQ hq hP hW hn hN hX h) (fun s1 h1 f1 => ?_)
    have := lp _ zfz 0 s1 _ 1 (Nat.zero_add _) (by rw [zfz_e]; omega) (fP f1 hP) h1 (by rw [hz]; rfl)
    rw [List.drop_zero] at this
    exact this
/-- what is open in front of node m -/
def ze_o (D : List zN) : Nat → Option Nat
  | 0 => none
  | m + 1 => if (zno D m).1 ≠ 2 ∧ zab D (m + 1) = some m then some m else zab D m
def ze_n (D : List zN) (X : List Nat) (m : Nat) : List Int32 := if (zno D m).1 = 2 then ze_r D X m else ze_b D X m
def ze_t (D : List zN) (X : List Nat) : Nat → List Int32
  | 0 => []
  | m + 1 => ze_t D X m ++ ze_e D 100 (ze_o D m) (zab D m) ++ ze_n D X m
/-- the body -/
def zbdy (D : List zN) (X : List Nat) : List Int32 := ze_t D X D.length ++ ze_e D 100 (ze_o D D.length) none
theorem ze_ob {D : List zN} (hW : zWf D) : ∀ m, m ≤ D.length → ∀ x, ze_o D m = some x → x < D.length ∧ (zno D x).1 ≠ 2 := by
  intro m hm x hx
  cases m with
  | zero => cases hx
  | succ m =>
    rw [ze_o] at hx
    by_cases g : (zno D m).1 ≠ 2 ∧ zab D (m + 1) = some m
    · rw [if_pos g] at hx
      cases hx
      exact ⟨by omega, g.1⟩
    · rw [if_neg g] at hx
      obtain ⟨a, b, c⟩ := zab_b hW hx
      exact ⟨by omega, c⟩
theorem ze_oP {D : List zN} (hW : zWf D) {m : Nat} (hm : m < D.length) : ze_P D (ze_o D m) (zab D m) := by
  refine ⟨ze_ob hW m (by omega), ?_⟩
  obtain ⟨w1, w2, w3, w4, w5, w6⟩ := hW m hm
  rcases w2 with ⟨_, w, _⟩ | ⟨a, a1, a2, a3⟩
  · exact Or.inl w
  · right
    cases m with
    | zero => exact absurd a1 (Nat.not_lt_zero _)
    | succ m =>
      rw [ze_o]
      by_cases g : (zno D m).1 ≠ 2 ∧ zab D (m + 1) = some m
      · rw [if_pos g]
        exact ⟨m, m, rfl, g.2, zan_r⟩
      · rw [if_neg g]
        rcases zan_c a3 with e | ⟨y, y1, y2⟩
        · have e' : a = m := e
          exact absurd ⟨by rw [← e']; exact w6 a a2, by rw [a2, e']⟩ g
        · exact ⟨y, a, y1, a2, y2⟩
/-- the class's body -/
theorem z134 {q : Nat} {s : zS} {D : List zN} {X : List Nat} (hQ : zQq q) (hq : q < 29) (hP : zPc q s D) (hW : zWf D) (hN : zNc s X) (hX : ∀ n, n < D.length → zned D n = true → zlkn D n ∈ X) : zRw 174 s (zbdy D X) (zf134 169 q s) := by
  obtain ⟨u0, u1, u2, u3, u4, u5, u6, u7, u8, u9, u10, u11, u12⟩ := zQq_e hQ
  have hc := hP.2.1
  have fP : ∀ {s1 s2 : zS}, (∀ q, q ≠ 174 → q ≠ zrf 174 0 → s2 q = s1 q) → zPc q s1 D → zPc q s2 D := fun f hP => zPc_f hQ hP (fun p a b => f p (by omega) (by show _ ≠ 175; omega))
  have fN : ∀ {s1 s2 : zS}, (∀ q, q ≠ 174 → q ≠ zrf 174 0 → s2 q = s1 q) → zNc s1 X → zNc s2 X := fun f hN => zNc_f hN (f 169 (by decide) (by decide)) (f 178 (by decide) (by decide))
  have hb : ∀ n, n < D.length → ∀ a, zab D n = some a → a < 2000 := fun n hn a ha => by have := zab_b hW ha; omega
  have lp : ∀ m f n (s : zS), n + m = D.length → m < f → zPc q s D → zNc s X → zRo 174 s (ze_t D X n) → zRw 174 s (zbdy D X) (zf134_11 169 q f (zoi (ze_o D n)) (nI n) s) := by
    intro m
    induction m with
    | zero =>
      intro f n s hn hf hP hN h
      obtain ⟨f, rfl⟩ : ∃ f', f = f' + 1 := ⟨f - 1, by omega⟩
      have e : n = D.length := by omega
      subst e
      rw [zf134_11, zgf_e, hP.1, if_pos ((zn_le (by omega) (by omega)).mpr (Nat.le_refl _))]
      exact zrwB (z135 (t := none) hQ hq hW (fun a w => by cases w) ⟨ze_ob hW _ (Nat.le_refl _), Or.inl rfl⟩ hP h) (fun s1 h1 f1 => zrwE h1)
    | succ m ih =>
      intro f n s hn hf hP hN h
      obtain ⟨f, rfl⟩ : ∃ f', f = f' + 1 := ⟨f - 1, by omega⟩
      have hnl : n < D.length := by omega
      have k5 := (hW n hnl).1
      have ea : ∀ s : zS, zPc q s D → s (q + 2) n = zoi (zab D n) := fun s hP => (hP.2.2.2 n hnl).2.1
      rw [zf134_11, zgf_e, hP.1, if_neg (fun w => by have := (zn_le (by omega) (by omega)).mp w; omega), u1, zal_n (by rw [u7]; omega), ea s hP]
      refine zrwB (z135 hQ hq hW (hb n hnl) (ze_oP hW hnl) hP h) (fun s1 h1 f1 => ?_)
      have P1 := fP f1 hP
      have N1 := fN f1 hN
      rw [zal_n (by rw [u7]; omega), ea s1 P1, u0, zal_n (by omega), (P1.2.2.2 n hnl).1]
      by_cases g : (zno D n).1 = 2
      · rw [if_neg (show ¬ ¬ nI (zno D n).1 = 2 from fun w => w (by rw [g]; rfl))]
        refine zrwB (z137 hQ hq P1 hW hnl N1 (hX n hnl) h1) (fun s2 h2 f2 => ?_)
        have eo : ze_o D (n + 1) = zab D n := by rw [ze_o, if_neg (fun w => w.1 g)]
        have := ih f (n + 1) s2 (by omega) (by omega) (fP f2 P1) (fN f2 N1) (by rw [ze_t, ze_n, if_pos g]; exact h2)
        rw [eo] at this
        rw [zn_a1]
        exact this
      · rw [if_pos (show ¬ nI (zno D n).1 = 2 from fun w => g ((zn_eq (a := (zno D n).1) (b := 2) (by omega) (by decide)).mp w))]
        refine zrwB (z138 hQ hq P1 hW hnl N1 (hX n hnl) h1) (fun s2 h2 f2 => ?_)
        have P2 := fP f2 P1
        have := ih f (n + 1) s2 (by omega) (by omega) P2 (fN f2 N1) (by rw [ze_t, ze_n, if_neg g]; exact h2)
        rw [z139 hQ P2 hnl hW, zbi_e, zn_a1]
        rw [ze_o] at this
        by_cases g2 : zab D (n + 1) = some n
        · rw [if_pos ⟨g, g2⟩] at this
          rw [if_pos g2, if_pos rfl]
          exact this
        · rw [if_neg (fun w => g2 w.2)] at this
          rw [if_neg g2, if_neg (show ¬ (1 : Int32) = 0 by decide)]
          exact this
  unfold zf134
  rw [show zrf 169 2 = 174 from rfl]
  obtain ⟨s1, a1, a2, a3⟩ := zro15 (r := 174) (s := s) (by decide)
  rw [a1, zbv_e]
  have fr : ∀ q, q ≠ 174 → q ≠ zrf 174 0 → s1 q = s q := fun p u v => a3 p u
  exact zrwS (lp D.length zfz 0 s1 (Nat.zero_add _) (by rw [zfz_e]; omega) (fP fr hP) (fN fr hN) a2) fr
