/-! What the methods leave alone: zW<y> says of a place whether the method may write there (printed by wip/gen/fgen.py). -/
set_option maxRecDepth 100000
set_option linter.unusedVariables false
theorem zo1 {a b : Bool} (h : (a || b) = false) : a = false := (Bool.or_eq_false_iff.mp h).1
theorem zo2 {a b : Bool} (h : (a || b) = false) : b = false := (Bool.or_eq_false_iff.mp h).2
/-- the rows of an int[][] -/
def zWr (a q : Nat) : Bool := (List.range (zca a)).any fun j => q == zra a j
theorem zwin {a p q : Nat} (hp : ∃ j, j < zca a ∧ p = zra a j) (h : zWr a q = false) : (q == p) = false := by
  obtain ⟨j, h1, h2⟩ := hp
  cases e : q == p with
  | false => rfl
  | true =>
    have c : zWr a q = true := List.any_eq_true.mpr ⟨j, List.mem_range.mpr h1, by rw [← h2]; exact e⟩
    rw [h] at c
    cases c
def zWa (a : Nat) (f : Nat → Bool) : Bool := (List.range (zca a)).any fun j => f (zra a j)
theorem zwinc {a p : Nat} {f : Nat → Bool} (hp : ∃ j, j < zca a ∧ p = zra a j) (h : zWa a f = false) : f p = false := by
  obtain ⟨j, h1, h2⟩ := hp
  cases e : f p with
  | false => rfl
  | true =>
    have c : zWa a f = true := List.any_eq_true.mpr ⟨j, List.mem_range.mpr h1, by rw [← h2]; exact e⟩
    rw [h] at c
    cases c
theorem zw_nb {s : zS} {k f q : Nat} {x : Int32} (h : (q == k) = false) : zw s k f x q = s q := zw_ne (by simpa using h)
section ZR
variable {q : Nat} {s s' : zS} {R : Type} {r : R} {P : Prop}
theorem zr_gf {k f : Nat} {c : Int32 → Option R} (hF : zgf s k f c = some r) (ev : ∀ v, c v = some r → P) : P := ev _ hF
theorem zr_al {a : Nat} {j : Int32} {c : Int32 → Option R} (hF : zal s a j c = some r) (ev : ∀ v, c v = some r → P) : P := by
  unfold zal at hF
  split at hF
  · cases hF
  · exact ev _ hF
theorem zr_ar {a : Nat} {j : Int32} {c : Nat → Option R} (hF : zar a j c = some r) (ev : ∀ p, (∃ j, j < zca a ∧ p = zra a j) → c p = some r → P) : P := by
  unfold zar at hF
  split at hF
  · cases hF
  · next hb => exact ev _ ⟨j.toNatClampNeg, by omega, rfl⟩ hF
theorem zr_pf {k f : Nat} {x : Int32} {c : zS → Option R} (hF : zpf s k f x c = some r) (hq : (q == k) = false) (ev : ∀ s1, c s1 = some r → s' q = s1 q) : s' q = s q := by
  rw [ev _ hF, zw_nb hq]
theorem zr_pb {k f : Nat} {x : Int32} {c : zS → Option R} (hF : zpb s k f x c = some r) (hq : (q == k) = false) (ev : ∀ s1, c s1 = some r → s' q = s1 q) : s' q = s q := by
  unfold zpb at hF
  split at hF
  · rw [ev _ hF, zw_nb hq]
  · cases hF
theorem zr_as {k : Nat} {j x : Int32} {c : zS → Option R} (hF : zas s k j x c = some r) (hq : (q == k) = false) (ev : ∀ s1, c s1 = some r → s' q = s1 q) : s' q = s q := by
  unfold zas at hF
  split at hF
  · cases hF
  · rw [ev _ hF, zw_nb hq]
theorem zr_bs {k : Nat} {j x : Int32} {c : zS → Option R} (hF : zbs s k j x c = some r) (hq : (q == k) = false) (ev : ∀ s1, c s1 = some r → s' q = s1 q) : s' q = s q := by
  unfold zbs at hF
  split at hF
  · cases hF
  · rw [ev _ hF, zw_nb hq]
theorem zr_if {b : Prop} [Decidable b] {A B : Option R} (hF : (if b then A else B) = some r) (e1 : A = some r → P) (e2 : B = some r → P) : P := by
  split at hF
  · exact e1 hF
  · exact e2 hF
theorem zr_bi {F : Option (Int32 × zS)} {c : Int32 → zS → Option R} (hF : zbi F c = some r) (hc : ∀ v s1, F = some (v, s1) → s1 q = s q) (ev : ∀ v s1, c v s1 = some r → s' q = s1 q) : s' q = s q := by
  unfold zbi at hF
  split at hF
  · cases hF
  · next v s1 => rw [ev _ _ hF, hc v s1 rfl]
theorem zr_bv {F : Option zS} {c : zS → Option R} (hF : zbv F c = some r) (hc : ∀ s1, F = some s1 → s1 q = s q) (ev : ∀ s1, c s1 = some r → s' q = s1 q) : s' q = s q := by
  unfold zbv at hF
  split at hF
  · cases hF
  · next s1 => rw [ev _ hF, hc s1 rfl]
theorem zr_xi {F : Option (am_O × zS × Nat)} {o : am_O} {g' : Nat} {c : Int32 → zS → Option (am_O × zS × Nat)} (hF : zxi F c = some (o, s', g')) (hc : ∀ o s1 g1, F = some (o, s1, g1) → s1 q = s q) (ev : ∀ v s1, c v s1 = some (o, s', g') → s' q = s1 q) : s' q = s q := by
  unfold zxi at hF
  split at hF
  · next v s1 => rw [ev _ _ hF, hc _ _ _ rfl]
  · cases hF; exact hc _ _ _ rfl
  · cases hF
theorem zr_xr {t : Nat} {F : Option (am_O × zS × Nat)} {o : am_O} {g' : Nat} {c : Nat → zS → Option (am_O × zS × Nat)} (hF : zxr t F c = some (o, s', g')) (hc : ∀ o s1 g1, F = some (o, s1, g1) → s1 q = s q) (ev : ∀ v s1, c v s1 = some (o, s', g') → s' q = s1 q) : s' q = s q := by
  unfold zxr at hF
  split at hF
  · split at hF
    · rw [ev _ _ hF, hc _ _ _ rfl]
    · cases hF
  · cases hF; exact hc _ _ _ rfl
  · cases hF
theorem zr_ri {x v : Int32} (hF : some (x, s) = some (v, s')) : s' q = s q := by cases hF; rfl
theorem zr_rb {x v : Int32} (hF : zrb x s = some (v, s')) : s' q = s q := by
  unfold zrb at hF
  split at hF
  · cases hF; rfl
  · cases hF
theorem zr_rv (hF : some s = some s') : s' q = s q := by cases hF; rfl
theorem zr_rx {o o' : am_O} {g g' : Nat} (hF : some (o', s, g) = some (o, s', g')) : s' q = s q := by cases hF; rfl
end ZR
def zW13 (a0 : Nat) (q : Nat) : Bool := (q == a0) || ((q == (zrf a0 0)) || false)
theorem zf13_fr {q : Nat} {s' : zS} {a0 : Nat} (hq : zW13 a0 q = false) {x1 : Int32} {s : zS} (hF : zf13 a0 x1 s = some s') : s' q = s q := by
  unfold zf13 at hF
  refine zr_gf hF (fun v1 hF => ?_)
  refine zr_if hF (fun hF => ?_) (fun hF => ?_)
  · refine zr_pb hF (zo1 hq) (fun s2 hF => ?_)
    exact zr_rv hF
  · refine zr_gf hF (fun v3 hF => ?_)
    refine zr_as hF (zo1 (zo2 hq)) (fun s4 hF => ?_)
    refine zr_gf hF (fun v5 hF => ?_)
    refine zr_pf hF (zo1 hq) (fun s6 hF => ?_)
    exact zr_rv hF
def zW12 (a0 : Nat) (q : Nat) : Bool := zW13 (zrf a0 0) q || false
theorem zf12_73_fr {q : Nat} {v : Int32} {s' : zS} {a0 : Nat} (hq : zW12 a0 q = false)   {n : Nat} : ∀ {x1 : Int64} {x4 : Int32} {s : zS}, zf12_73 a0 n x1 x4 s = some (v, s') → s' q = s q := by
  induction n with
  | zero => intro x1 x4 s hF; rw [zf12_73] at hF; cases hF
  | succ n ih =>
    intro x1 x4 s hF
    rw [zf12_73] at hF
    refine zr_if hF (fun hF => ?_) (fun hF => ?_)
    · exact zr_rb hF
    · refine zr_if hF (fun hF => ?_) (fun hF => ?_)
      · exact ih hF
      · refine zr_bv hF (fun _ h => zf13_fr (zo1 hq) h) (fun s2 hF => ?_)
        exact ih hF
theorem zf12_5_fr {q : Nat} {v : Int32} {s' : zS} {a0 : Nat} (hq : zW12 a0 q = false)   {n : Nat} : ∀ {x1 : Int64} {x3 : Int32} {x4 : Int32} {s : zS}, zf12_5 a0 n x1 x3 x4 s = some (v, s') → s' q = s q := by
  induction n with
  | zero => intro x1 x3 x4 s hF; rw [zf12_5] at hF; cases hF
  | succ n ih =>
    intro x1 x3 x4 s hF
    rw [zf12_5] at hF
    refine zr_if hF (fun hF => ?_) (fun hF => ?_)
    · refine zr_gf hF (fun v1 hF => ?_)
      refine zr_if hF (fun hF => ?_) (fun hF => ?_)
      · exact zf12_73_fr hq hF
      · exact zr_rb hF
    · refine zr_if hF (fun hF => ?_) (fun hF => ?_)
      · exact ih hF
      · refine zr_if hF (fun hF => ?_) (fun hF => ?_)
        · exact zr_rb hF
        · refine zr_if hF (fun hF => ?_) (fun hF => ?_)
          · exact ih hF
          · exact zr_rb hF
theorem zf12_fr {q : Nat} {v : Int32} {s' : zS} {a0 : Nat} (hq : zW12 a0 q = false) {x1 : Int64} {s : zS} (hF : zf12 a0 x1 s = some (v, s')) : s' q = s q := by
  unfold zf12 at hF
  exact zf12_5_fr hq hF
def zW15 (a0 : Nat) (q : Nat) : Bool := (q == a0) || false
theorem zf15_fr {q : Nat} {s' : zS} {a0 : Nat} (hq : zW15 a0 q = false)  {s : zS} (hF : zf15 a0 s = some s') : s' q = s q := by
  unfold zf15 at hF
  refine zr_pf hF (zo1 hq) (fun s1 hF => ?_)
  refine zr_pb hF (zo1 hq) (fun s2 hF => ?_)
  exact zr_rv hF
def zW14 (a0 : Nat) (q : Nat) : Bool := zW15 (zrf a0 0) q || false
theorem zf14_fr {q : Nat} {v : Int32} {s' : zS} {a0 : Nat} (hq : zW14 a0 q = false)  {s : zS} (hF : zf14 a0 s = some (v, s')) : s' q = s q := by
  unfold zf14 at hF
  refine zr_gf hF (fun v1 hF => ?_)
  refine zr_bv hF (fun _ h => zf15_fr (zo1 hq) h) (fun s3 hF => ?_)
  exact zr_ri hF
theorem zf16_fr {q : Nat} {v : Int32} {s' : zS} {a0 : Nat}   {s : zS} (hF : zf16 a0 s = some (v, s')) : s' q = s q := by
  unfold zf16 at hF
  refine zr_gf hF (fun v1 hF => ?_)
  exact zr_ri hF
theorem zf18_fr {q : Nat} {v : Int32} {s' : zS} {a0 : Nat}  {x1 : Int32} {s : zS} (hF : zf18 a0 x1 s = some (v, s')) : s' q = s q := by
  unfold zf18 at hF
  refine zr_if hF (fun hF => ?_) (fun hF => ?_)
  · exact zr_ri hF
  · refine zr_gf hF (fun v1 hF => ?_)
    refine zr_if hF (fun hF => ?_) (fun hF => ?_)
    · exact zr_ri hF
    · refine zr_al hF (fun v2 hF => ?_)
      exact zr_ri hF
theorem zf17_fr {q : Nat} {v : Int32} {s' : zS} {a0 : Nat}  {x1 : Int32} {s : zS} (hF : zf17 a0 x1 s = some (v, s')) : s' q = s q := by
  unfold zf17 at hF
  refine zr_bi hF (fun _ _ h => zf18_fr h) (fun v1 s2 hF => ?_)
  exact zr_ri hF
theorem zf19_fr {q : Nat} {v : Int32} {s' : zS} {a0 : Nat}   {s : zS} (hF : zf19 a0 s = some (v, s')) : s' q = s q := by
  unfold zf19 at hF
  refine zr_gf hF (fun v1 hF => ?_)
  exact zr_ri hF
theorem zf20_fr {q : Nat} {v : Int32} {s' : zS} {a0 : Nat}   {s : zS} (hF : zf20 a0 s = some (v, s')) : s' q = s q := by
  unfold zf20 at hF
  refine zr_gf hF (fun v1 hF => ?_)
  exact zr_ri hF
theorem zf29_fr {q : Nat} {v : Int32} {s' : zS}   {x0 : Int32} {s : zS} (hF : zf29 x0 s = some (v, s')) : s' q = s q := by
  unfold zf29 at hF
  refine zr_if hF (fun hF => ?_) (fun hF => ?_)
  · exact zr_rb hF
  · refine zr_if hF (fun hF => ?_) (fun hF => ?_)
    · exact zr_rb hF
    · exact zr_rb hF
theorem zf30_fr {q : Nat} {v : Int32} {s' : zS}   {x0 : Int32} {s : zS} (hF : zf30 x0 s = some (v, s')) : s' q = s q := by
  unfold zf30 at hF
  refine zr_bi hF (fun _ _ h => zf29_fr h) (fun v1 s2 hF => ?_)
  refine zr_if hF (fun hF => ?_) (fun hF => ?_)
  · exact zr_rb hF
  · refine zr_if hF (fun hF => ?_) (fun hF => ?_)
    · exact zr_rb hF
    · refine zr_if hF (fun hF => ?_) (fun hF => ?_)
      · exact zr_rb hF
      · exact zr_rb hF
theorem zf31_fr {q : Nat} {v : Int32} {s' : zS}   {x0 : Int32} {x1 : Int32} {s : zS} (hF : zf31 x0 x1 s = some (v, s')) : s' q = s q := by
  unfold zf31 at hF
  refine zr_if hF (fun hF => ?_) (fun hF => ?_)
  · exact zr_ri hF
  · exact zr_ri hF
def zW28 (a0 : Nat) (a1 : Nat) (q : Nat) : Bool := (q == a0) || false
theorem zf28_131_fr {q : Nat} {v : Int32} {s' : zS} {a0 : Nat} {a1 : Nat} (hq : zW28 a0 a1 q = false)   {n : Nat} : ∀ {x5 : Int32} {s : zS}, zf28_131 a0 a1 n x5 s = some (v, s') → s' q = s q := by
  induction n with
  | zero => intro x5 s hF; rw [zf28_131] at hF; cases hF
  | succ n ih =>
    intro x5 s hF
    rw [zf28_131] at hF
    refine zr_gf hF (fun v1 hF => ?_)
    refine zr_if hF (fun hF => ?_) (fun hF => ?_)
    · exact zr_ri hF
    · refine zr_bi hF (fun _ _ h => zf18_fr h) (fun v2 s3 hF => ?_)
      refine zr_bi hF (fun _ _ h => zf30_fr h) (fun v4 s5 hF => ?_)
      refine zr_if hF (fun hF => ?_) (fun hF => ?_)
      · exact ih hF
      · refine zr_gf hF (fun v6 hF => ?_)
        refine zr_bi hF (fun _ _ h => zf31_fr h) (fun v7 s8 hF => ?_)
        exact zr_ri hF
theorem zf28_104_fr {q : Nat} {v : Int32} {s' : zS} {a0 : Nat} {a1 : Nat} (hq : zW28 a0 a1 q = false)   {x2 : Int32} {x4 : Int32} {t0 : Int32} {s : zS} (hF : zf28_104 a0 a1 x2 x4 t0 s = some (v, s')) : s' q = s q := by
  unfold zf28_104 at hF
  refine zr_pb hF (zo1 hq) (fun s1 hF => ?_)
  refine zr_pf hF (zo1 hq) (fun s2 hF => ?_)
  refine zr_gf hF (fun v3 hF => ?_)
  refine zr_pf hF (zo1 hq) (fun s4 hF => ?_)
  refine zr_gf hF (fun v5 hF => ?_)
  exact zf28_131_fr hq hF
theorem zf28_46_fr {q : Nat} {v : Int32} {s' : zS} {a0 : Nat} {a1 : Nat} (hq : zW28 a0 a1 q = false)   {n : Nat} : ∀ {x2 : Int32} {x3 : Int32} {x4 : Int32} {x5 : Int32} {s : zS}, zf28_46 a0 a1 n x2 x3 x4 x5 s = some (v, s') → s' q = s q := by
  induction n with
  | zero => intro x2 x3 x4 x5 s hF; rw [zf28_46] at hF; cases hF
  | succ n ih =>
    intro x2 x3 x4 x5 s hF
    rw [zf28_46] at hF
    refine zr_if hF (fun hF => ?_) (fun hF => ?_)
    · refine zr_if hF (fun hF => ?_) (fun hF => ?_)
      · exact zf28_104_fr hq hF
      · exact zf28_104_fr hq hF
    · refine zr_bi hF (fun _ _ h => zf18_fr h) (fun v1 s2 hF => ?_)
      refine zr_bi hF (fun _ _ h => zf29_fr h) (fun v3 s4 hF => ?_)
      refine zr_if hF (fun hF => ?_) (fun hF => ?_)
      · refine zr_bi hF (fun _ _ h => zf18_fr h) (fun v5 s6 hF => ?_)
        exact ih hF
      · exact zr_ri hF
theorem zf28_fr {q : Nat} {v : Int32} {s' : zS} {a0 : Nat} {a1 : Nat} (hq : zW28 a0 a1 q = false) {x2 : Int32} {s : zS} (hF : zf28 a0 a1 x2 s = some (v, s')) : s' q = s q := by
  unfold zf28 at hF
  refine zr_bi hF (fun _ _ h => zf18_fr h) (fun v1 s2 hF => ?_)
  refine zr_gf hF (fun v3 hF => ?_)
  refine zr_if hF (fun hF => ?_) (fun hF => ?_)
  · refine zr_bi hF (fun _ _ h => zf18_fr h) (fun v4 s5 hF => ?_)
    refine zr_if hF (fun hF => ?_) (fun hF => ?_)
    · exact zf28_46_fr hq hF
    · refine zr_if hF (fun hF => ?_) (fun hF => ?_)
      · exact zf28_46_fr hq hF
      · exact zr_ri hF
  · exact zr_ri hF
theorem zf32_fr {q : Nat} {v : Int32} {s' : zS} {a0 : Nat}   {s : zS} (hF : zf32 a0 s = some (v, s')) : s' q = s q := by
  unfold zf32 at hF
  refine zr_gf hF (fun v1 hF => ?_)
  exact zr_ri hF
def zW27 (a0 : Nat) (a1 : Nat) (q : Nat) : Bool := zW28 (zrf a0 2) a1 q || (zW28 (zrf a0 3) a1 q || false)
theorem zf27_31_fr {q : Nat} {v : Int32} {s' : zS} {a0 : Nat} {a1 : Nat} (hq : zW27 a0 a1 q = false)   {x2 : Int32} {s : zS} (hF : zf27_31 a0 a1 x2 s = some (v, s')) : s' q = s q := by
  unfold zf27_31 at hF
  refine zr_if hF (fun hF => ?_) (fun hF => ?_)
  · exact zr_ri hF
  · refine zr_bi hF (fun _ _ h => zf32_fr h) (fun v1 s2 hF => ?_)
    refine zr_gf hF (fun v3 hF => ?_)
    refine zr_if hF (fun hF => ?_) (fun hF => ?_)
    · exact zr_ri hF
    · refine zr_bi hF (fun _ _ h => zf32_fr h) (fun v4 s5 hF => ?_)
      exact zr_ri hF
theorem zf27_fr {q : Nat} {v : Int32} {s' : zS} {a0 : Nat} {a1 : Nat} (hq : zW27 a0 a1 q = false)  {s : zS} (hF : zf27 a0 a1 s = some (v, s')) : s' q = s q := by
  unfold zf27 at hF
  refine zr_bi hF (fun _ _ h => zf28_fr (zo1 hq) h) (fun v1 s2 hF => ?_)
  refine zr_if hF (fun hF => ?_) (fun hF => ?_)
  · exact zf27_31_fr hq hF
  · refine zr_bi hF (fun _ _ h => zf32_fr h) (fun v3 s4 hF => ?_)
    refine zr_bi hF (fun _ _ h => zf28_fr (zo1 (zo2 hq)) h) (fun v5 s6 hF => ?_)
    exact zf27_31_fr hq hF
def zW33 (a0 : Nat) (q : Nat) : Bool := (q == a0) || false
theorem zf33_fr {q : Nat} {v : Int32} {s' : zS} {a0 : Nat} (hq : zW33 a0 q = false) {x1 : Int32} {s : zS} (hF : zf33 a0 x1 s = some (v, s')) : s' q = s q := by
  unfold zf33 at hF
  refine zr_pf hF (zo1 hq) (fun s1 hF => ?_)
  refine zr_if hF (fun hF => ?_) (fun hF => ?_)
  · exact zr_rb hF
  · exact zr_rb hF
def zW36 (a0 : Nat) (a1 : Nat) (q : Nat) : Bool := zW13 (zrf a0 1) q || false
theorem zf36_101_fr {q : Nat} {v : Int32} {s' : zS} {a0 : Nat} {a1 : Nat} (hq : zW36 a0 a1 q = false)   {n : Nat} : ∀ {x3 : Int32} {x4 : Int32} {x5 : Int32} {s : zS}, zf36_101 a0 a1 n x3 x4 x5 s = some (v, s') → s' q = s q := by
  induction n with
  | zero => intro x3 x4 x5 s hF; rw [zf36_101] at hF; cases hF
  | succ n ih =>
    intro x3 x4 x5 s hF
    rw [zf36_101] at hF
    refine zr_if hF (fun hF => ?_) (fun hF => ?_)
    · exact zr_rb hF
    · refine zr_gf hF (fun v1 hF => ?_)
      refine zr_bi hF (fun _ _ h => zf18_fr h) (fun v2 s3 hF => ?_)
      refine zr_bv hF (fun _ h => zf13_fr (zo1 hq) h) (fun s5 hF => ?_)
      exact ih hF
theorem zf36_16_fr {q : Nat} {v : Int32} {s' : zS} {a0 : Nat} {a1 : Nat} (hq : zW36 a0 a1 q = false)   {n : Nat} : ∀ {x2 : Int32} {x3 : Int32} {s : zS}, zf36_16 a0 a1 n x2 x3 s = some (v, s') → s' q = s q := by
  induction n with
  | zero => intro x2 x3 s hF; rw [zf36_16] at hF; cases hF
  | succ n ih =>
    intro x2 x3 s hF
    rw [zf36_16] at hF
    refine zr_if hF (fun hF => ?_) (fun hF => ?_)
    · refine zr_bi hF (fun _ _ h => zf18_fr h) (fun v1 s2 hF => ?_)
      refine zr_bi hF (fun _ _ h => zf18_fr h) (fun v3 s4 hF => ?_)
      refine zr_if hF (fun hF => ?_) (fun hF => ?_)
      · exact zr_rb hF
      · refine zr_gf hF (fun v5 hF => ?_)
        refine zr_if hF (fun hF => ?_) (fun hF => ?_)
        · refine zr_bi hF (fun _ _ h => zf18_fr h) (fun v6 s7 hF => ?_)
          exact zf36_101_fr hq hF
        · exact zr_rb hF
    · refine zr_bi hF (fun _ _ h => zf18_fr h) (fun v8 s9 hF => ?_)
      refine zr_bi hF (fun _ _ h => zf29_fr h) (fun v10 s11 hF => ?_)
      refine zr_if hF (fun hF => ?_) (fun hF => ?_)
      · exact ih hF
      · exact zr_rb hF
theorem zf36_fr {q : Nat} {v : Int32} {s' : zS} {a0 : Nat} {a1 : Nat} (hq : zW36 a0 a1 q = false) {x2 : Int32} {s : zS} (hF : zf36 a0 a1 x2 s = some (v, s')) : s' q = s q := by
  unfold zf36 at hF
  refine zr_gf hF (fun v1 hF => ?_)
  refine zr_if hF (fun hF => ?_) (fun hF => ?_)
  · exact zf36_16_fr hq hF
  · exact zr_rb hF
def zW35 (a0 : Nat) (a1 : Nat) (q : Nat) : Bool := zW13 (zrf a0 1) q || (zW36 a0 a1 q || (zW15 (zrf a0 1) q || false))
theorem zf35_68_fr {q : Nat} {v : Int32} {s' : zS} {a0 : Nat} {a1 : Nat} (hq : zW35 a0 a1 q = false) {k12 : Int32 → zS → Option (Int32 × zS)} (hk12 : ∀ x2 s, k12 x2 s = some (v, s') → s' q = s q) {x2 : Int32} {x3 : Int32} {s : zS} (hF : zf35_68 a0 a1 k12 x2 x3 s = some (v, s')) : s' q = s q := by
  unfold zf35_68 at hF
  refine zr_gf hF (fun v1 hF => ?_)
  refine zr_if hF (fun hF => ?_) (fun hF => ?_)
  · exact hk12 _ _ hF
  · exact zr_ri hF
theorem zf35_56_fr {q : Nat} {v : Int32} {s' : zS} {a0 : Nat} {a1 : Nat} (hq : zW35 a0 a1 q = false) {k12 : Int32 → zS → Option (Int32 × zS)} (hk12 : ∀ x2 s, k12 x2 s = some (v, s') → s' q = s q) {x2 : Int32} {x3 : Int32} {s : zS} (hF : zf35_56 a0 a1 k12 x2 x3 s = some (v, s')) : s' q = s q := by
  unfold zf35_56 at hF
  refine zr_bi hF (fun _ _ h => zf18_fr h) (fun v1 s2 hF => ?_)
  refine zr_bv hF (fun _ h => zf13_fr (zo1 hq) h) (fun s4 hF => ?_)
  exact zf35_68_fr hq hk12 hF
theorem zf35_12_fr {q : Nat} {v : Int32} {s' : zS} {a0 : Nat} {a1 : Nat} (hq : zW35 a0 a1 q = false)   {n : Nat} : ∀ {x2 : Int32} {s : zS}, zf35_12 a0 a1 n x2 s = some (v, s') → s' q = s q := by
  induction n with
  | zero => intro x2 s hF; rw [zf35_12] at hF; cases hF
  | succ n ih =>
    intro x2 s hF
    rw [zf35_12] at hF
    refine zr_gf hF (fun v1 hF => ?_)
    refine zr_if hF (fun hF => ?_) (fun hF => ?_)
    · exact zr_ri hF
    · refine zr_gf hF (fun v2 hF => ?_)
      refine zr_if hF (fun hF => ?_) (fun hF => ?_)
      · exact zf35_56_fr hq (fun _ _ hF => ih hF) hF
      · refine zr_bi hF (fun _ _ h => zf18_fr h) (fun v3 s4 hF => ?_)
        refine zr_if hF (fun hF => ?_) (fun hF => ?_)
        · exact zf35_56_fr hq (fun _ _ hF => ih hF) hF
        · refine zr_bi hF (fun _ _ h => zf36_fr (zo1 (zo2 hq)) h) (fun v5 s6 hF => ?_)
          refine zr_if hF (fun hF => ?_) (fun hF => ?_)
          · exact zf35_68_fr hq (fun _ _ hF => ih hF) hF
          · exact zr_ri hF
theorem zf35_fr {q : Nat} {v : Int32} {s' : zS} {a0 : Nat} {a1 : Nat} (hq : zW35 a0 a1 q = false)  {s : zS} (hF : zf35 a0 a1 s = some (v, s')) : s' q = s q := by
  unfold zf35 at hF
  refine zr_bv hF (fun _ h => zf15_fr (zo1 (zo2 (zo2 hq))) h) (fun s2 hF => ?_)
  refine zr_gf hF (fun v3 hF => ?_)
  exact zf35_12_fr hq hF
theorem zf38_45_fr {q : Nat} {v : Int32} {s' : zS} {a0 : Nat}  {k5 : Int32 → Int32 → zS → Option (Int32 × zS)} {k27 : Int32 → Int32 → Int32 → zS → Option (Int32 × zS)} (hk5 : ∀ x1 x2 s, k5 x1 x2 s = some (v, s') → s' q = s q) (hk27 : ∀ x1 x2 x3 s, k27 x1 x2 x3 s = some (v, s') → s' q = s q) {x1 : Int32} {x2 : Int32} {x3 : Int32} {t0 : Int32} {s : zS} (hF : zf38_45 a0 k5 k27 x1 x2 x3 t0 s = some (v, s')) : s' q = s q := by
  unfold zf38_45 at hF
  refine zr_if hF (fun hF => ?_) (fun hF => ?_)
  · exact hk27 _ _ _ _ hF
  · exact hk27 _ _ _ _ hF
theorem zf38_27_fr {q : Nat} {v : Int32} {s' : zS} {a0 : Nat}  {k5 : Int32 → Int32 → zS → Option (Int32 × zS)} (hk5 : ∀ x1 x2 s, k5 x1 x2 s = some (v, s') → s' q = s q) {n : Nat} : ∀ {x1 : Int32} {x2 : Int32} {x3 : Int32} {s : zS}, zf38_27 a0 k5 n x1 x2 x3 s = some (v, s') → s' q = s q := by
  induction n with
  | zero => intro x1 x2 x3 s hF; rw [zf38_27] at hF; cases hF
  | succ n ih =>
    intro x1 x2 x3 s hF
    rw [zf38_27] at hF
    refine zr_if hF (fun hF => ?_) (fun hF => ?_)
    · exact hk5 _ _ _ hF
    · refine zr_if hF (fun hF => ?_) (fun hF => ?_)
      · exact zf38_45_fr  hk5 (fun _ _ _ _ hF => ih hF) hF
      · exact zf38_45_fr  hk5 (fun _ _ _ _ hF => ih hF) hF
theorem zf38_5_fr {q : Nat} {v : Int32} {s' : zS} {a0 : Nat}    {n : Nat} : ∀ {x1 : Int32} {x2 : Int32} {s : zS}, zf38_5 a0 n x1 x2 s = some (v, s') → s' q = s q := by
  induction n with
  | zero => intro x1 x2 s hF; rw [zf38_5] at hF; cases hF
  | succ n ih =>
    intro x1 x2 s hF
    rw [zf38_5] at hF
    refine zr_gf hF (fun v1 hF => ?_)
    refine zr_if hF (fun hF => ?_) (fun hF => ?_)
    · exact zr_ri hF
    · refine zr_al hF (fun v2 hF => ?_)
      exact zf38_27_fr  (fun _ _ _ hF => ih hF) hF
theorem zf38_fr {q : Nat} {v : Int32} {s' : zS} {a0 : Nat}   {s : zS} (hF : zf38 a0 s = some (v, s')) : s' q = s q := by
  unfold zf38 at hF
  exact zf38_5_fr  hF
theorem zf39_fr {q : Nat} {v : Int32} {s' : zS}   {x0 : Int32} {s : zS} (hF : zf39 x0 s = some (v, s')) : s' q = s q := by
  unfold zf39 at hF
  refine zr_if hF (fun hF => ?_) (fun hF => ?_)
  · exact zr_ri hF
  · exact zr_ri hF
theorem zf37_10_fr {q : Nat} {v : Int32} {s' : zS} {a0 : Nat} {a1 : Nat}    {n : Nat} : ∀ {x2 : Int32} {x3 : Int32} {s : zS}, zf37_10 a0 a1 n x2 x3 s = some (v, s') → s' q = s q := by
  induction n with
  | zero => intro x2 x3 s hF; rw [zf37_10] at hF; cases hF
  | succ n ih =>
    intro x2 x3 s hF
    rw [zf37_10] at hF
    refine zr_if hF (fun hF => ?_) (fun hF => ?_)
    · exact zr_ri hF
    · refine zr_gf hF (fun v1 hF => ?_)
      refine zr_bi hF (fun _ _ h => zf18_fr h) (fun v2 s3 hF => ?_)
      refine zr_bi hF (fun _ _ h => zf39_fr h) (fun v4 s5 hF => ?_)
      refine zr_if hF (fun hF => ?_) (fun hF => ?_)
      · exact ih hF
      · refine zr_gf hF (fun v6 hF => ?_)
        exact zr_ri hF
theorem zf37_fr {q : Nat} {v : Int32} {s' : zS} {a0 : Nat} {a1 : Nat}   {s : zS} (hF : zf37 a0 a1 s = some (v, s')) : s' q = s q := by
  unfold zf37 at hF
  refine zr_bi hF (fun _ _ h => zf38_fr h) (fun v1 s2 hF => ?_)
  exact zf37_10_fr  hF
def zW34 (a0 : Nat) (a1 : Nat) (a2 : Nat) (q : Nat) : Bool := zW35 a1 a2 q || (zW33 a0 q || false)
theorem zf34_fr {q : Nat} {v : Int32} {s' : zS} {a0 : Nat} {a1 : Nat} {a2 : Nat} (hq : zW34 a0 a1 a2 q = false)  {s : zS} (hF : zf34 a0 a1 a2 s = some (v, s')) : s' q = s q := by
  unfold zf34 at hF
  refine zr_bi hF (fun _ _ h => zf35_fr (zo1 hq) h) (fun v1 s2 hF => ?_)
  refine zr_bi hF (fun _ _ h => zf33_fr (zo1 (zo2 hq)) h) (fun v3 s4 hF => ?_)
  refine zr_if hF (fun hF => ?_) (fun hF => ?_)
  · refine zr_bi hF (fun _ _ h => zf37_fr h) (fun v5 s6 hF => ?_)
    refine zr_bi hF (fun _ _ h => zf33_fr (zo1 (zo2 hq)) h) (fun v7 s8 hF => ?_)
    refine zr_if hF (fun hF => ?_) (fun hF => ?_)
    · exact zr_ri hF
    · exact zr_ri hF
  · exact zr_ri hF
def zW41 (a0 : Nat) (q : Nat) : Bool := (q == a0) || false
theorem zf41_5_fr {q : Nat} {s' : zS} {a0 : Nat} (hq : zW41 a0 q = false)   {n : Nat} : ∀ {x1 : Int32} {x2 : Int32} {x3 : Int32} {s : zS}, zf41_5 a0 n x1 x2 x3 s = some s' → s' q = s q := by
  induction n with
  | zero => intro x1 x2 x3 s hF; rw [zf41_5] at hF; cases hF
  | succ n ih =>
    intro x1 x2 x3 s hF
    rw [zf41_5] at hF
    refine zr_if hF (fun hF => ?_) (fun hF => ?_)
    · exact zr_rv hF
    · refine zr_as hF (zo1 hq) (fun s1 hF => ?_)
      exact ih hF
theorem zf41_fr {q : Nat} {s' : zS} {a0 : Nat} (hq : zW41 a0 q = false) {x1 : Int32} {s : zS} (hF : zf41 a0 x1 s = some s') : s' q = s q := by
  unfold zf41 at hF
  exact zf41_5_fr hq hF
theorem zf43_fr {q : Nat} {v : Int32} {s' : zS}   {x0 : Int32} {s : zS} (hF : zf43 x0 s = some (v, s')) : s' q = s q := by
  unfold zf43 at hF
  refine zr_if hF (fun hF => ?_) (fun hF => ?_)
  · exact zr_rb hF
  · refine zr_if hF (fun hF => ?_) (fun hF => ?_)
    · exact zr_rb hF
    · exact zr_rb hF
def zW44 (a0 : Nat) (q : Nat) : Bool := (q == (zrf a0 1)) || ((q == (zrf a0 2)) || ((q == (zrf a0 3)) || ((q == (zrf a0 4)) || ((q == (zrf a0 5)) || ((q == a0) || false)))))
theorem zf44_fr {q : Nat} {v : Int32} {s' : zS} {a0 : Nat} (hq : zW44 a0 q = false) {x1 : Int32} {s : zS} (hF : zf44 a0 x1 s = some (v, s')) : s' q = s q := by
  unfold zf44 at hF
  refine zr_gf hF (fun v1 hF => ?_)
  refine zr_bi hF (fun _ _ h => zf18_fr h) (fun v2 s3 hF => ?_)
  refine zr_as hF (zo1 hq) (fun s4 hF => ?_)
  refine zr_gf hF (fun v5 hF => ?_)
  refine zr_as hF (zo1 (zo2 hq)) (fun s6 hF => ?_)
  refine zr_gf hF (fun v7 hF => ?_)
  refine zr_gf hF (fun v8 hF => ?_)
  refine zr_as hF (zo1 (zo2 (zo2 hq))) (fun s9 hF => ?_)
  refine zr_gf hF (fun v10 hF => ?_)
  refine zr_gf hF (fun v11 hF => ?_)
  refine zr_as hF (zo1 (zo2 (zo2 (zo2 hq)))) (fun s12 hF => ?_)
  refine zr_gf hF (fun v13 hF => ?_)
  refine zr_gf hF (fun v14 hF => ?_)
  refine zr_as hF (zo1 (zo2 (zo2 (zo2 (zo2 hq))))) (fun s15 hF => ?_)
  refine zr_gf hF (fun v16 hF => ?_)
  refine zr_pf hF (zo1 (zo2 (zo2 (zo2 (zo2 (zo2 hq)))))) (fun s17 hF => ?_)
  refine zr_gf hF (fun v18 hF => ?_)
  exact zr_ri hF
theorem zf46_7_fr {q : Nat} {v : Int32} {s' : zS} {a0 : Nat}    {n : Nat} : ∀ {x1 : Int32} {x2 : Int32} {x3 : Int32} {s : zS}, zf46_7 a0 n x1 x2 x3 s = some (v, s') → s' q = s q := by
  induction n with
  | zero => intro x1 x2 x3 s hF; rw [zf46_7] at hF; cases hF
  | succ n ih =>
    intro x1 x2 x3 s hF
    rw [zf46_7] at hF
    refine zr_al hF (fun v1 hF => ?_)
    refine zr_if hF (fun hF => ?_) (fun hF => ?_)
    · exact zr_ri hF
    · refine zr_al hF (fun v2 hF => ?_)
      refine zr_bi hF (fun _ _ h => zf18_fr h) (fun v3 s4 hF => ?_)
      refine zr_if hF (fun hF => ?_) (fun hF => ?_)
      · exact ih hF
      · exact zr_ri hF
theorem zf46_fr {q : Nat} {v : Int32} {s' : zS} {a0 : Nat}  {x1 : Int32} {x2 : Int32} {s : zS} (hF : zf46 a0 x1 x2 s = some (v, s')) : s' q = s q := by
  unfold zf46 at hF
  refine zr_al hF (fun v1 hF => ?_)
  exact zf46_7_fr  hF
def zW47 (a0 : Nat) (q : Nat) : Bool := (q == a0) || false
theorem zf47_fr {q : Nat} {v : Int32} {s' : zS} {a0 : Nat} (hq : zW47 a0 q = false) {x1 : Int32} {s : zS} (hF : zf47 a0 x1 s = some (v, s')) : s' q = s q := by
  unfold zf47 at hF
  refine zr_gf hF (fun v1 hF => ?_)
  refine zr_bi hF (fun _ _ h => zf18_fr h) (fun v2 s3 hF => ?_)
  refine zr_if hF (fun hF => ?_) (fun hF => ?_)
  · refine zr_gf hF (fun v4 hF => ?_)
    refine zr_pf hF (zo1 hq) (fun s5 hF => ?_)
    exact zr_rb hF
  · exact zr_rb hF
theorem zf49_fr {q : Nat} {v : Int32} {s' : zS}   {x0 : Int32} {s : zS} (hF : zf49 x0 s = some (v, s')) : s' q = s q := by
  unfold zf49 at hF
  refine zr_if hF (fun hF => ?_) (fun hF => ?_)
  · exact zr_rb hF
  · refine zr_if hF (fun hF => ?_) (fun hF => ?_)
    · exact zr_rb hF
    · exact zr_rb hF
theorem zf48_fr {q : Nat} {v : Int32} {s' : zS}   {x0 : Int32} {s : zS} (hF : zf48 x0 s = some (v, s')) : s' q = s q := by
  unfold zf48 at hF
  refine zr_bi hF (fun _ _ h => zf49_fr h) (fun v1 s2 hF => ?_)
  refine zr_if hF (fun hF => ?_) (fun hF => ?_)
  · exact zr_rb hF
  · refine zr_bi hF (fun _ _ h => zf43_fr h) (fun v3 s4 hF => ?_)
    refine zr_if hF (fun hF => ?_) (fun hF => ?_)
    · exact zr_rb hF
    · refine zr_bi hF (fun _ _ h => zf29_fr h) (fun v5 s6 hF => ?_)
      refine zr_if hF (fun hF => ?_) (fun hF => ?_)
      · exact zr_rb hF
      · exact zr_rb hF
def zW45 (a0 : Nat) (q : Nat) : Bool := zW47 a0 q || ((q == (zrf a0 8)) || ((q == a0) || ((q == (zrf a0 7)) || ((q == (zrf a0 5)) || false))))
theorem zf45_176_fr {q : Nat} {v : Int32} {s' : zS} {a0 : Nat} (hq : zW45 a0 q = false)    {s : zS} (hF : zf45_176 a0 s = some (v, s')) : s' q = s q := by
  unfold zf45_176 at hF
  refine zr_bi hF (fun _ _ h => zf47_fr (zo1 hq) h) (fun v1 s2 hF => ?_)
  exact zr_rb hF
theorem zf45_125_fr {q : Nat} {v : Int32} {s' : zS} {a0 : Nat} (hq : zW45 a0 q = false)   {n : Nat} : ∀ {x3 : Int32} {x4 : Int32} {s : zS}, zf45_125 a0 n x3 x4 s = some (v, s') → s' q = s q := by
  induction n with
  | zero => intro x3 x4 s hF; rw [zf45_125] at hF; cases hF
  | succ n ih =>
    intro x3 x4 s hF
    rw [zf45_125] at hF
    refine zr_if hF (fun hF => ?_) (fun hF => ?_)
    · exact zf45_176_fr hq hF
    · refine zr_gf hF (fun v1 hF => ?_)
      refine zr_bi hF (fun _ _ h => zf18_fr h) (fun v2 s3 hF => ?_)
      refine zr_bi hF (fun _ _ h => zf48_fr h) (fun v4 s5 hF => ?_)
      refine zr_if hF (fun hF => ?_) (fun hF => ?_)
      · exact zf45_176_fr hq hF
      · refine zr_al hF (fun v6 hF => ?_)
        refine zr_as hF (zo1 (zo2 hq)) (fun s7 hF => ?_)
        refine zr_gf hF (fun v8 hF => ?_)
        refine zr_pf hF (zo1 (zo2 (zo2 hq))) (fun s9 hF => ?_)
        exact ih hF
theorem zf45_fr {q : Nat} {v : Int32} {s' : zS} {a0 : Nat} (hq : zW45 a0 q = false) {x1 : Int32} {s : zS} (hF : zf45 a0 x1 s = some (v, s')) : s' q = s q := by
  unfold zf45 at hF
  refine zr_gf hF (fun v1 hF => ?_)
  refine zr_pf hF (zo1 (zo2 (zo2 hq))) (fun s2 hF => ?_)
  refine zr_gf hF (fun v3 hF => ?_)
  refine zr_bi hF (fun _ _ h => zf18_fr h) (fun v4 s5 hF => ?_)
  refine zr_bi hF (fun _ _ h => zf43_fr h) (fun v6 s7 hF => ?_)
  refine zr_if hF (fun hF => ?_) (fun hF => ?_)
  · exact zr_rb hF
  · refine zr_bi hF (fun _ _ h => zf46_fr h) (fun v8 s9 hF => ?_)
    refine zr_if hF (fun hF => ?_) (fun hF => ?_)
    · exact zr_rb hF
    · refine zr_gf hF (fun v10 hF => ?_)
      refine zr_if hF (fun hF => ?_) (fun hF => ?_)
      · refine zr_gf hF (fun v11 hF => ?_)
        refine zr_gf hF (fun v12 hF => ?_)
        refine zr_as hF (zo1 (zo2 (zo2 (zo2 hq)))) (fun s13 hF => ?_)
        refine zr_as hF (zo1 (zo2 hq)) (fun s14 hF => ?_)
        refine zr_gf hF (fun v15 hF => ?_)
        refine zr_pf hF (zo1 (zo2 (zo2 hq))) (fun s16 hF => ?_)
        refine zr_gf hF (fun v17 hF => ?_)
        refine zr_as hF (zo1 (zo2 (zo2 (zo2 (zo2 hq))))) (fun s18 hF => ?_)
        refine zr_gf hF (fun v19 hF => ?_)
        refine zr_pf hF (zo1 (zo2 (zo2 hq))) (fun s20 hF => ?_)
        refine zr_bi hF (fun _ _ h => zf47_fr (zo1 hq) h) (fun v21 s22 hF => ?_)
        refine zr_if hF (fun hF => ?_) (fun hF => ?_)
        · exact zr_rb hF
        · refine zr_bi hF (fun _ _ h => zf47_fr (zo1 hq) h) (fun v23 s24 hF => ?_)
          refine zr_if hF (fun hF => ?_) (fun hF => ?_)
          · exact zf45_125_fr hq hF
          · exact zr_rb hF
      · exact zr_rb hF
def zW42 (a0 : Nat) (q : Nat) : Bool := (q == a0) || (zW47 a0 q || (zW45 a0 q || (zW44 a0 q || false)))
theorem zf42_110_fr {q : Nat} {v : Int32} {s' : zS} {a0 : Nat} (hq : zW42 a0 q = false)   {x2 : Int32} {s : zS} (hF : zf42_110 a0 x2 s = some (v, s')) : s' q = s q := by
  unfold zf42_110 at hF
  refine zr_gf hF (fun v1 hF => ?_)
  refine zr_bi hF (fun _ _ h => zf18_fr h) (fun v2 s3 hF => ?_)
  refine zr_if hF (fun hF => ?_) (fun hF => ?_)
  · refine zr_pf hF (zo1 hq) (fun s4 hF => ?_)
    refine zr_gf hF (fun v5 hF => ?_)
    refine zr_pf hF (zo1 hq) (fun s6 hF => ?_)
    refine zr_bi hF (fun _ _ h => zf47_fr (zo1 (zo2 hq)) h) (fun v7 s8 hF => ?_)
    exact zr_rb hF
  · refine zr_gf hF (fun v9 hF => ?_)
    refine zr_pf hF (zo1 hq) (fun s10 hF => ?_)
    refine zr_bi hF (fun _ _ h => zf47_fr (zo1 (zo2 hq)) h) (fun v11 s12 hF => ?_)
    exact zr_rb hF
theorem zf42_72_fr {q : Nat} {v : Int32} {s' : zS} {a0 : Nat} (hq : zW42 a0 q = false)   {n : Nat} : ∀ {x2 : Int32} {x3 : Int32} {s : zS}, zf42_72 a0 n x2 x3 s = some (v, s') → s' q = s q := by
  induction n with
  | zero => intro x2 x3 s hF; rw [zf42_72] at hF; cases hF
  | succ n ih =>
    intro x2 x3 s hF
    rw [zf42_72] at hF
    refine zr_if hF (fun hF => ?_) (fun hF => ?_)
    · exact zf42_110_fr hq hF
    · refine zr_gf hF (fun v1 hF => ?_)
      refine zr_bi hF (fun _ _ h => zf18_fr h) (fun v2 s3 hF => ?_)
      refine zr_if hF (fun hF => ?_) (fun hF => ?_)
      · exact zf42_110_fr hq hF
      · refine zr_bi hF (fun _ _ h => zf45_fr (zo1 (zo2 (zo2 hq))) h) (fun v4 s5 hF => ?_)
        refine zr_if hF (fun hF => ?_) (fun hF => ?_)
        · exact ih hF
        · exact zr_rb hF
theorem zf42_fr {q : Nat} {v : Int32} {s' : zS} {a0 : Nat} (hq : zW42 a0 q = false)  {s : zS} (hF : zf42 a0 s = some (v, s')) : s' q = s q := by
  unfold zf42 at hF
  refine zr_gf hF (fun v1 hF => ?_)
  refine zr_if hF (fun hF => ?_) (fun hF => ?_)
  · exact zr_rb hF
  · refine zr_gf hF (fun v2 hF => ?_)
    refine zr_if hF (fun hF => ?_) (fun hF => ?_)
    · refine zr_gf hF (fun v3 hF => ?_)
      refine zr_gf hF (fun v4 hF => ?_)
      refine zr_pf hF (zo1 hq) (fun s5 hF => ?_)
      refine zr_gf hF (fun v6 hF => ?_)
      refine zr_bi hF (fun _ _ h => zf18_fr h) (fun v7 s8 hF => ?_)
      refine zr_bi hF (fun _ _ h => zf43_fr h) (fun v9 s10 hF => ?_)
      refine zr_if hF (fun hF => ?_) (fun hF => ?_)
      · refine zr_bi hF (fun _ _ h => zf44_fr (zo1 (zo2 (zo2 (zo2 hq)))) h) (fun v11 s12 hF => ?_)
        refine zr_gf hF (fun v13 hF => ?_)
        refine zr_pf hF (zo1 hq) (fun s14 hF => ?_)
        exact zf42_72_fr hq hF
      · exact zr_rb hF
    · exact zr_rb hF
def zW50 (a0 : Nat) (q : Nat) : Bool := (q == a0) || (zW47 a0 q || false)
theorem zf50_fr {q : Nat} {v : Int32} {s' : zS} {a0 : Nat} (hq : zW50 a0 q = false)  {s : zS} (hF : zf50 a0 s = some (v, s')) : s' q = s q := by
  unfold zf50 at hF
  refine zr_gf hF (fun v1 hF => ?_)
  refine zr_pf hF (zo1 hq) (fun s2 hF => ?_)
  refine zr_gf hF (fun v3 hF => ?_)
  refine zr_al hF (fun v4 hF => ?_)
  refine zr_bi hF (fun _ _ h => zf47_fr (zo1 (zo2 hq)) h) (fun v5 s6 hF => ?_)
  refine zr_if hF (fun hF => ?_) (fun hF => ?_)
  · exact zr_rb hF
  · refine zr_bi hF (fun _ _ h => zf47_fr (zo1 (zo2 hq)) h) (fun v7 s8 hF => ?_)
    refine zr_if hF (fun hF => ?_) (fun hF => ?_)
    · refine zr_gf hF (fun v9 hF => ?_)
      refine zr_al hF (fun v10 hF => ?_)
      refine zr_pf hF (zo1 hq) (fun s11 hF => ?_)
      refine zr_gf hF (fun v12 hF => ?_)
      refine zr_pf hF (zo1 hq) (fun s13 hF => ?_)
      exact zr_rb hF
    · exact zr_rb hF
def zW51 (a0 : Nat) (q : Nat) : Bool := (q == (zrf a0 10)) || ((q == a0) || false)
theorem zf51_fr {q : Nat} {v : Int32} {s' : zS} {a0 : Nat} (hq : zW51 a0 q = false) {x1 : Int32} {s : zS} (hF : zf51 a0 x1 s = some (v, s')) : s' q = s q := by
  unfold zf51 at hF
  refine zr_if hF (fun hF => ?_) (fun hF => ?_)
  · exact zr_rb hF
  · refine zr_if hF (fun hF => ?_) (fun hF => ?_)
    · exact zr_rb hF
    · refine zr_if hF (fun hF => ?_) (fun hF => ?_)
      · refine zr_gf hF (fun v1 hF => ?_)
        refine zr_gf hF (fun v2 hF => ?_)
        refine zr_as hF (zo1 hq) (fun s3 hF => ?_)
        refine zr_gf hF (fun v4 hF => ?_)
        refine zr_pf hF (zo1 (zo2 hq)) (fun s5 hF => ?_)
        exact zr_rb hF
      · exact zr_rb hF
def zW40 (a0 : Nat) (q : Nat) : Bool := zW51 a0 q || (zW42 a0 q || (zW50 a0 q || ((q == a0) || (zW41 (zrf a0 10) q || false))))
theorem zf40_162_fr {q : Nat} {v : Int32} {s' : zS} {a0 : Nat} (hq : zW40 a0 q = false)   {x1 : Int32} {s : zS} (hF : zf40_162 a0 x1 s = some (v, s')) : s' q = s q := by
  unfold zf40_162 at hF
  refine zr_if hF (fun hF => ?_) (fun hF => ?_)
  · refine zr_gf hF (fun v1 hF => ?_)
    exact zr_ri hF
  · refine zr_gf hF (fun v2 hF => ?_)
    refine zr_if hF (fun hF => ?_) (fun hF => ?_)
    · refine zr_gf hF (fun v3 hF => ?_)
      exact zr_ri hF
    · refine zr_gf hF (fun v4 hF => ?_)
      refine zr_if hF (fun hF => ?_) (fun hF => ?_)
      · refine zr_gf hF (fun v5 hF => ?_)
        exact zr_ri hF
      · exact zr_ri hF
theorem zf40_37_fr {q : Nat} {v : Int32} {s' : zS} {a0 : Nat} (hq : zW40 a0 q = false)   {n : Nat} : ∀ {x1 : Int32} {x2 : Int32} {s : zS}, zf40_37 a0 n x1 x2 s = some (v, s') → s' q = s q := by
  induction n with
  | zero => intro x1 x2 s hF; rw [zf40_37] at hF; cases hF
  | succ n ih =>
    intro x1 x2 s hF
    rw [zf40_37] at hF
    refine zr_if hF (fun hF => ?_) (fun hF => ?_)
    · exact zf40_162_fr hq hF
    · refine zr_if hF (fun hF => ?_) (fun hF => ?_)
      · exact zf40_162_fr hq hF
      · refine zr_gf hF (fun v1 hF => ?_)
        refine zr_gf hF (fun v2 hF => ?_)
        refine zr_if hF (fun hF => ?_) (fun hF => ?_)
        · exact zf40_162_fr hq hF
        · refine zr_gf hF (fun v3 hF => ?_)
          refine zr_bi hF (fun _ _ h => zf18_fr h) (fun v4 s5 hF => ?_)
          refine zr_gf hF (fun v6 hF => ?_)
          refine zr_if hF (fun hF => ?_) (fun hF => ?_)
          · refine zr_if hF (fun hF => ?_) (fun hF => ?_)
            · refine zr_bi hF (fun _ _ h => zf51_fr (zo1 hq) h) (fun v7 s8 hF => ?_)
              exact ih hF
            · refine zr_gf hF (fun v9 hF => ?_)
              refine zr_bi hF (fun _ _ h => zf18_fr h) (fun v10 s11 hF => ?_)
              refine zr_if hF (fun hF => ?_) (fun hF => ?_)
              · refine zr_bi hF (fun _ _ h => zf42_fr (zo1 (zo2 hq)) h) (fun v12 s13 hF => ?_)
                exact ih hF
              · refine zr_bi hF (fun _ _ h => zf50_fr (zo1 (zo2 (zo2 hq))) h) (fun v14 s15 hF => ?_)
                exact ih hF
          · refine zr_gf hF (fun v16 hF => ?_)
            refine zr_if hF (fun hF => ?_) (fun hF => ?_)
            · exact ih hF
            · refine zr_if hF (fun hF => ?_) (fun hF => ?_)
              · exact ih hF
              · refine zr_bi hF (fun _ _ h => zf42_fr (zo1 (zo2 hq)) h) (fun v17 s18 hF => ?_)
                refine zr_if hF (fun hF => ?_) (fun hF => ?_)
                · exact ih hF
                · exact ih hF
theorem zf40_fr {q : Nat} {v : Int32} {s' : zS} {a0 : Nat} (hq : zW40 a0 q = false)  {s : zS} (hF : zf40 a0 s = some (v, s')) : s' q = s q := by
  unfold zf40 at hF
  refine zr_pf hF (zo1 (zo2 (zo2 (zo2 hq)))) (fun s1 hF => ?_)
  refine zr_pf hF (zo1 (zo2 (zo2 (zo2 hq)))) (fun s2 hF => ?_)
  refine zr_pf hF (zo1 (zo2 (zo2 (zo2 hq)))) (fun s3 hF => ?_)
  refine zr_pf hF (zo1 (zo2 (zo2 (zo2 hq)))) (fun s4 hF => ?_)
  refine zr_pf hF (zo1 (zo2 (zo2 (zo2 hq)))) (fun s5 hF => ?_)
  refine zr_bv hF (fun _ h => zf41_fr (zo1 (zo2 (zo2 (zo2 (zo2 hq))))) h) (fun s7 hF => ?_)
  exact zf40_37_fr hq hF
theorem zf52_fr {q : Nat} {v : Int32} {s' : zS}   {x0 : Int32} {s : zS} (hF : zf52 x0 s = some (v, s')) : s' q = s q := by
  unfold zf52 at hF
  refine zr_if hF (fun hF => ?_) (fun hF => ?_)
  · exact zr_ri hF
  · exact zr_ri hF
theorem zf55_72_fr {q : Nat} {v : Int32} {s' : zS}     {x0 : Int32} {s : zS} (hF : zf55_72 x0 s = some (v, s')) : s' q = s q := by
  unfold zf55_72 at hF
  refine zr_if hF (fun hF => ?_) (fun hF => ?_)
  · exact zr_rb hF
  · refine zr_if hF (fun hF => ?_) (fun hF => ?_)
    · exact zr_rb hF
    · exact zr_rb hF
theorem zf55_102_fr {q : Nat} {v : Int32} {s' : zS}     {x0 : Int32} {s : zS} (hF : zf55_102 x0 s = some (v, s')) : s' q = s q := by
  unfold zf55_102 at hF
  refine zr_if hF (fun hF => ?_) (fun hF => ?_)
  · exact zr_rb hF
  · exact zr_rb hF
theorem zf55_fr {q : Nat} {v : Int32} {s' : zS}   {x0 : Int32} {x1 : Int32} {s : zS} (hF : zf55 x0 x1 s = some (v, s')) : s' q = s q := by
  unfold zf55 at hF
  refine zr_if hF (fun hF => ?_) (fun hF => ?_)
  · exact zf55_72_fr  hF
  · refine zr_if hF (fun hF => ?_) (fun hF => ?_)
    · exact zf55_72_fr  hF
    · refine zr_if hF (fun hF => ?_) (fun hF => ?_)
      · refine zr_if hF (fun hF => ?_) (fun hF => ?_)
        · exact zr_rb hF
        · exact zr_rb hF
      · refine zr_if hF (fun hF => ?_) (fun hF => ?_)
        · exact zf55_102_fr  hF
        · refine zr_if hF (fun hF => ?_) (fun hF => ?_)
          · refine zr_if hF (fun hF => ?_) (fun hF => ?_)
            · exact zr_rb hF
            · exact zr_rb hF
          · refine zr_if hF (fun hF => ?_) (fun hF => ?_)
            · exact zf55_102_fr  hF
            · exact zr_rb hF
theorem zf57_fr {q : Nat} {v : Int32} {s' : zS} {a0 : Nat}  {x1 : Int32} {x2 : Int32} {s : zS} (hF : zf57 a0 x1 x2 s = some (v, s')) : s' q = s q := by
  unfold zf57 at hF
  refine zr_al hF (fun v1 hF => ?_)
  refine zr_bi hF (fun _ _ h => zf18_fr h) (fun v2 s3 hF => ?_)
  exact zr_ri hF
theorem zf56_51_fr {q : Nat} {v : Int32} {s' : zS} {a0 : Nat}    {x3 : Int32} {x4 : Int32} {x5 : Int32} {s : zS} (hF : zf56_51 a0 x3 x4 x5 s = some (v, s')) : s' q = s q := by
  unfold zf56_51 at hF
  refine zr_if hF (fun hF => ?_) (fun hF => ?_)
  · exact zr_rb hF
  · refine zr_if hF (fun hF => ?_) (fun hF => ?_)
    · exact zr_rb hF
    · refine zr_bi hF (fun _ _ h => zf49_fr h) (fun v1 s2 hF => ?_)
      refine zr_if hF (fun hF => ?_) (fun hF => ?_)
      · exact zr_rb hF
      · exact zr_rb hF
theorem zf56_136_fr {q : Nat} {v : Int32} {s' : zS} {a0 : Nat}    {x4 : Int32} {x5 : Int32} {s : zS} (hF : zf56_136 a0 x4 x5 s = some (v, s')) : s' q = s q := by
  unfold zf56_136 at hF
  refine zr_if hF (fun hF => ?_) (fun hF => ?_)
  · exact zr_rb hF
  · refine zr_bi hF (fun _ _ h => zf49_fr h) (fun v1 s2 hF => ?_)
    refine zr_if hF (fun hF => ?_) (fun hF => ?_)
    · exact zr_rb hF
    · exact zr_rb hF
theorem zf56_37_fr {q : Nat} {v : Int32} {s' : zS} {a0 : Nat}    {x1 : Int32} {x2 : Int32} {x3 : Int32} {x4 : Int32} {t0 : Int32} {s : zS} (hF : zf56_37 a0 x1 x2 x3 x4 t0 s = some (v, s')) : s' q = s q := by
  unfold zf56_37 at hF
  refine zr_if hF (fun hF => ?_) (fun hF => ?_)
  · exact zf56_51_fr  hF
  · refine zr_if hF (fun hF => ?_) (fun hF => ?_)
    · refine zr_if hF (fun hF => ?_) (fun hF => ?_)
      · refine zr_if hF (fun hF => ?_) (fun hF => ?_)
        · refine zr_if hF (fun hF => ?_) (fun hF => ?_)
          · exact zr_rb hF
          · refine zr_if hF (fun hF => ?_) (fun hF => ?_)
            · exact zr_rb hF
            · refine zr_if hF (fun hF => ?_) (fun hF => ?_)
              · exact zr_rb hF
              · exact zr_rb hF
        · refine zr_if hF (fun hF => ?_) (fun hF => ?_)
          · exact zf56_136_fr  hF
          · refine zr_if hF (fun hF => ?_) (fun hF => ?_)
            · refine zr_if hF (fun hF => ?_) (fun hF => ?_)
              · exact zr_rb hF
              · refine zr_bi hF (fun _ _ h => zf29_fr h) (fun v1 s2 hF => ?_)
                refine zr_if hF (fun hF => ?_) (fun hF => ?_)
                · exact zr_rb hF
                · exact zr_rb hF
            · refine zr_if hF (fun hF => ?_) (fun hF => ?_)
              · exact zf56_136_fr  hF
              · refine zr_if hF (fun hF => ?_) (fun hF => ?_)
                · refine zr_bi hF (fun _ _ h => zf29_fr h) (fun v3 s4 hF => ?_)
                  refine zr_if hF (fun hF => ?_) (fun hF => ?_)
                  · exact zr_rb hF
                  · refine zr_if hF (fun hF => ?_) (fun hF => ?_)
                    · exact zr_rb hF
                    · refine zr_if hF (fun hF => ?_) (fun hF => ?_)
                      · exact zr_rb hF
                      · refine zr_if hF (fun hF => ?_) (fun hF => ?_)
                        · exact zr_rb hF
                        · refine zr_bi hF (fun _ _ h => zf57_fr h) (fun v5 s6 hF => ?_)
                          refine zr_bi hF (fun _ _ h => zf29_fr h) (fun v7 s8 hF => ?_)
                          refine zr_if hF (fun hF => ?_) (fun hF => ?_)
                          · exact zr_rb hF
                          · exact zr_rb hF
                · exact zr_rb hF
      · exact zr_rb hF
    · exact zf56_51_fr  hF
theorem zf56_fr {q : Nat} {v : Int32} {s' : zS} {a0 : Nat}  {x1 : Int32} {x2 : Int32} {s : zS} (hF : zf56 a0 x1 x2 s = some (v, s')) : s' q = s q := by
  unfold zf56 at hF
  refine zr_al hF (fun v1 hF => ?_)
  refine zr_bi hF (fun _ _ h => zf18_fr h) (fun v2 s3 hF => ?_)
  refine zr_al hF (fun v4 hF => ?_)
  refine zr_if hF (fun hF => ?_) (fun hF => ?_)
  · refine zr_bi hF (fun _ _ h => zf57_fr h) (fun v5 s6 hF => ?_)
    exact zf56_37_fr  hF
  · exact zf56_37_fr  hF
theorem zf58_7_fr {q : Nat} {v : Int32} {s' : zS} {a0 : Nat}    {n : Nat} : ∀ {x1 : Int32} {x2 : Int32} {s : zS}, zf58_7 a0 n x1 x2 s = some (v, s') → s' q = s q := by
  induction n with
  | zero => intro x1 x2 s hF; rw [zf58_7] at hF; cases hF
  | succ n ih =>
    intro x1 x2 s hF
    rw [zf58_7] at hF
    refine zr_gf hF (fun v1 hF => ?_)
    refine zr_if hF (fun hF => ?_) (fun hF => ?_)
    · exact zr_ri hF
    · refine zr_al hF (fun v2 hF => ?_)
      refine zr_if hF (fun hF => ?_) (fun hF => ?_)
      · exact ih hF
      · exact zr_ri hF
theorem zf58_fr {q : Nat} {v : Int32} {s' : zS} {a0 : Nat}  {x1 : Int32} {s : zS} (hF : zf58 a0 x1 s = some (v, s')) : s' q = s q := by
  unfold zf58 at hF
  refine zr_al hF (fun v1 hF => ?_)
  exact zf58_7_fr  hF
theorem zf60_5_fr {q : Nat} {v : Int32} {s' : zS} {a0 : Nat}    {n : Nat} : ∀ {x1 : Int32} {x2 : Int32} {x3 : Int32} {x4 : Int32} {s : zS}, zf60_5 a0 n x1 x2 x3 x4 s = some (v, s') → s' q = s q := by
  induction n with
  | zero => intro x1 x2 x3 x4 s hF; rw [zf60_5] at hF; cases hF
  | succ n ih =>
    intro x1 x2 x3 x4 s hF
    rw [zf60_5] at hF
    refine zr_gf hF (fun v1 hF => ?_)
    refine zr_if hF (fun hF => ?_) (fun hF => ?_)
    · exact zr_rb hF
    · refine zr_al hF (fun v2 hF => ?_)
      refine zr_if hF (fun hF => ?_) (fun hF => ?_)
      · exact ih hF
      · refine zr_al hF (fun v3 hF => ?_)
        refine zr_if hF (fun hF => ?_) (fun hF => ?_)
        · exact zr_rb hF
        · refine zr_al hF (fun v4 hF => ?_)
          refine zr_if hF (fun hF => ?_) (fun hF => ?_)
          · exact ih hF
          · exact zr_rb hF
theorem zf60_fr {q : Nat} {v : Int32} {s' : zS} {a0 : Nat}  {x1 : Int32} {x2 : Int32} {x3 : Int32} {s : zS} (hF : zf60 a0 x1 x2 x3 s = some (v, s')) : s' q = s q := by
  unfold zf60 at hF
  exact zf60_5_fr  hF
theorem zf59_25_fr {q : Nat} {v : Int32} {s' : zS} {a0 : Nat}    {x1 : Int32} {x2 : Int32} {s : zS} (hF : zf59_25 a0 x1 x2 s = some (v, s')) : s' q = s q := by
  unfold zf59_25 at hF
  refine zr_if hF (fun hF => ?_) (fun hF => ?_)
  · exact zr_rb hF
  · refine zr_bi hF (fun _ _ h => zf60_fr h) (fun v1 s2 hF => ?_)
    refine zr_if hF (fun hF => ?_) (fun hF => ?_)
    · exact zr_rb hF
    · exact zr_rb hF
theorem zf59_fr {q : Nat} {v : Int32} {s' : zS} {a0 : Nat}  {x1 : Int32} {s : zS} (hF : zf59 a0 x1 s = some (v, s')) : s' q = s q := by
  unfold zf59 at hF
  refine zr_al hF (fun v1 hF => ?_)
  refine zr_if hF (fun hF => ?_) (fun hF => ?_)
  · exact zf59_25_fr  hF
  · refine zr_bi hF (fun _ _ h => zf60_fr h) (fun v2 s3 hF => ?_)
    refine zr_if hF (fun hF => ?_) (fun hF => ?_)
    · exact zr_rb hF
    · exact zf59_25_fr  hF
theorem zf54_147_fr {q : Nat} {v : Int32} {s' : zS} {a0 : Nat}    {x1 : Int32} {t0 : Int32} {s : zS} (hF : zf54_147 a0 x1 t0 s = some (v, s')) : s' q = s q := by
  unfold zf54_147 at hF
  refine zr_if hF (fun hF => ?_) (fun hF => ?_)
  · refine zr_bi hF (fun _ _ h => zf59_fr h) (fun v1 s2 hF => ?_)
    refine zr_if hF (fun hF => ?_) (fun hF => ?_)
    · exact zr_ri hF
    · refine zr_al hF (fun v3 hF => ?_)
      exact zr_ri hF
  · exact zr_ri hF
theorem zf54_126_fr {q : Nat} {v : Int32} {s' : zS} {a0 : Nat}    {x1 : Int32} {x3 : Int32} {s : zS} (hF : zf54_126 a0 x1 x3 s = some (v, s')) : s' q = s q := by
  unfold zf54_126 at hF
  refine zr_if hF (fun hF => ?_) (fun hF => ?_)
  · exact zf54_147_fr  hF
  · refine zr_if hF (fun hF => ?_) (fun hF => ?_)
    · refine zr_bi hF (fun _ _ h => zf58_fr h) (fun v1 s2 hF => ?_)
      exact zf54_147_fr  hF
    · exact zf54_147_fr  hF
theorem zf54_67_fr {q : Nat} {v : Int32} {s' : zS} {a0 : Nat}    {n : Nat} : ∀ {x1 : Int32} {x3 : Int32} {x6 : Int32} {s : zS}, zf54_67 a0 n x1 x3 x6 s = some (v, s') → s' q = s q := by
  induction n with
  | zero => intro x1 x3 x6 s hF; rw [zf54_67] at hF; cases hF
  | succ n ih =>
    intro x1 x3 x6 s hF
    rw [zf54_67] at hF
    refine zr_al hF (fun v1 hF => ?_)
    refine zr_if hF (fun hF => ?_) (fun hF => ?_)
    · refine zr_if hF (fun hF => ?_) (fun hF => ?_)
      · exact zf54_126_fr  hF
      · refine zr_bi hF (fun _ _ h => zf46_fr h) (fun v2 s3 hF => ?_)
        refine zr_if hF (fun hF => ?_) (fun hF => ?_)
        · exact zf54_126_fr  hF
        · refine zr_al hF (fun v4 hF => ?_)
          exact zr_ri hF
    · refine zr_bi hF (fun _ _ h => zf56_fr h) (fun v5 s6 hF => ?_)
      refine zr_if hF (fun hF => ?_) (fun hF => ?_)
      · exact ih hF
      · refine zr_al hF (fun v7 hF => ?_)
        exact zr_ri hF
theorem zf54_45_fr {q : Nat} {v : Int32} {s' : zS} {a0 : Nat}    {x1 : Int32} {x3 : Int32} {t0 : Int32} {s : zS} (hF : zf54_45 a0 x1 x3 t0 s = some (v, s')) : s' q = s q := by
  unfold zf54_45 at hF
  refine zr_if hF (fun hF => ?_) (fun hF => ?_)
  · refine zr_al hF (fun v1 hF => ?_)
    exact zf54_67_fr  hF
  · refine zr_al hF (fun v2 hF => ?_)
    exact zr_ri hF
theorem zf54_fr {q : Nat} {v : Int32} {s' : zS} {a0 : Nat}  {x1 : Int32} {x2 : Int32} {s : zS} (hF : zf54 a0 x1 x2 s = some (v, s')) : s' q = s q := by
  unfold zf54 at hF
  refine zr_al hF (fun v1 hF => ?_)
  refine zr_al hF (fun v2 hF => ?_)
  refine zr_if hF (fun hF => ?_) (fun hF => ?_)
  · refine zr_al hF (fun v3 hF => ?_)
    refine zr_bi hF (fun _ _ h => zf55_fr h) (fun v4 s5 hF => ?_)
    exact zf54_45_fr  hF
  · refine zr_if hF (fun hF => ?_) (fun hF => ?_)
    · exact zf54_45_fr  hF
    · exact zf54_45_fr  hF
theorem zf53_2_fr {q : Nat} {v : Int32} {s' : zS} {a0 : Nat}    {n : Nat} : ∀ {x1 : Int32} {x2 : Int32} {s : zS}, zf53_2 a0 n x1 x2 s = some (v, s') → s' q = s q := by
  induction n with
  | zero => intro x1 x2 s hF; rw [zf53_2] at hF; cases hF
  | succ n ih =>
    intro x1 x2 s hF
    rw [zf53_2] at hF
    refine zr_gf hF (fun v1 hF => ?_)
    refine zr_if hF (fun hF => ?_) (fun hF => ?_)
    · exact zr_ri hF
    · refine zr_bi hF (fun _ _ h => zf54_fr h) (fun v2 s3 hF => ?_)
      refine zr_if hF (fun hF => ?_) (fun hF => ?_)
      · exact ih hF
      · exact zr_ri hF
theorem zf53_fr {q : Nat} {v : Int32} {s' : zS} {a0 : Nat}  {x1 : Int32} {s : zS} (hF : zf53 a0 x1 s = some (v, s')) : s' q = s q := by
  unfold zf53 at hF
  exact zf53_2_fr  hF
theorem zf63_fr {q : Nat} {v : Int32} {s' : zS} {a0 : Nat}  {x1 : Int32} {x2 : Int32} {s : zS} (hF : zf63 a0 x1 x2 s = some (v, s')) : s' q = s q := by
  unfold zf63 at hF
  refine zr_bi hF (fun _ _ h => zf46_fr h) (fun v1 s2 hF => ?_)
  refine zr_if hF (fun hF => ?_) (fun hF => ?_)
  · exact zr_ri hF
  · refine zr_bi hF (fun _ _ h => zf57_fr h) (fun v3 s4 hF => ?_)
    refine zr_bi hF (fun _ _ h => zf49_fr h) (fun v5 s6 hF => ?_)
    refine zr_if hF (fun hF => ?_) (fun hF => ?_)
    · refine zr_bi hF (fun _ _ h => zf57_fr h) (fun v7 s8 hF => ?_)
      exact zr_ri hF
    · exact zr_ri hF
def zW62 (a0 : Nat) (q : Nat) : Bool := (q == (zrf a0 2)) || (zW41 (zrf a0 2) q || false)
theorem zf62_49_fr {q : Nat} {v : Int32} {s' : zS} {a0 : Nat} (hq : zW62 a0 q = false) {k10 : Int32 → zS → Option (Int32 × zS)} (hk10 : ∀ x1 s, k10 x1 s = some (v, s') → s' q = s q) {x1 : Int32} {x2 : Int32} {s : zS} (hF : zf62_49 a0 k10 x1 x2 s = some (v, s')) : s' q = s q := by
  unfold zf62_49 at hF
  refine zr_if hF (fun hF => ?_) (fun hF => ?_)
  · exact hk10 _ _ hF
  · refine zr_as hF (zo1 hq) (fun s1 hF => ?_)
    exact hk10 _ _ hF
theorem zf62_10_fr {q : Nat} {v : Int32} {s' : zS} {a0 : Nat} (hq : zW62 a0 q = false)   {n : Nat} : ∀ {x1 : Int32} {s : zS}, zf62_10 a0 n x1 s = some (v, s') → s' q = s q := by
  induction n with
  | zero => intro x1 s hF; rw [zf62_10] at hF; cases hF
  | succ n ih =>
    intro x1 s hF
    rw [zf62_10] at hF
    refine zr_gf hF (fun v1 hF => ?_)
    refine zr_if hF (fun hF => ?_) (fun hF => ?_)
    · exact zr_ri hF
    · refine zr_bi hF (fun _ _ h => zf63_fr h) (fun v2 s3 hF => ?_)
      refine zr_if hF (fun hF => ?_) (fun hF => ?_)
      · exact zf62_49_fr hq (fun _ _ hF => ih hF) hF
      · refine zr_al hF (fun v4 hF => ?_)
        refine zr_if hF (fun hF => ?_) (fun hF => ?_)
        · exact zf62_49_fr hq (fun _ _ hF => ih hF) hF
        · exact zr_ri hF
theorem zf62_fr {q : Nat} {v : Int32} {s' : zS} {a0 : Nat} (hq : zW62 a0 q = false)  {s : zS} (hF : zf62 a0 s = some (v, s')) : s' q = s q := by
  unfold zf62 at hF
  refine zr_bv hF (fun _ h => zf41_fr (zo1 (zo2 hq)) h) (fun s2 hF => ?_)
  exact zf62_10_fr hq hF
theorem zf64_2_fr {q : Nat} {v : Int32} {s' : zS} {a0 : Nat} {a1 : Nat}    {n : Nat} : ∀ {x2 : Int32} {x3 : Int32} {s : zS}, zf64_2 a0 a1 n x2 x3 s = some (v, s') → s' q = s q := by
  induction n with
  | zero => intro x2 x3 s hF; rw [zf64_2] at hF; cases hF
  | succ n ih =>
    intro x2 x3 s hF
    rw [zf64_2] at hF
    refine zr_gf hF (fun v1 hF => ?_)
    refine zr_if hF (fun hF => ?_) (fun hF => ?_)
    · exact zr_ri hF
    · refine zr_bi hF (fun _ _ h => zf63_fr h) (fun v2 s3 hF => ?_)
      refine zr_if hF (fun hF => ?_) (fun hF => ?_)
      · exact ih hF
      · refine zr_al hF (fun v4 hF => ?_)
        refine zr_if hF (fun hF => ?_) (fun hF => ?_)
        · exact ih hF
        · exact zr_ri hF
theorem zf64_fr {q : Nat} {v : Int32} {s' : zS} {a0 : Nat} {a1 : Nat}  {x2 : Int32} {s : zS} (hF : zf64 a0 a1 x2 s = some (v, s')) : s' q = s q := by
  unfold zf64 at hF
  exact zf64_2_fr  hF
theorem zf66_fr {q : Nat} {v : Int32} {s' : zS} {a0 : Nat}  {x1 : Int32} {s : zS} (hF : zf66 a0 x1 s = some (v, s')) : s' q = s q := by
  unfold zf66 at hF
  refine zr_bi hF (fun _ _ h => zf63_fr h) (fun v1 s2 hF => ?_)
  refine zr_if hF (fun hF => ?_) (fun hF => ?_)
  · refine zr_al hF (fun v3 hF => ?_)
    exact zr_ri hF
  · exact zr_ri hF
theorem zf65_40_fr {q : Nat} {v : Int32} {s' : zS} {a0 : Nat}  {k2 : Int32 → zS → Option (Int32 × zS)} (hk2 : ∀ x1 s, k2 x1 s = some (v, s') → s' q = s q) {x1 : Int32} {x2 : Int32} {s : zS} (hF : zf65_40 a0 k2 x1 x2 s = some (v, s')) : s' q = s q := by
  unfold zf65_40 at hF
  refine zr_if hF (fun hF => ?_) (fun hF => ?_)
  · exact hk2 _ _ hF
  · exact zr_ri hF
theorem zf65_17_fr {q : Nat} {v : Int32} {s' : zS} {a0 : Nat}  {k2 : Int32 → zS → Option (Int32 × zS)} (hk2 : ∀ x1 s, k2 x1 s = some (v, s') → s' q = s q) {n : Nat} : ∀ {x1 : Int32} {x2 : Int32} {x3 : Int32} {s : zS}, zf65_17 a0 k2 n x1 x2 x3 s = some (v, s') → s' q = s q := by
  induction n with
  | zero => intro x1 x2 x3 s hF; rw [zf65_17] at hF; cases hF
  | succ n ih =>
    intro x1 x2 x3 s hF
    rw [zf65_17] at hF
    refine zr_if hF (fun hF => ?_) (fun hF => ?_)
    · exact zf65_40_fr  hk2 hF
    · refine zr_if hF (fun hF => ?_) (fun hF => ?_)
      · exact zf65_40_fr  hk2 hF
      · refine zr_bi hF (fun _ _ h => zf66_fr h) (fun v1 s2 hF => ?_)
        exact ih hF
theorem zf65_2_fr {q : Nat} {v : Int32} {s' : zS} {a0 : Nat}    {n : Nat} : ∀ {x1 : Int32} {s : zS}, zf65_2 a0 n x1 s = some (v, s') → s' q = s q := by
  induction n with
  | zero => intro x1 s hF; rw [zf65_2] at hF; cases hF
  | succ n ih =>
    intro x1 s hF
    rw [zf65_2] at hF
    refine zr_gf hF (fun v1 hF => ?_)
    refine zr_if hF (fun hF => ?_) (fun hF => ?_)
    · exact zr_ri hF
    · exact zf65_17_fr  (fun _ _ hF => ih hF) hF
theorem zf65_fr {q : Nat} {v : Int32} {s' : zS} {a0 : Nat}   {s : zS} (hF : zf65 a0 s = some (v, s')) : s' q = s q := by
  unfold zf65 at hF
  exact zf65_2_fr  hF
def zW61 (a0 : Nat) (q : Nat) : Bool := zW62 a0 q || false
theorem zf61_31_fr {q : Nat} {v : Int32} {s' : zS} {a0 : Nat} (hq : zW61 a0 q = false)   {x1 : Int32} {s : zS} (hF : zf61_31 a0 x1 s = some (v, s')) : s' q = s q := by
  unfold zf61_31 at hF
  refine zr_if hF (fun hF => ?_) (fun hF => ?_)
  · refine zr_bi hF (fun _ _ h => zf64_fr h) (fun v1 s2 hF => ?_)
    refine zr_if hF (fun hF => ?_) (fun hF => ?_)
    · refine zr_al hF (fun v3 hF => ?_)
      exact zr_ri hF
    · exact zr_ri hF
  · refine zr_al hF (fun v4 hF => ?_)
    exact zr_ri hF
theorem zf61_21_fr {q : Nat} {v : Int32} {s' : zS} {a0 : Nat} (hq : zW61 a0 q = false)   {x1 : Int32} {s : zS} (hF : zf61_21 a0 x1 s = some (v, s')) : s' q = s q := by
  unfold zf61_21 at hF
  refine zr_if hF (fun hF => ?_) (fun hF => ?_)
  · exact zf61_31_fr hq hF
  · refine zr_bi hF (fun _ _ h => zf65_fr h) (fun v1 s2 hF => ?_)
    exact zf61_31_fr hq hF
theorem zf61_fr {q : Nat} {v : Int32} {s' : zS} {a0 : Nat} (hq : zW61 a0 q = false)  {s : zS} (hF : zf61 a0 s = some (v, s')) : s' q = s q := by
  unfold zf61 at hF
  refine zr_bi hF (fun _ _ h => zf62_fr (zo1 hq) h) (fun v1 s2 hF => ?_)
  refine zr_if hF (fun hF => ?_) (fun hF => ?_)
  · exact zf61_21_fr hq hF
  · refine zr_bi hF (fun _ _ h => zf64_fr h) (fun v3 s4 hF => ?_)
    exact zf61_21_fr hq hF
theorem zf69_4_fr {q : Nat} {v : Int32} {s' : zS} {a0 : Nat}    {n : Nat} : ∀ {x1 : Int32} {x2 : Int32} {x3 : Int32} {s : zS}, zf69_4 a0 n x1 x2 x3 s = some (v, s') → s' q = s q := by
  induction n with
  | zero => intro x1 x2 x3 s hF; rw [zf69_4] at hF; cases hF
  | succ n ih =>
    intro x1 x2 x3 s hF
    rw [zf69_4] at hF
    refine zr_al hF (fun v1 hF => ?_)
    refine zr_if hF (fun hF => ?_) (fun hF => ?_)
    · exact zr_ri hF
    · refine zr_bi hF (fun _ _ h => zf57_fr h) (fun v2 s3 hF => ?_)
      exact ih hF
theorem zf69_fr {q : Nat} {v : Int32} {s' : zS} {a0 : Nat}  {x1 : Int32} {s : zS} (hF : zf69 a0 x1 s = some (v, s')) : s' q = s q := by
  unfold zf69 at hF
  exact zf69_4_fr  hF
theorem zf68_5_fr {q : Nat} {v : Int32} {s' : zS} {a0 : Nat}    {n : Nat} : ∀ {x2 : Int32} {x3 : Int32} {x4 : Int32} {s : zS}, zf68_5 a0 n x2 x3 x4 s = some (v, s') → s' q = s q := by
  induction n with
  | zero => intro x2 x3 x4 s hF; rw [zf68_5] at hF; cases hF
  | succ n ih =>
    intro x2 x3 x4 s hF
    rw [zf68_5] at hF
    refine zr_if hF (fun hF => ?_) (fun hF => ?_)
    · exact zr_ri hF
    · refine zr_if hF (fun hF => ?_) (fun hF => ?_)
      · exact zr_ri hF
      · refine zr_bi hF (fun _ _ h => zf46_fr h) (fun v1 s2 hF => ?_)
        refine zr_if hF (fun hF => ?_) (fun hF => ?_)
        · refine zr_bi hF (fun _ _ h => zf66_fr h) (fun v3 s4 hF => ?_)
          exact ih hF
        · refine zr_bi hF (fun _ _ h => zf69_fr h) (fun v5 s6 hF => ?_)
          exact zr_ri hF
theorem zf68_fr {q : Nat} {v : Int32} {s' : zS} {a0 : Nat}  {x1 : Int32} {x2 : Int32} {s : zS} (hF : zf68 a0 x1 x2 s = some (v, s')) : s' q = s q := by
  unfold zf68 at hF
  exact zf68_5_fr  hF
def zW67 (a0 : Nat) (q : Nat) : Bool := (q == (zrf a0 3)) || ((q == (zrf a0 4)) || ((q == (zrf a0 5)) || false))
theorem zf67_2_fr {q : Nat} {s' : zS} {a0 : Nat} (hq : zW67 a0 q = false)   {n : Nat} : ∀ {x1 : Int32} {s : zS}, zf67_2 a0 n x1 s = some s' → s' q = s q := by
  induction n with
  | zero => intro x1 s hF; rw [zf67_2] at hF; cases hF
  | succ n ih =>
    intro x1 s hF
    rw [zf67_2] at hF
    refine zr_if hF (fun hF => ?_) (fun hF => ?_)
    · exact zr_rv hF
    · refine zr_al hF (fun v1 hF => ?_)
      refine zr_bi hF (fun _ _ h => zf68_fr h) (fun v2 s3 hF => ?_)
      refine zr_as hF (zo1 hq) (fun s4 hF => ?_)
      refine zr_al hF (fun v5 hF => ?_)
      refine zr_bi hF (fun _ _ h => zf68_fr h) (fun v6 s7 hF => ?_)
      refine zr_as hF (zo1 (zo2 hq)) (fun s8 hF => ?_)
      refine zr_al hF (fun v9 hF => ?_)
      refine zr_bi hF (fun _ _ h => zf68_fr h) (fun v10 s11 hF => ?_)
      refine zr_as hF (zo1 (zo2 (zo2 hq))) (fun s12 hF => ?_)
      exact ih hF
theorem zf67_fr {q : Nat} {s' : zS} {a0 : Nat} (hq : zW67 a0 q = false)  {s : zS} (hF : zf67 a0 s = some s') : s' q = s q := by
  unfold zf67 at hF
  exact zf67_2_fr hq hF
def zW71 (a0 : Nat) (q : Nat) : Bool := (q == a0) || (zW15 (zrf a0 5) q || false)
theorem zf71_fr {q : Nat} {s' : zS} {a0 : Nat} (hq : zW71 a0 q = false)  {s : zS} (hF : zf71 a0 s = some s') : s' q = s q := by
  unfold zf71 at hF
  refine zr_pf hF (zo1 hq) (fun s1 hF => ?_)
  refine zr_bv hF (fun _ h => zf15_fr (zo1 (zo2 hq)) h) (fun s3 hF => ?_)
  exact zr_rv hF
theorem zf74_fr {q : Nat} {v : Int32} {s' : zS}   {x0 : Int32} {x1 : Int32} {s : zS} (hF : zf74 x0 x1 s = some (v, s')) : s' q = s q := by
  unfold zf74 at hF
  refine zr_if hF (fun hF => ?_) (fun hF => ?_)
  · refine zr_if hF (fun hF => ?_) (fun hF => ?_)
    · exact zr_ri hF
    · exact zr_ri hF
  · exact zr_ri hF
theorem zf73_94_fr {q : Nat} {v : Int32} {s' : zS} {a0 : Nat}    {x4 : Int32} {x5 : Int32} {t0 : Int32} {s : zS} (hF : zf73_94 a0 x4 x5 t0 s = some (v, s')) : s' q = s q := by
  unfold zf73_94 at hF
  exact zr_ri hF
theorem zf73_68_fr {q : Nat} {v : Int32} {s' : zS} {a0 : Nat}    {x2 : Int32} {x3 : Int32} {x4 : Int32} {t0 : Int32} {s : zS} (hF : zf73_68 a0 x2 x3 x4 t0 s = some (v, s')) : s' q = s q := by
  unfold zf73_68 at hF
  refine zr_al hF (fun v1 hF => ?_)
  refine zr_if hF (fun hF => ?_) (fun hF => ?_)
  · refine zr_bi hF (fun _ _ h => zf74_fr h) (fun v2 s3 hF => ?_)
    exact zf73_94_fr  hF
  · refine zr_al hF (fun v4 hF => ?_)
    exact zf73_94_fr  hF
theorem zf73_42_fr {q : Nat} {v : Int32} {s' : zS} {a0 : Nat}    {x2 : Int32} {x3 : Int32} {t0 : Int32} {s : zS} (hF : zf73_42 a0 x2 x3 t0 s = some (v, s')) : s' q = s q := by
  unfold zf73_42 at hF
  refine zr_al hF (fun v1 hF => ?_)
  refine zr_if hF (fun hF => ?_) (fun hF => ?_)
  · refine zr_bi hF (fun _ _ h => zf74_fr h) (fun v2 s3 hF => ?_)
    exact zf73_68_fr  hF
  · refine zr_al hF (fun v4 hF => ?_)
    exact zf73_68_fr  hF
theorem zf73_fr {q : Nat} {v : Int32} {s' : zS} {a0 : Nat}  {x1 : Int32} {x2 : Int32} {s : zS} (hF : zf73 a0 x1 x2 s = some (v, s')) : s' q = s q := by
  unfold zf73 at hF
  refine zr_bi hF (fun _ _ h => zf63_fr h) (fun v1 s2 hF => ?_)
  refine zr_if hF (fun hF => ?_) (fun hF => ?_)
  · refine zr_al hF (fun v3 hF => ?_)
    refine zr_if hF (fun hF => ?_) (fun hF => ?_)
    · refine zr_bi hF (fun _ _ h => zf74_fr h) (fun v4 s5 hF => ?_)
      exact zf73_42_fr  hF
    · refine zr_al hF (fun v6 hF => ?_)
      exact zf73_42_fr  hF
  · exact zr_ri hF
def zW75 (a0 : Nat) (q : Nat) : Bool := (q == (zrf a0 0)) || ((q == (zrf a0 1)) || ((q == (zrf a0 2)) || ((q == (zrf a0 3)) || ((q == (zrf a0 4)) || ((q == a0) || false)))))
theorem zf75_fr {q : Nat} {v : Int32} {s' : zS} {a0 : Nat} (hq : zW75 a0 q = false) {x1 : Int32} {x2 : Int32} {x3 : Int32} {s : zS} (hF : zf75 a0 x1 x2 x3 s = some (v, s')) : s' q = s q := by
  unfold zf75 at hF
  refine zr_gf hF (fun v1 hF => ?_)
  refine zr_if hF (fun hF => ?_) (fun hF => ?_)
  · refine zr_gf hF (fun v2 hF => ?_)
    refine zr_as hF (zo1 hq) (fun s3 hF => ?_)
    refine zr_gf hF (fun v4 hF => ?_)
    refine zr_as hF (zo1 (zo2 hq)) (fun s5 hF => ?_)
    refine zr_gf hF (fun v6 hF => ?_)
    refine zr_as hF (zo1 (zo2 (zo2 hq))) (fun s7 hF => ?_)
    refine zr_gf hF (fun v8 hF => ?_)
    refine zr_gf hF (fun v9 hF => ?_)
    refine zr_as hF (zo1 (zo2 (zo2 (zo2 hq)))) (fun s10 hF => ?_)
    refine zr_gf hF (fun v11 hF => ?_)
    refine zr_as hF (zo1 (zo2 (zo2 (zo2 (zo2 hq))))) (fun s12 hF => ?_)
    refine zr_gf hF (fun v13 hF => ?_)
    refine zr_pf hF (zo1 (zo2 (zo2 (zo2 (zo2 (zo2 hq)))))) (fun s14 hF => ?_)
    exact zr_rb hF
  · exact zr_rb hF
def zW72 (a0 : Nat) (q : Nat) : Bool := (q == (zrf a0 3)) || ((q == (zrf a0 4)) || (zW75 (zrf a0 2) q || ((q == a0) || false)))
theorem zf72_129_fr {q : Nat} {v : Int32} {s' : zS} {a0 : Nat} (hq : zW72 a0 q = false)   {t0 : Int32} {t1 : Int32} {t3 : Int32} {s : zS} (hF : zf72_129 a0 t0 t1 t3 s = some (v, s')) : s' q = s q := by
  unfold zf72_129 at hF
  refine zr_bi hF (fun _ _ h => zf73_fr h) (fun v1 s2 hF => ?_)
  refine zr_as hF (zo1 hq) (fun s3 hF => ?_)
  exact zr_rb hF
theorem zf72_25_fr {q : Nat} {v : Int32} {s' : zS} {a0 : Nat} (hq : zW72 a0 q = false)   {x1 : Int32} {x2 : Int32} {t0 : Int32} {s : zS} (hF : zf72_25 a0 x1 x2 t0 s = some (v, s')) : s' q = s q := by
  unfold zf72_25 at hF
  refine zr_gf hF (fun v1 hF => ?_)
  refine zr_as hF (zo1 (zo2 hq)) (fun s2 hF => ?_)
  refine zr_as hF (zo1 hq) (fun s3 hF => ?_)
  refine zr_al hF (fun v4 hF => ?_)
  refine zr_if hF (fun hF => ?_) (fun hF => ?_)
  · refine zr_bi hF (fun _ _ h => zf75_fr (zo1 (zo2 (zo2 hq))) h) (fun v5 s6 hF => ?_)
    exact zr_rb hF
  · refine zr_if hF (fun hF => ?_) (fun hF => ?_)
    · refine zr_bi hF (fun _ _ h => zf75_fr (zo1 (zo2 (zo2 hq))) h) (fun v7 s8 hF => ?_)
      exact zr_rb hF
    · refine zr_if hF (fun hF => ?_) (fun hF => ?_)
      · refine zr_gf hF (fun v9 hF => ?_)
        refine zr_pf hF (zo1 (zo2 (zo2 (zo2 hq)))) (fun s10 hF => ?_)
        refine zr_bi hF (fun _ _ h => zf73_fr h) (fun v11 s12 hF => ?_)
        refine zr_as hF (zo1 hq) (fun s13 hF => ?_)
        refine zr_al hF (fun v14 hF => ?_)
        refine zr_bi hF (fun _ _ h => zf75_fr (zo1 (zo2 (zo2 hq))) h) (fun v15 s16 hF => ?_)
        exact zr_rb hF
      · refine zr_if hF (fun hF => ?_) (fun hF => ?_)
        · refine zr_as hF (zo1 (zo2 hq)) (fun s17 hF => ?_)
          refine zr_if hF (fun hF => ?_) (fun hF => ?_)
          · refine zr_al hF (fun v18 hF => ?_)
            exact zf72_129_fr hq hF
          · exact zf72_129_fr hq hF
        · refine zr_bi hF (fun _ _ h => zf75_fr (zo1 (zo2 (zo2 hq))) h) (fun v19 s20 hF => ?_)
          exact zr_rb hF
theorem zf72_fr {q : Nat} {v : Int32} {s' : zS} {a0 : Nat} (hq : zW72 a0 q = false) {x1 : Int32} {s : zS} (hF : zf72 a0 x1 s = some (v, s')) : s' q = s q := by
  unfold zf72 at hF
  refine zr_al hF (fun v1 hF => ?_)
  refine zr_if hF (fun hF => ?_) (fun hF => ?_)
  · refine zr_al hF (fun v2 hF => ?_)
    exact zf72_25_fr hq hF
  · exact zf72_25_fr hq hF
theorem zf77_fr {q : Nat} {v : Int32} {s' : zS} {a0 : Nat}  {x1 : Int32} {s : zS} (hF : zf77 a0 x1 s = some (v, s')) : s' q = s q := by
  unfold zf77 at hF
  refine zr_gf hF (fun v1 hF => ?_)
  refine zr_if hF (fun hF => ?_) (fun hF => ?_)
  · exact zr_rb hF
  · refine zr_gf hF (fun v2 hF => ?_)
    refine zr_al hF (fun v3 hF => ?_)
    refine zr_if hF (fun hF => ?_) (fun hF => ?_)
    · exact zr_rb hF
    · refine zr_gf hF (fun v4 hF => ?_)
      refine zr_al hF (fun v5 hF => ?_)
      refine zr_if hF (fun hF => ?_) (fun hF => ?_)
      · exact zr_rb hF
      · exact zr_rb hF
