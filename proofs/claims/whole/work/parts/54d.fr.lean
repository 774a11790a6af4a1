/-! What the methods leave alone: zW<y> says of a place whether the method may write there (printed by wip/gen/fgen.py). -/
set_option maxRecDepth 100000
set_option linter.unusedVariables false
def zW198 (a0 : Nat) (q : Nat) : Bool := zW190 a0 q || (zW199 a0 q || false)
theorem zf198_fr {q : Nat} {s' : zS} {a0 : Nat} (hq : zW198 a0 q = false) {x1 : Int32} {x2 : Int32} {x3 : Int32} {x4 : Int32} {s : zS} (hF : zf198 a0 x1 x2 x3 x4 s = some s') : s' q = s q := by
  unfold zf198 at hF
  refine zr_al hF (fun v1 hF => ?_)
  refine zr_bv hF (fun _ h => zf190_fr (zo1 hq) h) (fun s3 hF => ?_)
  refine zr_al hF (fun v4 hF => ?_)
  refine zr_bv hF (fun _ h => zf199_fr (zo1 (zo2 hq)) h) (fun s6 hF => ?_)
  exact zr_rv hF
def zW152 (a0 : Nat) (q : Nat) : Bool := (q == a0) || (zW198 a0 q || ((q == (zrf a0 22)) || ((q == (zrf a0 28)) || (zW153 a0 q || (zW173 a0 q || false)))))
theorem zf152_72_fr {q : Nat} {v : Int32} {s' : zS} {a0 : Nat} (hq : zW152 a0 q = false)   {n : Nat} : ∀ {x1 : Int32} {x3 : Int32} {s : zS}, zf152_72 a0 n x1 x3 s = some (v, s') → s' q = s q := by
  induction n with
  | zero => intro x1 x3 s hF; rw [zf152_72] at hF; cases hF
  | succ n ih =>
    intro x1 x3 s hF
    rw [zf152_72] at hF
    refine zr_al hF (fun v1 hF => ?_)
    refine zr_if hF (fun hF => ?_) (fun hF => ?_)
    · refine zr_pb hF (zo1 hq) (fun s2 hF => ?_)
      exact zr_ri hF
    · refine zr_al hF (fun v3 hF => ?_)
      refine zr_bv hF (fun _ h => zf198_fr (zo1 (zo2 hq)) h) (fun s5 hF => ?_)
      exact ih hF
theorem zf152_49_fr {q : Nat} {v : Int32} {s' : zS} {a0 : Nat} (hq : zW152 a0 q = false)   {x1 : Int32} {t0 : Int32} {s : zS} (hF : zf152_49 a0 x1 t0 s = some (v, s')) : s' q = s q := by
  unfold zf152_49 at hF
  refine zr_if hF (fun hF => ?_) (fun hF => ?_)
  · refine zr_as hF (zo1 (zo2 (zo2 hq))) (fun s1 hF => ?_)
    refine zr_as hF (zo1 (zo2 (zo2 (zo2 hq)))) (fun s2 hF => ?_)
    exact zf152_72_fr hq hF
  · exact zr_ri hF
theorem zf152_15_fr {q : Nat} {v : Int32} {s' : zS} {a0 : Nat} (hq : zW152 a0 q = false)   {x1 : Int32} {t0 : Int32} {s : zS} (hF : zf152_15 a0 x1 t0 s = some (v, s')) : s' q = s q := by
  unfold zf152_15 at hF
  refine zr_pf hF (zo1 hq) (fun s1 hF => ?_)
  refine zr_gf hF (fun v2 hF => ?_)
  refine zr_if hF (fun hF => ?_) (fun hF => ?_)
  · refine zr_pf hF (zo1 hq) (fun s3 hF => ?_)
    refine zr_bi hF (fun _ _ h => zf153_fr (zo1 (zo2 (zo2 (zo2 (zo2 hq))))) h) (fun v4 s5 hF => ?_)
    refine zr_if hF (fun hF => ?_) (fun hF => ?_)
    · exact zf152_49_fr hq hF
    · refine zr_bi hF (fun _ _ h => zf173_fr (zo1 (zo2 (zo2 (zo2 (zo2 (zo2 hq)))))) h) (fun v6 s7 hF => ?_)
      exact zf152_49_fr hq hF
  · exact zr_ri hF
theorem zf152_fr {q : Nat} {v : Int32} {s' : zS} {a0 : Nat} (hq : zW152 a0 q = false) {x1 : Int32} {s : zS} (hF : zf152 a0 x1 s = some (v, s')) : s' q = s q := by
  unfold zf152 at hF
  refine zr_if hF (fun hF => ?_) (fun hF => ?_)
  · exact zf152_15_fr hq hF
  · refine zr_if hF (fun hF => ?_) (fun hF => ?_)
    · exact zf152_15_fr hq hF
    · exact zf152_15_fr hq hF
def zW200 (a0 : Nat) (q : Nat) : Bool := (q == a0) || false
theorem zf200_fr {q : Nat} {v : Int32} {s' : zS} {a0 : Nat} (hq : zW200 a0 q = false)  {s : zS} (hF : zf200 a0 s = some (v, s')) : s' q = s q := by
  unfold zf200 at hF
  refine zr_pf hF (zo1 hq) (fun s1 hF => ?_)
  refine zr_gf hF (fun v2 hF => ?_)
  exact zr_ri hF
theorem zf202_fr {q : Nat} {v : Int32} {s' : zS}   {x0 : Int32} {s : zS} (hF : zf202 x0 s = some (v, s')) : s' q = s q := by
  unfold zf202 at hF
  refine zr_if hF (fun hF => ?_) (fun hF => ?_)
  · exact zr_rb hF
  · refine zr_if hF (fun hF => ?_) (fun hF => ?_)
    · exact zr_rb hF
    · exact zr_rb hF
def zW201 (a0 : Nat) (q : Nat) : Bool := (q == a0) || false
theorem zf201_13_fr {q : Nat} {v : Int32} {s' : zS} {a0 : Nat} (hq : zW201 a0 q = false)   {x1 : Int32} {t0 : Int32} {s : zS} (hF : zf201_13 a0 x1 t0 s = some (v, s')) : s' q = s q := by
  unfold zf201_13 at hF
  refine zr_pf hF (zo1 hq) (fun s1 hF => ?_)
  refine zr_gf hF (fun v2 hF => ?_)
  refine zr_if hF (fun hF => ?_) (fun hF => ?_)
  · exact zr_ri hF
  · refine zr_al hF (fun v3 hF => ?_)
    exact zr_ri hF
theorem zf201_fr {q : Nat} {v : Int32} {s' : zS} {a0 : Nat} (hq : zW201 a0 q = false) {x1 : Int32} {s : zS} (hF : zf201 a0 x1 s = some (v, s')) : s' q = s q := by
  unfold zf201 at hF
  refine zr_bi hF (fun _ _ h => zf202_fr h) (fun v1 s2 hF => ?_)
  refine zr_if hF (fun hF => ?_) (fun hF => ?_)
  · exact zf201_13_fr hq hF
  · exact zf201_13_fr hq hF
def zW204 (a0 : Nat) (q : Nat) : Bool := (q == a0) || false
theorem zf204_31_fr {q : Nat} {v : Int32} {s' : zS} {a0 : Nat} (hq : zW204 a0 q = false)   {t0 : Int32} {s : zS} (hF : zf204_31 a0 t0 s = some (v, s')) : s' q = s q := by
  unfold zf204_31 at hF
  refine zr_pf hF (zo1 hq) (fun s1 hF => ?_)
  refine zr_gf hF (fun v2 hF => ?_)
  refine zr_if hF (fun hF => ?_) (fun hF => ?_)
  · exact zr_rb hF
  · exact zr_rb hF
theorem zf204_fr {q : Nat} {v : Int32} {s' : zS} {a0 : Nat} (hq : zW204 a0 q = false) {x1 : Int32} {x2 : Int32} {s : zS} (hF : zf204 a0 x1 x2 s = some (v, s')) : s' q = s q := by
  unfold zf204 at hF
  refine zr_bi hF (fun _ _ h => zf202_fr h) (fun v1 s2 hF => ?_)
  refine zr_if hF (fun hF => ?_) (fun hF => ?_)
  · refine zr_if hF (fun hF => ?_) (fun hF => ?_)
    · exact zf204_31_fr hq hF
    · refine zr_al hF (fun v3 hF => ?_)
      refine zr_if hF (fun hF => ?_) (fun hF => ?_)
      · exact zf204_31_fr hq hF
      · exact zf204_31_fr hq hF
  · exact zf204_31_fr hq hF
def zW203 (a0 : Nat) (q : Nat) : Bool := zW204 a0 q || false
theorem zf203_fr {q : Nat} {v : Int32} {s' : zS} {a0 : Nat} (hq : zW203 a0 q = false) {x1 : Int32} {x2 : Int32} {s : zS} (hF : zf203 a0 x1 x2 s = some (v, s')) : s' q = s q := by
  unfold zf203 at hF
  refine zr_bi hF (fun _ _ h => zf204_fr (zo1 hq) h) (fun v1 s2 hF => ?_)
  refine zr_if hF (fun hF => ?_) (fun hF => ?_)
  · exact zr_ri hF
  · refine zr_al hF (fun v3 hF => ?_)
    exact zr_ri hF
def zW205 (a0 : Nat) (q : Nat) : Bool := zW204 a0 q || false
theorem zf205_fr {q : Nat} {v : Int32} {s' : zS} {a0 : Nat} (hq : zW205 a0 q = false) {x1 : Int32} {x2 : Int32} {s : zS} (hF : zf205 a0 x1 x2 s = some (v, s')) : s' q = s q := by
  unfold zf205 at hF
  refine zr_bi hF (fun _ _ h => zf204_fr (zo1 hq) h) (fun v1 s2 hF => ?_)
  refine zr_if hF (fun hF => ?_) (fun hF => ?_)
  · exact zr_ri hF
  · refine zr_al hF (fun v3 hF => ?_)
    exact zr_ri hF
def zW207 (a0 : Nat) (q : Nat) : Bool := (q == a0) || false
theorem zf207_fr {q : Nat} {v : Int32} {s' : zS} {a0 : Nat} (hq : zW207 a0 q = false) {x1 : Int32} {s : zS} (hF : zf207 a0 x1 s = some (v, s')) : s' q = s q := by
  unfold zf207 at hF
  refine zr_pf hF (zo1 hq) (fun s1 hF => ?_)
  exact zr_ri hF
def zW206 (a0 : Nat) (q : Nat) : Bool := zW207 a0 q || (zW204 a0 q || false)
theorem zf206_9_fr {q : Nat} {v : Int32} {s' : zS} {a0 : Nat} (hq : zW206 a0 q = false)    {s : zS} (hF : zf206_9 a0 s = some (v, s')) : s' q = s q := by
  unfold zf206_9 at hF
  refine zr_bi hF (fun _ _ h => zf207_fr (zo1 hq) h) (fun v1 s2 hF => ?_)
  exact zr_ri hF
theorem zf206_fr {q : Nat} {v : Int32} {s' : zS} {a0 : Nat} (hq : zW206 a0 q = false) {x1 : Int32} {x2 : Int32} {x3 : Int32} {s : zS} (hF : zf206 a0 x1 x2 x3 s = some (v, s')) : s' q = s q := by
  unfold zf206 at hF
  refine zr_if hF (fun hF => ?_) (fun hF => ?_)
  · exact zf206_9_fr hq hF
  · refine zr_if hF (fun hF => ?_) (fun hF => ?_)
    · refine zr_bi hF (fun _ _ h => zf204_fr (zo1 (zo2 hq)) h) (fun v1 s2 hF => ?_)
      refine zr_if hF (fun hF => ?_) (fun hF => ?_)
      · exact zr_ri hF
      · refine zr_al hF (fun v3 hF => ?_)
        exact zr_ri hF
    · exact zf206_9_fr hq hF
def zW208 (a0 : Nat) (q : Nat) : Bool := zW204 a0 q || false
theorem zf208_fr {q : Nat} {v : Int32} {s' : zS} {a0 : Nat} (hq : zW208 a0 q = false) {x1 : Int32} {x2 : Int32} {s : zS} (hF : zf208 a0 x1 x2 s = some (v, s')) : s' q = s q := by
  unfold zf208 at hF
  refine zr_bi hF (fun _ _ h => zf204_fr (zo1 hq) h) (fun v1 s2 hF => ?_)
  refine zr_if hF (fun hF => ?_) (fun hF => ?_)
  · exact zr_ri hF
  · refine zr_al hF (fun v3 hF => ?_)
    exact zr_ri hF
def zW209 (a0 : Nat) (q : Nat) : Bool := zW204 a0 q || false
theorem zf209_fr {q : Nat} {v : Int32} {s' : zS} {a0 : Nat} (hq : zW209 a0 q = false) {x1 : Int32} {x2 : Int32} {x3 : Int32} {s : zS} (hF : zf209 a0 x1 x2 x3 s = some (v, s')) : s' q = s q := by
  unfold zf209 at hF
  refine zr_bi hF (fun _ _ h => zf204_fr (zo1 hq) h) (fun v1 s2 hF => ?_)
  refine zr_if hF (fun hF => ?_) (fun hF => ?_)
  · refine zr_if hF (fun hF => ?_) (fun hF => ?_)
    · exact zr_ri hF
    · refine zr_al hF (fun v3 hF => ?_)
      refine zr_if hF (fun hF => ?_) (fun hF => ?_)
      · exact zr_ri hF
      · refine zr_al hF (fun v4 hF => ?_)
        refine zr_al hF (fun v5 hF => ?_)
        exact zr_ri hF
  · exact zr_ri hF
def zW211 (a0 : Nat) (q : Nat) : Bool := (q == (zrf a0 37)) || false
theorem zf211_51_fr {q : Nat} {s' : zS} {a0 : Nat} (hq : zW211 a0 q = false)   {n : Nat} : ∀ {x1 : Int32} {x2 : Int32} {s : zS}, zf211_51 a0 n x1 x2 s = some s' → s' q = s q := by
  induction n with
  | zero => intro x1 x2 s hF; rw [zf211_51] at hF; cases hF
  | succ n ih =>
    intro x1 x2 s hF
    rw [zf211_51] at hF
    refine zr_if hF (fun hF => ?_) (fun hF => ?_)
    · exact zr_rv hF
    · refine zr_al hF (fun v1 hF => ?_)
      refine zr_al hF (fun v2 hF => ?_)
      refine zr_al hF (fun v3 hF => ?_)
      refine zr_as hF (zo1 hq) (fun s4 hF => ?_)
      exact ih hF
theorem zf211_2_fr {q : Nat} {s' : zS} {a0 : Nat} (hq : zW211 a0 q = false)   {n : Nat} : ∀ {x1 : Int32} {x2 : Int32} {s : zS}, zf211_2 a0 n x1 x2 s = some s' → s' q = s q := by
  induction n with
  | zero => intro x1 x2 s hF; rw [zf211_2] at hF; cases hF
  | succ n ih =>
    intro x1 x2 s hF
    rw [zf211_2] at hF
    refine zr_al hF (fun v1 hF => ?_)
    refine zr_if hF (fun hF => ?_) (fun hF => ?_)
    · refine zr_al hF (fun v2 hF => ?_)
      exact zf211_51_fr hq hF
    · refine zr_al hF (fun v3 hF => ?_)
      refine zr_as hF (zo1 hq) (fun s4 hF => ?_)
      exact ih hF
theorem zf211_fr {q : Nat} {s' : zS} {a0 : Nat} (hq : zW211 a0 q = false) {x1 : Int32} {s : zS} (hF : zf211 a0 x1 s = some s') : s' q = s q := by
  unfold zf211 at hF
  exact zf211_2_fr hq hF
theorem zf214_fr {q : Nat} {v : Int32} {s' : zS} {a0 : Nat}  {x1 : Int32} {x2 : Int32} {s : zS} (hF : zf214 a0 x1 x2 s = some (v, s')) : s' q = s q := by
  unfold zf214 at hF
  refine zr_gf hF (fun v1 hF => ?_)
  refine zr_if hF (fun hF => ?_) (fun hF => ?_)
  · exact zr_rb hF
  · refine zr_gf hF (fun v2 hF => ?_)
    refine zr_if hF (fun hF => ?_) (fun hF => ?_)
    · exact zr_rb hF
    · refine zr_al hF (fun v3 hF => ?_)
      refine zr_al hF (fun v4 hF => ?_)
      refine zr_al hF (fun v5 hF => ?_)
      refine zr_al hF (fun v6 hF => ?_)
      refine zr_if hF (fun hF => ?_) (fun hF => ?_)
      · exact zr_rb hF
      · exact zr_rb hF
def zW213 (a0 : Nat) (q : Nat) : Bool := (q == (zrf a0 43)) || ((q == (zrf a0 40)) || ((q == a0) || ((q == (zrf a0 39)) || false)))
theorem zf213_350_fr {q : Nat} {s' : zS} {a0 : Nat} (hq : zW213 a0 q = false) {k118 : Int32 → zS → Option (zS)} {k128 : Int32 → Int32 → zS → Option (zS)} (hk118 : ∀ x3 s, k118 x3 s = some s' → s' q = s q) (hk128 : ∀ x3 x4 s, k128 x3 x4 s = some s' → s' q = s q) {x3 : Int32} {x4 : Int32} {t0 : Int32} {s : zS} (hF : zf213_350 a0 k118 k128 x3 x4 t0 s = some s') : s' q = s q := by
  unfold zf213_350 at hF
  refine zr_as hF (zo1 hq) (fun s1 hF => ?_)
  exact hk128 _ _ _ hF
theorem zf213_334_fr {q : Nat} {s' : zS} {a0 : Nat} (hq : zW213 a0 q = false) {k118 : Int32 → zS → Option (zS)} {k128 : Int32 → Int32 → zS → Option (zS)} (hk118 : ∀ x3 s, k118 x3 s = some s' → s' q = s q) (hk128 : ∀ x3 x4 s, k128 x3 x4 s = some s' → s' q = s q) {x3 : Int32} {x4 : Int32} {x5 : Int32} {t0 : Int32} {s : zS} (hF : zf213_334 a0 k118 k128 x3 x4 x5 t0 s = some s') : s' q = s q := by
  unfold zf213_334 at hF
  refine zr_if hF (fun hF => ?_) (fun hF => ?_)
  · exact zf213_350_fr hq hk118 hk128 hF
  · exact zf213_350_fr hq hk118 hk128 hF
theorem zf213_277_fr {q : Nat} {s' : zS} {a0 : Nat} (hq : zW213 a0 q = false) {k118 : Int32 → zS → Option (zS)} {k128 : Int32 → Int32 → zS → Option (zS)} (hk118 : ∀ x3 s, k118 x3 s = some s' → s' q = s q) (hk128 : ∀ x3 x4 s, k128 x3 x4 s = some s' → s' q = s q) {x3 : Int32} {x4 : Int32} {t0 : Int32} {s : zS} (hF : zf213_277 a0 k118 k128 x3 x4 t0 s = some s') : s' q = s q := by
  unfold zf213_277 at hF
  refine zr_bi hF (fun _ _ h => zf214_fr h) (fun v1 s2 hF => ?_)
  refine zr_if hF (fun hF => ?_) (fun hF => ?_)
  · exact zf213_334_fr hq hk118 hk128 hF
  · refine zr_al hF (fun v3 hF => ?_)
    refine zr_al hF (fun v4 hF => ?_)
    refine zr_al hF (fun v5 hF => ?_)
    refine zr_al hF (fun v6 hF => ?_)
    exact zf213_334_fr hq hk118 hk128 hF
theorem zf213_261_fr {q : Nat} {s' : zS} {a0 : Nat} (hq : zW213 a0 q = false) {k118 : Int32 → zS → Option (zS)} {k128 : Int32 → Int32 → zS → Option (zS)} (hk118 : ∀ x3 s, k118 x3 s = some s' → s' q = s q) (hk128 : ∀ x3 x4 s, k128 x3 x4 s = some s' → s' q = s q) {x3 : Int32} {x4 : Int32} {x5 : Int32} {t0 : Int32} {s : zS} (hF : zf213_261 a0 k118 k128 x3 x4 x5 t0 s = some s') : s' q = s q := by
  unfold zf213_261 at hF
  refine zr_if hF (fun hF => ?_) (fun hF => ?_)
  · exact zf213_277_fr hq hk118 hk128 hF
  · exact zf213_277_fr hq hk118 hk128 hF
theorem zf213_215_fr {q : Nat} {s' : zS} {a0 : Nat} (hq : zW213 a0 q = false) {k118 : Int32 → zS → Option (zS)} {k128 : Int32 → Int32 → zS → Option (zS)} (hk118 : ∀ x3 s, k118 x3 s = some s' → s' q = s q) (hk128 : ∀ x3 x4 s, k128 x3 x4 s = some s' → s' q = s q) {x3 : Int32} {x4 : Int32} {t0 : Int32} {s : zS} (hF : zf213_215 a0 k118 k128 x3 x4 t0 s = some s') : s' q = s q := by
  unfold zf213_215 at hF
  refine zr_gf hF (fun v1 hF => ?_)
  refine zr_if hF (fun hF => ?_) (fun hF => ?_)
  · exact zf213_261_fr hq hk118 hk128 hF
  · refine zr_al hF (fun v2 hF => ?_)
    refine zr_al hF (fun v3 hF => ?_)
    refine zr_al hF (fun v4 hF => ?_)
    exact zf213_261_fr hq hk118 hk128 hF
theorem zf213_199_fr {q : Nat} {s' : zS} {a0 : Nat} (hq : zW213 a0 q = false) {k118 : Int32 → zS → Option (zS)} {k128 : Int32 → Int32 → zS → Option (zS)} (hk118 : ∀ x3 s, k118 x3 s = some s' → s' q = s q) (hk128 : ∀ x3 x4 s, k128 x3 x4 s = some s' → s' q = s q) {x3 : Int32} {x4 : Int32} {x5 : Int32} {t0 : Int32} {s : zS} (hF : zf213_199 a0 k118 k128 x3 x4 x5 t0 s = some s') : s' q = s q := by
  unfold zf213_199 at hF
  refine zr_if hF (fun hF => ?_) (fun hF => ?_)
  · exact zf213_215_fr hq hk118 hk128 hF
  · exact zf213_215_fr hq hk118 hk128 hF
theorem zf213_157_fr {q : Nat} {s' : zS} {a0 : Nat} (hq : zW213 a0 q = false) {k118 : Int32 → zS → Option (zS)} {k128 : Int32 → Int32 → zS → Option (zS)} (hk118 : ∀ x3 s, k118 x3 s = some s' → s' q = s q) (hk128 : ∀ x3 x4 s, k128 x3 x4 s = some s' → s' q = s q) {x3 : Int32} {x4 : Int32} {t0 : Int32} {s : zS} (hF : zf213_157 a0 k118 k128 x3 x4 t0 s = some s') : s' q = s q := by
  unfold zf213_157 at hF
  refine zr_gf hF (fun v1 hF => ?_)
  refine zr_if hF (fun hF => ?_) (fun hF => ?_)
  · exact zf213_199_fr hq hk118 hk128 hF
  · refine zr_al hF (fun v2 hF => ?_)
    refine zr_al hF (fun v3 hF => ?_)
    refine zr_al hF (fun v4 hF => ?_)
    exact zf213_199_fr hq hk118 hk128 hF
theorem zf213_128_fr {q : Nat} {s' : zS} {a0 : Nat} (hq : zW213 a0 q = false) {k118 : Int32 → zS → Option (zS)} (hk118 : ∀ x3 s, k118 x3 s = some s' → s' q = s q) {n : Nat} : ∀ {x3 : Int32} {x4 : Int32} {s : zS}, zf213_128 a0 k118 n x3 x4 s = some s' → s' q = s q := by
  induction n with
  | zero => intro x3 x4 s hF; rw [zf213_128] at hF; cases hF
  | succ n ih =>
    intro x3 x4 s hF
    rw [zf213_128] at hF
    refine zr_if hF (fun hF => ?_) (fun hF => ?_)
    · exact hk118 _ _ hF
    · refine zr_gf hF (fun v1 hF => ?_)
      refine zr_if hF (fun hF => ?_) (fun hF => ?_)
      · exact zf213_157_fr hq hk118 (fun _ _ _ hF => ih hF) hF
      · refine zr_gf hF (fun v2 hF => ?_)
        refine zr_if hF (fun hF => ?_) (fun hF => ?_)
        · exact zf213_157_fr hq hk118 (fun _ _ _ hF => ih hF) hF
        · exact zf213_157_fr hq hk118 (fun _ _ _ hF => ih hF) hF
theorem zf213_118_fr {q : Nat} {s' : zS} {a0 : Nat} (hq : zW213 a0 q = false)   {n : Nat} : ∀ {x3 : Int32} {s : zS}, zf213_118 a0 n x3 s = some s' → s' q = s q := by
  induction n with
  | zero => intro x3 s hF; rw [zf213_118] at hF; cases hF
  | succ n ih =>
    intro x3 s hF
    rw [zf213_118] at hF
    refine zr_if hF (fun hF => ?_) (fun hF => ?_)
    · exact zr_rv hF
    · refine zr_gf hF (fun v1 hF => ?_)
      exact zf213_128_fr hq (fun _ _ hF => ih hF) hF
theorem zf213_64_fr {q : Nat} {s' : zS} {a0 : Nat} (hq : zW213 a0 q = false)   {n : Nat} : ∀ {x2 : Int32} {x3 : Int32} {s : zS}, zf213_64 a0 n x2 x3 s = some s' → s' q = s q := by
  induction n with
  | zero => intro x2 x3 s hF; rw [zf213_64] at hF; cases hF
  | succ n ih =>
    intro x2 x3 s hF
    rw [zf213_64] at hF
    refine zr_al hF (fun v1 hF => ?_)
    refine zr_if hF (fun hF => ?_) (fun hF => ?_)
    · refine zr_gf hF (fun v2 hF => ?_)
      exact zf213_118_fr hq hF
    · refine zr_al hF (fun v3 hF => ?_)
      refine zr_if hF (fun hF => ?_) (fun hF => ?_)
      · exact ih hF
      · refine zr_gf hF (fun v4 hF => ?_)
        refine zr_as hF (zo1 (zo2 hq)) (fun s5 hF => ?_)
        refine zr_gf hF (fun v6 hF => ?_)
        refine zr_pf hF (zo1 (zo2 (zo2 hq))) (fun s7 hF => ?_)
        exact ih hF
theorem zf213_14_fr {q : Nat} {s' : zS} {a0 : Nat} (hq : zW213 a0 q = false)   {n : Nat} : ∀ {x1 : Int32} {x2 : Int32} {x3 : Int32} {s : zS}, zf213_14 a0 n x1 x2 x3 s = some s' → s' q = s q := by
  induction n with
  | zero => intro x1 x2 x3 s hF; rw [zf213_14] at hF; cases hF
  | succ n ih =>
    intro x1 x2 x3 s hF
    rw [zf213_14] at hF
    refine zr_al hF (fun v1 hF => ?_)
    refine zr_if hF (fun hF => ?_) (fun hF => ?_)
    · exact zf213_64_fr hq hF
    · refine zr_al hF (fun v2 hF => ?_)
      refine zr_if hF (fun hF => ?_) (fun hF => ?_)
      · exact ih hF
      · refine zr_gf hF (fun v3 hF => ?_)
        refine zr_as hF (zo1 (zo2 (zo2 (zo2 hq)))) (fun s4 hF => ?_)
        refine zr_gf hF (fun v5 hF => ?_)
        refine zr_pf hF (zo1 (zo2 (zo2 hq))) (fun s6 hF => ?_)
        exact ih hF
theorem zf213_fr {q : Nat} {s' : zS} {a0 : Nat} (hq : zW213 a0 q = false) {x1 : Int32} {x2 : Int32} {s : zS} (hF : zf213 a0 x1 x2 s = some s') : s' q = s q := by
  unfold zf213 at hF
  refine zr_pf hF (zo1 (zo2 (zo2 hq))) (fun s1 hF => ?_)
  refine zr_pf hF (zo1 (zo2 (zo2 hq))) (fun s2 hF => ?_)
  exact zf213_14_fr hq hF
theorem zf216_27_fr {q : Nat} {v : Int32} {s' : zS} {a0 : Nat}    {n : Nat} : ∀ {x1 : Int32} {x2 : Int32} {x3 : Int32} {x4 : Int32} {s : zS}, zf216_27 a0 n x1 x2 x3 x4 s = some (v, s') → s' q = s q := by
  induction n with
  | zero => intro x1 x2 x3 x4 s hF; rw [zf216_27] at hF; cases hF
  | succ n ih =>
    intro x1 x2 x3 x4 s hF
    rw [zf216_27] at hF
    refine zr_al hF (fun v1 hF => ?_)
    refine zr_if hF (fun hF => ?_) (fun hF => ?_)
    · exact zr_rb hF
    · refine zr_if hF (fun hF => ?_) (fun hF => ?_)
      · exact zr_rb hF
      · refine zr_al hF (fun v2 hF => ?_)
        refine zr_al hF (fun v3 hF => ?_)
        refine zr_al hF (fun v4 hF => ?_)
        refine zr_al hF (fun v5 hF => ?_)
        refine zr_if hF (fun hF => ?_) (fun hF => ?_)
        · exact ih hF
        · exact ih hF
theorem zf216_fr {q : Nat} {v : Int32} {s' : zS} {a0 : Nat}  {x1 : Int32} {x2 : Int32} {s : zS} (hF : zf216 a0 x1 x2 s = some (v, s')) : s' q = s q := by
  unfold zf216 at hF
  refine zr_al hF (fun v1 hF => ?_)
  refine zr_al hF (fun v2 hF => ?_)
  refine zr_if hF (fun hF => ?_) (fun hF => ?_)
  · exact zf216_27_fr  hF
  · exact zf216_27_fr  hF
theorem zf215_16_fr {q : Nat} {v : Int32} {s' : zS} {a0 : Nat}    {n : Nat} : ∀ {x1 : Int32} {x2 : Int32} {x3 : Int32} {x4 : Int32} {s : zS}, zf215_16 a0 n x1 x2 x3 x4 s = some (v, s') → s' q = s q := by
  induction n with
  | zero => intro x1 x2 x3 x4 s hF; rw [zf215_16] at hF; cases hF
  | succ n ih =>
    intro x1 x2 x3 x4 s hF
    rw [zf215_16] at hF
    refine zr_if hF (fun hF => ?_) (fun hF => ?_)
    · refine zr_if hF (fun hF => ?_) (fun hF => ?_)
      · exact zr_ri hF
      · exact zr_ri hF
    · refine zr_if hF (fun hF => ?_) (fun hF => ?_)
      · exact ih hF
      · refine zr_al hF (fun v1 hF => ?_)
        refine zr_al hF (fun v2 hF => ?_)
        refine zr_if hF (fun hF => ?_) (fun hF => ?_)
        · exact ih hF
        · exact ih hF
theorem zf215_fr {q : Nat} {v : Int32} {s' : zS} {a0 : Nat}  {x1 : Int32} {x2 : Int32} {s : zS} (hF : zf215 a0 x1 x2 s = some (v, s')) : s' q = s q := by
  unfold zf215 at hF
  refine zr_bi hF (fun _ _ h => zf216_fr h) (fun v1 s2 hF => ?_)
  refine zr_if hF (fun hF => ?_) (fun hF => ?_)
  · exact zf215_16_fr  hF
  · exact zr_ri hF
def zW212 (a0 : Nat) (q : Nat) : Bool := zW213 a0 q || ((q == (zrf a0 38)) || false)
theorem zf212_22_fr {q : Nat} {s' : zS} {a0 : Nat} (hq : zW212 a0 q = false) {k9 : Int32 → zS → Option (zS)} (hk9 : ∀ x1 s, k9 x1 s = some s' → s' q = s q) {n : Nat} : ∀ {x1 : Int32} {x2 : Int32} {s : zS}, zf212_22 a0 k9 n x1 x2 s = some s' → s' q = s q := by
  induction n with
  | zero => intro x1 x2 s hF; rw [zf212_22] at hF; cases hF
  | succ n ih =>
    intro x1 x2 s hF
    rw [zf212_22] at hF
    refine zr_if hF (fun hF => ?_) (fun hF => ?_)
    · exact hk9 _ _ hF
    · refine zr_al hF (fun v1 hF => ?_)
      refine zr_al hF (fun v2 hF => ?_)
      refine zr_if hF (fun hF => ?_) (fun hF => ?_)
      · exact ih hF
      · refine zr_bv hF (fun _ h => zf213_fr (zo1 hq) h) (fun s4 hF => ?_)
        refine zr_bi hF (fun _ _ h => zf215_fr h) (fun v5 s6 hF => ?_)
        refine zr_al hF (fun v7 hF => ?_)
        refine zr_as hF (zo1 (zo2 hq)) (fun s8 hF => ?_)
        exact ih hF
theorem zf212_9_fr {q : Nat} {s' : zS} {a0 : Nat} (hq : zW212 a0 q = false)   {n : Nat} : ∀ {x1 : Int32} {s : zS}, zf212_9 a0 n x1 s = some s' → s' q = s q := by
  induction n with
  | zero => intro x1 s hF; rw [zf212_9] at hF; cases hF
  | succ n ih =>
    intro x1 s hF
    rw [zf212_9] at hF
    refine zr_if hF (fun hF => ?_) (fun hF => ?_)
    · exact zr_rv hF
    · refine zr_al hF (fun v1 hF => ?_)
      exact zf212_22_fr hq (fun _ _ hF => ih hF) hF
theorem zf212_fr {q : Nat} {s' : zS} {a0 : Nat} (hq : zW212 a0 q = false)  {s : zS} (hF : zf212 a0 s = some s') : s' q = s q := by
  unfold zf212 at hF
  refine zr_al hF (fun v1 hF => ?_)
  exact zf212_9_fr hq hF
def zW218 (a0 : Nat) (q : Nat) : Bool := (q == (zrf a0 33)) || ((q == (zrf a0 34)) || ((q == (zrf a0 35)) || ((q == (zrf a0 36)) || ((q == a0) || false))))
theorem zf218_fr {q : Nat} {s' : zS} {a0 : Nat} (hq : zW218 a0 q = false) {x1 : Int32} {x2 : Int32} {x3 : Int32} {x4 : Int32} {s : zS} (hF : zf218 a0 x1 x2 x3 x4 s = some s') : s' q = s q := by
  unfold zf218 at hF
  refine zr_gf hF (fun v1 hF => ?_)
  refine zr_as hF (zo1 hq) (fun s2 hF => ?_)
  refine zr_gf hF (fun v3 hF => ?_)
  refine zr_as hF (zo1 (zo2 hq)) (fun s4 hF => ?_)
  refine zr_gf hF (fun v5 hF => ?_)
  refine zr_as hF (zo1 (zo2 (zo2 hq))) (fun s6 hF => ?_)
  refine zr_gf hF (fun v7 hF => ?_)
  refine zr_as hF (zo1 (zo2 (zo2 (zo2 hq)))) (fun s8 hF => ?_)
  refine zr_gf hF (fun v9 hF => ?_)
  refine zr_pf hF (zo1 (zo2 (zo2 (zo2 (zo2 hq))))) (fun s10 hF => ?_)
  exact zr_rv hF
def zW217 (a0 : Nat) (q : Nat) : Bool := (q == (zrf a0 44)) || ((q == (zrf a0 45)) || ((q == (zrf a0 46)) || ((q == (zrf a0 47)) || (zW218 a0 q || false))))
theorem zf217_fr {q : Nat} {s' : zS} {a0 : Nat} (hq : zW217 a0 q = false) {x1 : Int32} {x2 : Int32} {x3 : Int32} {s : zS} (hF : zf217 a0 x1 x2 x3 s = some s') : s' q = s q := by
  unfold zf217 at hF
  refine zr_as hF (zo1 hq) (fun s1 hF => ?_)
  refine zr_as hF (zo1 (zo2 hq)) (fun s2 hF => ?_)
  refine zr_as hF (zo1 (zo2 (zo2 hq))) (fun s3 hF => ?_)
  refine zr_as hF (zo1 (zo2 (zo2 (zo2 hq)))) (fun s4 hF => ?_)
  refine zr_bi hF (fun _ _ h => zf215_fr h) (fun v5 s6 hF => ?_)
  refine zr_if hF (fun hF => ?_) (fun hF => ?_)
  · exact zr_rv hF
  · refine zr_bv hF (fun _ h => zf218_fr (zo1 (zo2 (zo2 (zo2 (zo2 hq))))) h) (fun s8 hF => ?_)
    exact zr_rv hF
def zW219 (a0 : Nat) (q : Nat) : Bool := zW218 a0 q || ((q == (zrf a0 46)) || ((q == (zrf a0 47)) || (zW217 a0 q || (zW213 a0 q || false))))
theorem zf219_247_fr {q : Nat} {v : Int32} {s' : zS} {a0 : Nat} (hq : zW219 a0 q = false) {k33 : Int32 → Int32 → Int32 → Int32 → zS → Option (Int32 × zS)} (hk33 : ∀ x1 x2 x3 x4 s, k33 x1 x2 x3 x4 s = some (v, s') → s' q = s q) {x1 : Int32} {x2 : Int32} {x3 : Int32} {x4 : Int32} {t0 : Int32} {t1 : Int32} {t2 : Int32} {t3 : Int32} {s : zS} (hF : zf219_247 a0 k33 x1 x2 x3 x4 t0 t1 t2 t3 s = some (v, s')) : s' q = s q := by
  unfold zf219_247 at hF
  refine zr_bv hF (fun _ h => zf218_fr (zo1 hq) h) (fun s2 hF => ?_)
  exact hk33 _ _ _ _ _ hF
theorem zf219_219_fr {q : Nat} {v : Int32} {s' : zS} {a0 : Nat} (hq : zW219 a0 q = false) {k33 : Int32 → Int32 → Int32 → Int32 → zS → Option (Int32 × zS)} (hk33 : ∀ x1 x2 x3 x4 s, k33 x1 x2 x3 x4 s = some (v, s') → s' q = s q) {x1 : Int32} {x2 : Int32} {x3 : Int32} {x4 : Int32} {s : zS} (hF : zf219_219 a0 k33 x1 x2 x3 x4 s = some (v, s')) : s' q = s q := by
  unfold zf219_219 at hF
  refine zr_al hF (fun v1 hF => ?_)
  refine zr_gf hF (fun v2 hF => ?_)
  refine zr_if hF (fun hF => ?_) (fun hF => ?_)
  · exact zf219_247_fr hq hk33 hF
  · refine zr_al hF (fun v3 hF => ?_)
    exact zf219_247_fr hq hk33 hF
theorem zf219_160_fr {q : Nat} {v : Int32} {s' : zS} {a0 : Nat} (hq : zW219 a0 q = false) {k33 : Int32 → Int32 → Int32 → Int32 → zS → Option (Int32 × zS)} (hk33 : ∀ x1 x2 x3 x4 s, k33 x1 x2 x3 x4 s = some (v, s') → s' q = s q) {x1 : Int32} {x2 : Int32} {x3 : Int32} {x4 : Int32} {x5 : Int32} {s : zS} (hF : zf219_160 a0 k33 x1 x2 x3 x4 x5 s = some (v, s')) : s' q = s q := by
  unfold zf219_160 at hF
  refine zr_gf hF (fun v1 hF => ?_)
  refine zr_if hF (fun hF => ?_) (fun hF => ?_)
  · exact zf219_219_fr hq hk33 hF
  · refine zr_al hF (fun v2 hF => ?_)
    refine zr_al hF (fun v3 hF => ?_)
    refine zr_al hF (fun v4 hF => ?_)
    refine zr_if hF (fun hF => ?_) (fun hF => ?_)
    · exact zf219_219_fr hq hk33 hF
    · refine zr_al hF (fun v5 hF => ?_)
      refine zr_bv hF (fun _ h => zf218_fr (zo1 hq) h) (fun s7 hF => ?_)
      exact hk33 _ _ _ _ _ hF
theorem zf219_50_fr {q : Nat} {v : Int32} {s' : zS} {a0 : Nat} (hq : zW219 a0 q = false) {k33 : Int32 → Int32 → Int32 → Int32 → zS → Option (Int32 × zS)} (hk33 : ∀ x1 x2 x3 x4 s, k33 x1 x2 x3 x4 s = some (v, s') → s' q = s q) {x1 : Int32} {x2 : Int32} {x3 : Int32} {x4 : Int32} {s : zS} (hF : zf219_50 a0 k33 x1 x2 x3 x4 s = some (v, s')) : s' q = s q := by
  unfold zf219_50 at hF
  refine zr_al hF (fun v1 hF => ?_)
  refine zr_bi hF (fun _ _ h => zf214_fr h) (fun v2 s3 hF => ?_)
  refine zr_if hF (fun hF => ?_) (fun hF => ?_)
  · exact zf219_160_fr hq hk33 hF
  · refine zr_al hF (fun v4 hF => ?_)
    refine zr_al hF (fun v5 hF => ?_)
    refine zr_al hF (fun v6 hF => ?_)
    refine zr_al hF (fun v7 hF => ?_)
    refine zr_if hF (fun hF => ?_) (fun hF => ?_)
    · exact zf219_160_fr hq hk33 hF
    · refine zr_as hF (zo1 (zo2 hq)) (fun s8 hF => ?_)
      refine zr_as hF (zo1 (zo2 (zo2 hq))) (fun s9 hF => ?_)
      refine zr_al hF (fun v10 hF => ?_)
      refine zr_al hF (fun v11 hF => ?_)
      refine zr_bv hF (fun _ h => zf217_fr (zo1 (zo2 (zo2 (zo2 hq)))) h) (fun s13 hF => ?_)
      exact zr_rb hF
theorem zf219_33_fr {q : Nat} {v : Int32} {s' : zS} {a0 : Nat} (hq : zW219 a0 q = false)   {n : Nat} : ∀ {x1 : Int32} {x2 : Int32} {x3 : Int32} {x4 : Int32} {s : zS}, zf219_33 a0 n x1 x2 x3 x4 s = some (v, s') → s' q = s q := by
  induction n with
  | zero => intro x1 x2 x3 x4 s hF; rw [zf219_33] at hF; cases hF
  | succ n ih =>
    intro x1 x2 x3 x4 s hF
    rw [zf219_33] at hF
    refine zr_gf hF (fun v1 hF => ?_)
    refine zr_if hF (fun hF => ?_) (fun hF => ?_)
    · exact zf219_50_fr hq (fun _ _ _ _ _ hF => ih hF) hF
    · refine zr_gf hF (fun v2 hF => ?_)
      refine zr_if hF (fun hF => ?_) (fun hF => ?_)
      · exact zr_rb hF
      · exact zf219_50_fr hq (fun _ _ _ _ _ hF => ih hF) hF
theorem zf219_fr {q : Nat} {v : Int32} {s' : zS} {a0 : Nat} (hq : zW219 a0 q = false) {x1 : Int32} {s : zS} (hF : zf219 a0 x1 s = some (v, s')) : s' q = s q := by
  unfold zf219 at hF
  refine zr_al hF (fun v1 hF => ?_)
  refine zr_al hF (fun v2 hF => ?_)
  refine zr_bv hF (fun _ h => zf213_fr (zo1 (zo2 (zo2 (zo2 (zo2 hq))))) h) (fun s4 hF => ?_)
  refine zr_al hF (fun v5 hF => ?_)
  refine zr_al hF (fun v6 hF => ?_)
  exact zf219_33_fr hq hF
def zW210 (a0 : Nat) (q : Nat) : Bool := zW219 a0 q || ((q == a0) || (zW211 a0 q || (zW212 a0 q || (zW217 a0 q || false))))
theorem zf210_69_fr {q : Nat} {v : Int32} {s' : zS} {a0 : Nat} (hq : zW210 a0 q = false)   {n : Nat} : ∀ {x1 : Int32} {s : zS}, zf210_69 a0 n x1 s = some (v, s') → s' q = s q := by
  induction n with
  | zero => intro x1 s hF; rw [zf210_69] at hF; cases hF
  | succ n ih =>
    intro x1 s hF
    rw [zf210_69] at hF
    refine zr_if hF (fun hF => ?_) (fun hF => ?_)
    · refine zr_al hF (fun v1 hF => ?_)
      exact zr_ri hF
    · refine zr_bi hF (fun _ _ h => zf219_fr (zo1 hq) h) (fun v2 s3 hF => ?_)
      refine zr_if hF (fun hF => ?_) (fun hF => ?_)
      · exact ih hF
      · exact ih hF
theorem zf210_24_fr {q : Nat} {v : Int32} {s' : zS} {a0 : Nat} (hq : zW210 a0 q = false)   {t0 : Int32} {s : zS} (hF : zf210_24 a0 t0 s = some (v, s')) : s' q = s q := by
  unfold zf210_24 at hF
  refine zr_pf hF (zo1 (zo2 hq)) (fun s1 hF => ?_)
  refine zr_gf hF (fun v2 hF => ?_)
  refine zr_if hF (fun hF => ?_) (fun hF => ?_)
  · refine zr_bv hF (fun _ h => zf211_fr (zo1 (zo2 (zo2 hq))) h) (fun s4 hF => ?_)
    refine zr_bv hF (fun _ h => zf211_fr (zo1 (zo2 (zo2 hq))) h) (fun s6 hF => ?_)
    refine zr_bv hF (fun _ h => zf212_fr (zo1 (zo2 (zo2 (zo2 hq)))) h) (fun s8 hF => ?_)
    refine zr_pf hF (zo1 (zo2 hq)) (fun s9 hF => ?_)
    refine zr_pb hF (zo1 (zo2 hq)) (fun s10 hF => ?_)
    refine zr_bv hF (fun _ h => zf217_fr (zo1 (zo2 (zo2 (zo2 (zo2 hq))))) h) (fun s12 hF => ?_)
    exact zf210_69_fr hq hF
  · exact zr_ri hF
theorem zf210_fr {q : Nat} {v : Int32} {s' : zS} {a0 : Nat} (hq : zW210 a0 q = false)  {s : zS} (hF : zf210 a0 s = some (v, s')) : s' q = s q := by
  unfold zf210 at hF
  refine zr_al hF (fun v1 hF => ?_)
  refine zr_if hF (fun hF => ?_) (fun hF => ?_)
  · exact zf210_24_fr hq hF
  · refine zr_al hF (fun v2 hF => ?_)
    refine zr_if hF (fun hF => ?_) (fun hF => ?_)
    · exact zf210_24_fr hq hF
    · exact zf210_24_fr hq hF
def zW220 (a0 : Nat) (q : Nat) : Bool := (q == a0) || false
theorem zf220_fr {q : Nat} {v : Int32} {s' : zS} {a0 : Nat} (hq : zW220 a0 q = false)  {s : zS} (hF : zf220 a0 s = some (v, s')) : s' q = s q := by
  unfold zf220 at hF
  refine zr_pf hF (zo1 hq) (fun s1 hF => ?_)
  refine zr_gf hF (fun v2 hF => ?_)
  refine zr_if hF (fun hF => ?_) (fun hF => ?_)
  · exact zr_ri hF
  · refine zr_gf hF (fun v3 hF => ?_)
    exact zr_ri hF
def zW221 (a0 : Nat) (q : Nat) : Bool := (q == a0) || false
theorem zf221_25_fr {q : Nat} {v : Int32} {s' : zS} {a0 : Nat} (hq : zW221 a0 q = false)   {x1 : Int32} {x2 : Int32} {t0 : Int32} {s : zS} (hF : zf221_25 a0 x1 x2 t0 s = some (v, s')) : s' q = s q := by
  unfold zf221_25 at hF
  refine zr_pf hF (zo1 hq) (fun s1 hF => ?_)
  refine zr_gf hF (fun v2 hF => ?_)
  refine zr_if hF (fun hF => ?_) (fun hF => ?_)
  · refine zr_if hF (fun hF => ?_) (fun hF => ?_)
    · refine zr_al hF (fun v3 hF => ?_)
      exact zr_ri hF
    · refine zr_al hF (fun v4 hF => ?_)
      exact zr_ri hF
  · exact zr_ri hF
theorem zf221_fr {q : Nat} {v : Int32} {s' : zS} {a0 : Nat} (hq : zW221 a0 q = false) {x1 : Int32} {x2 : Int32} {s : zS} (hF : zf221 a0 x1 x2 s = some (v, s')) : s' q = s q := by
  unfold zf221 at hF
  refine zr_if hF (fun hF => ?_) (fun hF => ?_)
  · exact zf221_25_fr hq hF
  · refine zr_gf hF (fun v1 hF => ?_)
    refine zr_if hF (fun hF => ?_) (fun hF => ?_)
    · exact zf221_25_fr hq hF
    · refine zr_gf hF (fun v2 hF => ?_)
      refine zr_if hF (fun hF => ?_) (fun hF => ?_)
      · exact zf221_25_fr hq hF
      · exact zf221_25_fr hq hF
def zW223 (a0 : Nat) (q : Nat) : Bool := (q == (zrf a0 48)) || ((q == (zrf a0 49)) || false)
theorem zf223_93_fr {q : Nat} {s' : zS} {a0 : Nat} (hq : zW223 a0 q = false) {k2 : Int32 → Int32 → zS → Option (zS)} {k50 : Int32 → Int32 → Int32 → zS → Option (zS)} (hk2 : ∀ x1 x2 s, k2 x1 x2 s = some s' → s' q = s q) (hk50 : ∀ x1 x2 x3 s, k50 x1 x2 x3 s = some s' → s' q = s q) {x1 : Int32} {x2 : Int32} {x3 : Int32} {t0 : Int32} {t1 : Int32} {s : zS} (hF : zf223_93 a0 k2 k50 x1 x2 x3 t0 t1 s = some s') : s' q = s q := by
  unfold zf223_93 at hF
  refine zr_bs hF (zo1 hq) (fun s1 hF => ?_)
  refine zr_al hF (fun v2 hF => ?_)
  refine zr_if hF (fun hF => ?_) (fun hF => ?_)
  · refine zr_al hF (fun v3 hF => ?_)
    refine zr_as hF (zo1 (zo2 hq)) (fun s4 hF => ?_)
    exact hk50 _ _ _ _ hF
  · refine zr_al hF (fun v5 hF => ?_)
    refine zr_as hF (zo1 (zo2 hq)) (fun s6 hF => ?_)
    exact hk50 _ _ _ _ hF
theorem zf223_50_fr {q : Nat} {s' : zS} {a0 : Nat} (hq : zW223 a0 q = false) {k2 : Int32 → Int32 → zS → Option (zS)} (hk2 : ∀ x1 x2 s, k2 x1 x2 s = some s' → s' q = s q) {n : Nat} : ∀ {x1 : Int32} {x2 : Int32} {x3 : Int32} {s : zS}, zf223_50 a0 k2 n x1 x2 x3 s = some s' → s' q = s q := by
  induction n with
  | zero => intro x1 x2 x3 s hF; rw [zf223_50] at hF; cases hF
  | succ n ih =>
    intro x1 x2 x3 s hF
    rw [zf223_50] at hF
    refine zr_if hF (fun hF => ?_) (fun hF => ?_)
    · exact hk2 _ _ _ hF
    · refine zr_al hF (fun v1 hF => ?_)
      refine zr_if hF (fun hF => ?_) (fun hF => ?_)
      · exact zf223_93_fr hq hk2 (fun _ _ _ _ hF => ih hF) hF
      · refine zr_al hF (fun v2 hF => ?_)
        refine zr_if hF (fun hF => ?_) (fun hF => ?_)
        · exact zf223_93_fr hq hk2 (fun _ _ _ _ hF => ih hF) hF
        · refine zr_al hF (fun v3 hF => ?_)
          refine zr_if hF (fun hF => ?_) (fun hF => ?_)
          · exact zf223_93_fr hq hk2 (fun _ _ _ _ hF => ih hF) hF
          · exact zf223_93_fr hq hk2 (fun _ _ _ _ hF => ih hF) hF
theorem zf223_40_fr {q : Nat} {s' : zS} {a0 : Nat} (hq : zW223 a0 q = false) {k2 : Int32 → Int32 → zS → Option (zS)} (hk2 : ∀ x1 x2 s, k2 x1 x2 s = some s' → s' q = s q) {x1 : Int32} {x2 : Int32} {t0 : Int32} {t1 : Int32} {s : zS} (hF : zf223_40 a0 k2 x1 x2 t0 t1 s = some s') : s' q = s q := by
  unfold zf223_40 at hF
  refine zr_bs hF (zo1 hq) (fun s1 hF => ?_)
  refine zr_as hF (zo1 (zo2 hq)) (fun s2 hF => ?_)
  exact zf223_50_fr hq hk2 hF
theorem zf223_2_fr {q : Nat} {s' : zS} {a0 : Nat} (hq : zW223 a0 q = false)   {n : Nat} : ∀ {x1 : Int32} {x2 : Int32} {s : zS}, zf223_2 a0 n x1 x2 s = some s' → s' q = s q := by
  induction n with
  | zero => intro x1 x2 s hF; rw [zf223_2] at hF; cases hF
  | succ n ih =>
    intro x1 x2 s hF
    rw [zf223_2] at hF
    refine zr_al hF (fun v1 hF => ?_)
    refine zr_if hF (fun hF => ?_) (fun hF => ?_)
    · exact zr_rv hF
    · refine zr_if hF (fun hF => ?_) (fun hF => ?_)
      · exact zf223_40_fr hq (fun _ _ _ hF => ih hF) hF
      · refine zr_al hF (fun v2 hF => ?_)
        refine zr_al hF (fun v3 hF => ?_)
        refine zr_if hF (fun hF => ?_) (fun hF => ?_)
        · exact zf223_40_fr hq (fun _ _ _ hF => ih hF) hF
        · exact zf223_40_fr hq (fun _ _ _ hF => ih hF) hF
theorem zf223_fr {q : Nat} {s' : zS} {a0 : Nat} (hq : zW223 a0 q = false) {x1 : Int32} {s : zS} (hF : zf223 a0 x1 s = some s') : s' q = s q := by
  unfold zf223 at hF
  exact zf223_2_fr hq hF
theorem zf224_69_fr {q : Nat} {v : Int32} {s' : zS} {a0 : Nat}  {k7 : Int32 → Int32 → Int32 → Int32 → zS → Option (Int32 × zS)} (hk7 : ∀ x1 x2 x3 x4 s, k7 x1 x2 x3 x4 s = some (v, s') → s' q = s q) {x1 : Int32} {x2 : Int32} {x3 : Int32} {t0 : Int32} {s : zS} (hF : zf224_69 a0 k7 x1 x2 x3 t0 s = some (v, s')) : s' q = s q := by
  unfold zf224_69 at hF
  refine zr_if hF (fun hF => ?_) (fun hF => ?_)
  · exact hk7 _ _ _ _ _ hF
  · exact hk7 _ _ _ _ _ hF
theorem zf224_35_fr {q : Nat} {v : Int32} {s' : zS} {a0 : Nat}  {k7 : Int32 → Int32 → Int32 → Int32 → zS → Option (Int32 × zS)} (hk7 : ∀ x1 x2 x3 x4 s, k7 x1 x2 x3 x4 s = some (v, s') → s' q = s q) {n : Nat} : ∀ {x1 : Int32} {x2 : Int32} {x3 : Int32} {x5 : Int32} {s : zS}, zf224_35 a0 k7 n x1 x2 x3 x5 s = some (v, s') → s' q = s q := by
  induction n with
  | zero => intro x1 x2 x3 x5 s hF; rw [zf224_35] at hF; cases hF
  | succ n ih =>
    intro x1 x2 x3 x5 s hF
    rw [zf224_35] at hF
    refine zr_if hF (fun hF => ?_) (fun hF => ?_)
    · refine zr_if hF (fun hF => ?_) (fun hF => ?_)
      · exact zf224_69_fr  hk7 hF
      · exact zf224_69_fr  hk7 hF
    · refine zr_al hF (fun v1 hF => ?_)
      exact ih hF
theorem zf224_7_fr {q : Nat} {v : Int32} {s' : zS} {a0 : Nat}    {n : Nat} : ∀ {x1 : Int32} {x2 : Int32} {x3 : Int32} {x4 : Int32} {s : zS}, zf224_7 a0 n x1 x2 x3 x4 s = some (v, s') → s' q = s q := by
  induction n with
  | zero => intro x1 x2 x3 x4 s hF; rw [zf224_7] at hF; cases hF
  | succ n ih =>
    intro x1 x2 x3 x4 s hF
    rw [zf224_7] at hF
    refine zr_al hF (fun v1 hF => ?_)
    refine zr_if hF (fun hF => ?_) (fun hF => ?_)
    · exact zr_ri hF
    · refine zr_if hF (fun hF => ?_) (fun hF => ?_)
      · exact zr_ri hF
      · refine zr_al hF (fun v2 hF => ?_)
        exact zf224_35_fr  (fun _ _ _ _ _ hF => ih hF) hF
theorem zf224_fr {q : Nat} {v : Int32} {s' : zS} {a0 : Nat}  {x1 : Int32} {x2 : Int32} {s : zS} (hF : zf224 a0 x1 x2 s = some (v, s')) : s' q = s q := by
  unfold zf224 at hF
  exact zf224_7_fr  hF
def zW225 (a0 : Nat) (q : Nat) : Bool := zW198 a0 q || false
theorem zf225_115_fr {q : Nat} {s' : zS} {a0 : Nat} (hq : zW225 a0 q = false) {k3 : Int32 → Int32 → Int32 → Int32 → zS → Option (zS)} {k74 : Int32 → Int32 → Int32 → Int32 → Int32 → Int32 → Int32 → Int32 → zS → Option (zS)} (hk3 : ∀ x1 x2 x3 x4 s, k3 x1 x2 x3 x4 s = some s' → s' q = s q) (hk74 : ∀ x1 x2 x3 x4 x5 x6 x7 x8 s, k74 x1 x2 x3 x4 x5 x6 x7 x8 s = some s' → s' q = s q) {x1 : Int32} {x2 : Int32} {x3 : Int32} {x4 : Int32} {x5 : Int32} {x6 : Int32} {x7 : Int32} {x8 : Int32} {t0 : Int32} {t1 : Int32} {t2 : Int32} {t3 : Int32} {s : zS} (hF : zf225_115 a0 k3 k74 x1 x2 x3 x4 x5 x6 x7 x8 t0 t1 t2 t3 s = some s') : s' q = s q := by
  unfold zf225_115 at hF
  refine zr_bv hF (fun _ h => zf198_fr (zo1 hq) h) (fun s2 hF => ?_)
  exact hk74 _ _ _ _ _ _ _ _ _ hF
theorem zf225_74_fr {q : Nat} {s' : zS} {a0 : Nat} (hq : zW225 a0 q = false) {k3 : Int32 → Int32 → Int32 → Int32 → zS → Option (zS)} (hk3 : ∀ x1 x2 x3 x4 s, k3 x1 x2 x3 x4 s = some s' → s' q = s q) {n : Nat} : ∀ {x1 : Int32} {x2 : Int32} {x3 : Int32} {x4 : Int32} {x5 : Int32} {x6 : Int32} {x7 : Int32} {x8 : Int32} {s : zS}, zf225_74 a0 k3 n x1 x2 x3 x4 x5 x6 x7 x8 s = some s' → s' q = s q := by
  induction n with
  | zero => intro x1 x2 x3 x4 x5 x6 x7 x8 s hF; rw [zf225_74] at hF; cases hF
  | succ n ih =>
    intro x1 x2 x3 x4 x5 x6 x7 x8 s hF
    rw [zf225_74] at hF
    refine zr_if hF (fun hF => ?_) (fun hF => ?_)
    · exact hk3 _ _ _ _ _ hF
    · refine zr_if hF (fun hF => ?_) (fun hF => ?_)
      · refine zr_al hF (fun v1 hF => ?_)
        exact zf225_115_fr hq hk3 (fun _ _ _ _ _ _ _ _ _ hF => ih hF) hF
      · refine zr_al hF (fun v2 hF => ?_)
        exact zf225_115_fr hq hk3 (fun _ _ _ _ _ _ _ _ _ hF => ih hF) hF
theorem zf225_3_fr {q : Nat} {s' : zS} {a0 : Nat} (hq : zW225 a0 q = false)   {n : Nat} : ∀ {x1 : Int32} {x2 : Int32} {x3 : Int32} {x4 : Int32} {s : zS}, zf225_3 a0 n x1 x2 x3 x4 s = some s' → s' q = s q := by
  induction n with
  | zero => intro x1 x2 x3 x4 s hF; rw [zf225_3] at hF; cases hF
  | succ n ih =>
    intro x1 x2 x3 x4 s hF
    rw [zf225_3] at hF
    refine zr_if hF (fun hF => ?_) (fun hF => ?_)
    · exact zr_rv hF
    · refine zr_al hF (fun v1 hF => ?_)
      refine zr_if hF (fun hF => ?_) (fun hF => ?_)
      · exact ih hF
      · refine zr_al hF (fun v2 hF => ?_)
        refine zr_if hF (fun hF => ?_) (fun hF => ?_)
        · exact ih hF
        · refine zr_al hF (fun v3 hF => ?_)
          refine zr_if hF (fun hF => ?_) (fun hF => ?_)
          · exact ih hF
          · refine zr_al hF (fun v4 hF => ?_)
            refine zr_bi hF (fun _ _ h => zf224_fr h) (fun v5 s6 hF => ?_)
            refine zr_al hF (fun v7 hF => ?_)
            exact zf225_74_fr hq (fun _ _ _ _ _ hF => ih hF) hF
theorem zf225_fr {q : Nat} {s' : zS} {a0 : Nat} (hq : zW225 a0 q = false) {x1 : Int32} {x2 : Int32} {x3 : Int32} {s : zS} (hF : zf225 a0 x1 x2 x3 s = some s') : s' q = s q := by
  unfold zf225 at hF
  exact zf225_3_fr hq hF
def zW226 (a0 : Nat) (q : Nat) : Bool := zW190 a0 q || (zW199 a0 q || (zW198 a0 q || ((q == (zrf a0 50)) || false)))
theorem zf226_36_fr {q : Nat} {s' : zS} {a0 : Nat} (hq : zW226 a0 q = false)   {x1 : Int32} {t0 : Int32} {s : zS} (hF : zf226_36 a0 x1 t0 s = some s') : s' q = s q := by
  unfold zf226_36 at hF
  refine zr_al hF (fun v1 hF => ?_)
  refine zr_if hF (fun hF => ?_) (fun hF => ?_)
  · refine zr_al hF (fun v2 hF => ?_)
    refine zr_bv hF (fun _ h => zf190_fr (zo1 hq) h) (fun s4 hF => ?_)
    refine zr_al hF (fun v5 hF => ?_)
    refine zr_al hF (fun v6 hF => ?_)
    refine zr_bv hF (fun _ h => zf199_fr (zo1 (zo2 hq)) h) (fun s8 hF => ?_)
    exact zr_rv hF
  · refine zr_bv hF (fun _ h => zf198_fr (zo1 (zo2 (zo2 hq))) h) (fun s10 hF => ?_)
    exact zr_rv hF
theorem zf226_fr {q : Nat} {s' : zS} {a0 : Nat} (hq : zW226 a0 q = false) {x1 : Int32} {s : zS} (hF : zf226 a0 x1 s = some s') : s' q = s q := by
  unfold zf226 at hF
  refine zr_al hF (fun v1 hF => ?_)
  refine zr_as hF (zo1 (zo2 (zo2 (zo2 hq)))) (fun s2 hF => ?_)
  refine zr_al hF (fun v3 hF => ?_)
  refine zr_if hF (fun hF => ?_) (fun hF => ?_)
  · refine zr_al hF (fun v4 hF => ?_)
    refine zr_al hF (fun v5 hF => ?_)
    exact zf226_36_fr hq hF
  · exact zf226_36_fr hq hF
def zW222 (a0 : Nat) (q : Nat) : Bool := zW226 a0 q || (zW225 a0 q || ((q == a0) || (zW223 a0 q || ((q == (zrf a0 22)) || ((q == (zrf a0 28)) || false)))))
theorem zf222_156_fr {q : Nat} {v : Int32} {s' : zS} {a0 : Nat} (hq : zW222 a0 q = false) {k62 : Int32 → Int32 → zS → Option (Int32 × zS)} (hk62 : ∀ x1 x2 s, k62 x1 x2 s = some (v, s') → s' q = s q) {x1 : Int32} {x2 : Int32} {s : zS} (hF : zf222_156 a0 k62 x1 x2 s = some (v, s')) : s' q = s q := by
  unfold zf222_156 at hF
  refine zr_al hF (fun v1 hF => ?_)
  refine zr_if hF (fun hF => ?_) (fun hF => ?_)
  · exact hk62 _ _ _ hF
  · refine zr_bv hF (fun _ h => zf226_fr (zo1 hq) h) (fun s3 hF => ?_)
    exact hk62 _ _ _ hF
theorem zf222_116_fr {q : Nat} {v : Int32} {s' : zS} {a0 : Nat} (hq : zW222 a0 q = false) {k62 : Int32 → Int32 → zS → Option (Int32 × zS)} (hk62 : ∀ x1 x2 s, k62 x1 x2 s = some (v, s') → s' q = s q) {x1 : Int32} {x2 : Int32} {s : zS} (hF : zf222_116 a0 k62 x1 x2 s = some (v, s')) : s' q = s q := by
  unfold zf222_116 at hF
  refine zr_al hF (fun v1 hF => ?_)
  refine zr_if hF (fun hF => ?_) (fun hF => ?_)
  · exact hk62 _ _ _ hF
  · refine zr_if hF (fun hF => ?_) (fun hF => ?_)
    · exact zf222_156_fr hq hk62 hF
    · refine zr_al hF (fun v2 hF => ?_)
      refine zr_al hF (fun v3 hF => ?_)
      refine zr_if hF (fun hF => ?_) (fun hF => ?_)
      · exact zf222_156_fr hq hk62 hF
      · refine zr_al hF (fun v4 hF => ?_)
        refine zr_bv hF (fun _ h => zf225_fr (zo1 (zo2 hq)) h) (fun s6 hF => ?_)
        exact zf222_156_fr hq hk62 hF
theorem zf222_76_fr {q : Nat} {v : Int32} {s' : zS} {a0 : Nat} (hq : zW222 a0 q = false) {k62 : Int32 → Int32 → zS → Option (Int32 × zS)} (hk62 : ∀ x1 x2 s, k62 x1 x2 s = some (v, s') → s' q = s q) {n : Nat} : ∀ {x1 : Int32} {x2 : Int32} {x3 : Int32} {s : zS}, zf222_76 a0 k62 n x1 x2 x3 s = some (v, s') → s' q = s q := by
  induction n with
  | zero => intro x1 x2 x3 s hF; rw [zf222_76] at hF; cases hF
  | succ n ih =>
    intro x1 x2 x3 s hF
    rw [zf222_76] at hF
    refine zr_if hF (fun hF => ?_) (fun hF => ?_)
    · exact zf222_116_fr hq hk62 hF
    · refine zr_bi hF (fun _ _ h => zf224_fr h) (fun v1 s2 hF => ?_)
      refine zr_if hF (fun hF => ?_) (fun hF => ?_)
      · exact zf222_116_fr hq hk62 hF
      · refine zr_al hF (fun v3 hF => ?_)
        refine zr_if hF (fun hF => ?_) (fun hF => ?_)
        · refine zr_al hF (fun v4 hF => ?_)
          exact ih hF
        · refine zr_bv hF (fun _ h => zf225_fr (zo1 (zo2 hq)) h) (fun s6 hF => ?_)
          refine zr_al hF (fun v7 hF => ?_)
          exact ih hF
theorem zf222_62_fr {q : Nat} {v : Int32} {s' : zS} {a0 : Nat} (hq : zW222 a0 q = false)   {n : Nat} : ∀ {x1 : Int32} {x2 : Int32} {s : zS}, zf222_62 a0 n x1 x2 s = some (v, s') → s' q = s q := by
  induction n with
  | zero => intro x1 x2 s hF; rw [zf222_62] at hF; cases hF
  | succ n ih =>
    intro x1 x2 s hF
    rw [zf222_62] at hF
    refine zr_al hF (fun v1 hF => ?_)
    refine zr_if hF (fun hF => ?_) (fun hF => ?_)
    · refine zr_al hF (fun v2 hF => ?_)
      exact zr_ri hF
    · exact zf222_76_fr hq (fun _ _ _ hF => ih hF) hF
theorem zf222_29_fr {q : Nat} {v : Int32} {s' : zS} {a0 : Nat} (hq : zW222 a0 q = false)   {x1 : Int32} {t0 : Int32} {s : zS} (hF : zf222_29 a0 x1 t0 s = some (v, s')) : s' q = s q := by
  unfold zf222_29 at hF
  refine zr_pf hF (zo1 (zo2 (zo2 hq))) (fun s1 hF => ?_)
  refine zr_gf hF (fun v2 hF => ?_)
  refine zr_if hF (fun hF => ?_) (fun hF => ?_)
  · refine zr_bv hF (fun _ h => zf223_fr (zo1 (zo2 (zo2 (zo2 hq)))) h) (fun s4 hF => ?_)
    refine zr_as hF (zo1 (zo2 (zo2 (zo2 (zo2 hq))))) (fun s5 hF => ?_)
    refine zr_as hF (zo1 (zo2 (zo2 (zo2 (zo2 (zo2 hq)))))) (fun s6 hF => ?_)
    exact zf222_62_fr hq hF
  · exact zr_ri hF
theorem zf222_fr {q : Nat} {v : Int32} {s' : zS} {a0 : Nat} (hq : zW222 a0 q = false) {x1 : Int32} {s : zS} (hF : zf222 a0 x1 s = some (v, s')) : s' q = s q := by
  unfold zf222 at hF
  refine zr_gf hF (fun v1 hF => ?_)
  refine zr_if hF (fun hF => ?_) (fun hF => ?_)
  · refine zr_if hF (fun hF => ?_) (fun hF => ?_)
    · exact zf222_29_fr hq hF
    · refine zr_gf hF (fun v2 hF => ?_)
      refine zr_if hF (fun hF => ?_) (fun hF => ?_)
      · exact zf222_29_fr hq hF
      · exact zf222_29_fr hq hF
  · exact zf222_29_fr hq hF
theorem zf229_fr {q : Nat} {v : Int32} {s' : zS} {a0 : Nat}  {x1 : Int32} {x2 : Int32} {s : zS} (hF : zf229 a0 x1 x2 s = some (v, s')) : s' q = s q := by
  unfold zf229 at hF
  refine zr_al hF (fun v1 hF => ?_)
  refine zr_if hF (fun hF => ?_) (fun hF => ?_)
  · refine zr_al hF (fun v2 hF => ?_)
    refine zr_if hF (fun hF => ?_) (fun hF => ?_)
    · refine zr_al hF (fun v3 hF => ?_)
      refine zr_al hF (fun v4 hF => ?_)
      refine zr_al hF (fun v5 hF => ?_)
      refine zr_if hF (fun hF => ?_) (fun hF => ?_)
      · exact zr_rb hF
      · refine zr_al hF (fun v6 hF => ?_)
        refine zr_al hF (fun v7 hF => ?_)
        refine zr_if hF (fun hF => ?_) (fun hF => ?_)
        · exact zr_rb hF
        · refine zr_al hF (fun v8 hF => ?_)
          refine zr_al hF (fun v9 hF => ?_)
          refine zr_if hF (fun hF => ?_) (fun hF => ?_)
          · exact zr_rb hF
          · exact zr_rb hF
    · exact zr_rb hF
  · refine zr_al hF (fun v10 hF => ?_)
    refine zr_if hF (fun hF => ?_) (fun hF => ?_)
    · exact zr_rb hF
    · refine zr_al hF (fun v11 hF => ?_)
      refine zr_if hF (fun hF => ?_) (fun hF => ?_)
      · exact zr_rb hF
      · refine zr_al hF (fun v12 hF => ?_)
        refine zr_if hF (fun hF => ?_) (fun hF => ?_)
        · exact zr_rb hF
        · exact zr_rb hF
def zW230 (a0 : Nat) (q : Nat) : Bool := (q == a0) || ((q == (zrf a0 55)) || false)
theorem zf230_95_fr {q : Nat} {v : Int32} {s' : zS} {a0 : Nat} (hq : zW230 a0 q = false)   {n : Nat} : ∀ {x3 : Int32} {x4 : Int32} {s : zS}, zf230_95 a0 n x3 x4 s = some (v, s') → s' q = s q := by
  induction n with
  | zero => intro x3 x4 s hF; rw [zf230_95] at hF; cases hF
  | succ n ih =>
    intro x3 x4 s hF
    rw [zf230_95] at hF
    refine zr_if hF (fun hF => ?_) (fun hF => ?_)
    · refine zr_gf hF (fun v1 hF => ?_)
      refine zr_pf hF (zo1 hq) (fun s2 hF => ?_)
      refine zr_gf hF (fun v3 hF => ?_)
      exact zr_ri hF
    · refine zr_gf hF (fun v4 hF => ?_)
      refine zr_al hF (fun v5 hF => ?_)
      refine zr_as hF (zo1 (zo2 hq)) (fun s6 hF => ?_)
      exact ih hF
theorem zf230_12_fr {q : Nat} {v : Int32} {s' : zS} {a0 : Nat} (hq : zW230 a0 q = false)   {n : Nat} : ∀ {x3 : Int32} {x4 : Int32} {s : zS}, zf230_12 a0 n x3 x4 s = some (v, s') → s' q = s q := by
  induction n with
  | zero => intro x3 x4 s hF; rw [zf230_12] at hF; cases hF
  | succ n ih =>
    intro x3 x4 s hF
    rw [zf230_12] at hF
    refine zr_gf hF (fun v1 hF => ?_)
    refine zr_if hF (fun hF => ?_) (fun hF => ?_)
    · exact zf230_95_fr hq hF
    · refine zr_al hF (fun v2 hF => ?_)
      refine zr_al hF (fun v3 hF => ?_)
      refine zr_if hF (fun hF => ?_) (fun hF => ?_)
      · exact ih hF
      · refine zr_al hF (fun v4 hF => ?_)
        refine zr_al hF (fun v5 hF => ?_)
        refine zr_if hF (fun hF => ?_) (fun hF => ?_)
        · exact ih hF
        · refine zr_al hF (fun v6 hF => ?_)
          refine zr_al hF (fun v7 hF => ?_)
          refine zr_if hF (fun hF => ?_) (fun hF => ?_)
          · exact ih hF
          · exact zr_ri hF
theorem zf230_fr {q : Nat} {v : Int32} {s' : zS} {a0 : Nat} (hq : zW230 a0 q = false) {x1 : Int32} {x2 : Int32} {s : zS} (hF : zf230 a0 x1 x2 s = some (v, s')) : s' q = s q := by
  unfold zf230 at hF
  exact zf230_12_fr hq hF
def zW232 (a0 : Nat) (q : Nat) : Bool := (q == (zrf a0 51)) || ((q == (zrf a0 52)) || false)
theorem zf232_fr {q : Nat} {s' : zS} {a0 : Nat} (hq : zW232 a0 q = false) {x1 : Int32} {x2 : Int32} {s : zS} (hF : zf232 a0 x1 x2 s = some s') : s' q = s q := by
  unfold zf232 at hF
  refine zr_al hF (fun v1 hF => ?_)
  refine zr_as hF (zo1 hq) (fun s2 hF => ?_)
  refine zr_al hF (fun v3 hF => ?_)
  refine zr_as hF (zo1 (zo2 hq)) (fun s4 hF => ?_)
  exact zr_rv hF
def zW231 (a0 : Nat) (q : Nat) : Bool := zW232 a0 q || false
theorem zf231_3_fr {q : Nat} {s' : zS} {a0 : Nat} (hq : zW231 a0 q = false)   {n : Nat} : ∀ {x1 : Int32} {x4 : Int64} {s : zS}, zf231_3 a0 n x1 x4 s = some s' → s' q = s q := by
  induction n with
  | zero => intro x1 x4 s hF; rw [zf231_3] at hF; cases hF
  | succ n ih =>
    intro x1 x4 s hF
    rw [zf231_3] at hF
    refine zr_if hF (fun hF => ?_) (fun hF => ?_)
    · exact zr_rv hF
    · refine zr_bv hF (fun _ h => zf232_fr (zo1 hq) h) (fun s2 hF => ?_)
      exact ih hF
theorem zf231_fr {q : Nat} {s' : zS} {a0 : Nat} (hq : zW231 a0 q = false) {x1 : Int32} {x2 : Int64} {s : zS} (hF : zf231 a0 x1 x2 s = some s') : s' q = s q := by
  unfold zf231 at hF
  exact zf231_3_fr hq hF
def zW233 (a0 : Nat) (q : Nat) : Bool := zW232 a0 q || false
theorem zf233_37_fr {q : Nat} {s' : zS} {a0 : Nat} (hq : zW233 a0 q = false)   {x1 : Int32} {x4 : Int32} {s : zS} (hF : zf233_37 a0 x1 x4 s = some s') : s' q = s q := by
  unfold zf233_37 at hF
  refine zr_bv hF (fun _ h => zf232_fr (zo1 hq) h) (fun s2 hF => ?_)
  refine zr_bv hF (fun _ h => zf232_fr (zo1 hq) h) (fun s4 hF => ?_)
  exact zr_rv hF
theorem zf233_fr {q : Nat} {s' : zS} {a0 : Nat} (hq : zW233 a0 q = false) {x1 : Int32} {x2 : Int32} {x3 : Int32} {x4 : Int32} {s : zS} (hF : zf233 a0 x1 x2 x3 x4 s = some s') : s' q = s q := by
  unfold zf233 at hF
  refine zr_bv hF (fun _ h => zf232_fr (zo1 hq) h) (fun s2 hF => ?_)
  refine zr_bv hF (fun _ h => zf232_fr (zo1 hq) h) (fun s4 hF => ?_)
  refine zr_bv hF (fun _ h => zf232_fr (zo1 hq) h) (fun s6 hF => ?_)
  refine zr_bv hF (fun _ h => zf232_fr (zo1 hq) h) (fun s8 hF => ?_)
  refine zr_if hF (fun hF => ?_) (fun hF => ?_)
  · exact zf233_37_fr hq hF
  · refine zr_bv hF (fun _ h => zf232_fr (zo1 hq) h) (fun s10 hF => ?_)
    exact zf233_37_fr hq hF
def zW228 (a0 : Nat) (q : Nat) : Bool := zW233 a0 q || (zW231 a0 q || ((q == (zrf a0 52)) || (zW230 a0 q || ((q == a0) || false))))
theorem zf228_165_fr {q : Nat} {s' : zS} {a0 : Nat} (hq : zW228 a0 q = false) {k77 : Int32 → zS → Option (zS)} (hk77 : ∀ x2 s, k77 x2 s = some s' → s' q = s q) {x2 : Int32} {x3 : Int32} {t0 : Int32} {t1 : Int32} {t2 : Int32} {s : zS} (hF : zf228_165 a0 k77 x2 x3 t0 t1 t2 s = some s') : s' q = s q := by
  unfold zf228_165 at hF
  refine zr_bv hF (fun _ h => zf233_fr (zo1 hq) h) (fun s2 hF => ?_)
  refine zr_al hF (fun v3 hF => ?_)
  refine zr_bv hF (fun _ h => zf233_fr (zo1 hq) h) (fun s5 hF => ?_)
  refine zr_bv hF (fun _ h => zf231_fr (zo1 (zo2 hq)) h) (fun s7 hF => ?_)
  exact hk77 _ _ hF
theorem zf228_210_fr {q : Nat} {s' : zS} {a0 : Nat} (hq : zW228 a0 q = false)    {s : zS} (hF : zf228_210 a0 s = some s') : s' q = s q := by
  unfold zf228_210 at hF
  refine zr_gf hF (fun v1 hF => ?_)
  refine zr_if hF (fun hF => ?_) (fun hF => ?_)
  · exact zr_rv hF
  · refine zr_bv hF (fun _ h => zf231_fr (zo1 (zo2 hq)) h) (fun s3 hF => ?_)
    exact zr_rv hF
theorem zf228_77_fr {q : Nat} {s' : zS} {a0 : Nat} (hq : zW228 a0 q = false)   {n : Nat} : ∀ {x2 : Int32} {s : zS}, zf228_77 a0 n x2 s = some s' → s' q = s q := by
  induction n with
  | zero => intro x2 s hF; rw [zf228_77] at hF; cases hF
  | succ n ih =>
    intro x2 s hF
    rw [zf228_77] at hF
    refine zr_gf hF (fun v1 hF => ?_)
    refine zr_if hF (fun hF => ?_) (fun hF => ?_)
    · exact zf228_210_fr hq hF
    · refine zr_gf hF (fun v2 hF => ?_)
      refine zr_if hF (fun hF => ?_) (fun hF => ?_)
      · exact zf228_210_fr hq hF
      · refine zr_bv hF (fun _ h => zf231_fr (zo1 (zo2 hq)) h) (fun s4 hF => ?_)
        refine zr_bv hF (fun _ h => zf233_fr (zo1 hq) h) (fun s6 hF => ?_)
        refine zr_al hF (fun v7 hF => ?_)
        refine zr_bv hF (fun _ h => zf233_fr (zo1 hq) h) (fun s9 hF => ?_)
        refine zr_al hF (fun v10 hF => ?_)
        refine zr_if hF (fun hF => ?_) (fun hF => ?_)
        · exact zf228_165_fr hq (fun _ _ hF => ih hF) hF
        · exact zf228_165_fr hq (fun _ _ hF => ih hF) hF
theorem zf228_72_fr {q : Nat} {s' : zS} {a0 : Nat} (hq : zW228 a0 q = false)   {t0 : Int64} {t1 : Int32} {s : zS} (hF : zf228_72 a0 t0 t1 s = some s') : s' q = s q := by
  unfold zf228_72 at hF
  refine zr_bv hF (fun _ h => zf231_fr (zo1 (zo2 hq)) h) (fun s2 hF => ?_)
  exact zf228_77_fr hq hF
theorem zf228_7_fr {q : Nat} {s' : zS} {a0 : Nat} (hq : zW228 a0 q = false)   {n : Nat} : ∀ {x1 : Int32} {x2 : Int32} {s : zS}, zf228_7 a0 n x1 x2 s = some s' → s' q = s q := by
  induction n with
  | zero => intro x1 x2 s hF; rw [zf228_7] at hF; cases hF
  | succ n ih =>
    intro x1 x2 s hF
    rw [zf228_7] at hF
    refine zr_al hF (fun v1 hF => ?_)
    refine zr_if hF (fun hF => ?_) (fun hF => ?_)
    · refine zr_as hF (zo1 (zo2 (zo2 hq))) (fun s2 hF => ?_)
      refine zr_bv hF (fun _ h => zf231_fr (zo1 (zo2 hq)) h) (fun s4 hF => ?_)
      refine zr_gf hF (fun v5 hF => ?_)
      refine zr_if hF (fun hF => ?_) (fun hF => ?_)
      · exact zf228_72_fr hq hF
      · exact zf228_72_fr hq hF
    · refine zr_bi hF (fun _ _ h => zf229_fr h) (fun v6 s7 hF => ?_)
      refine zr_if hF (fun hF => ?_) (fun hF => ?_)
      · exact ih hF
      · refine zr_bi hF (fun _ _ h => zf230_fr (zo1 (zo2 (zo2 (zo2 hq)))) h) (fun v8 s9 hF => ?_)
        exact ih hF
theorem zf228_fr {q : Nat} {s' : zS} {a0 : Nat} (hq : zW228 a0 q = false) {x1 : Int32} {s : zS} (hF : zf228 a0 x1 s = some s') : s' q = s q := by
  unfold zf228 at hF
  refine zr_pf hF (zo1 (zo2 (zo2 (zo2 (zo2 hq))))) (fun s1 hF => ?_)
  exact zf228_7_fr hq hF
theorem zf235_fr {q : Nat} {v : Int32} {s' : zS}   {x0 : Int32} {s : zS} (hF : zf235 x0 s = some (v, s')) : s' q = s q := by
  unfold zf235 at hF
  refine zr_if hF (fun hF => ?_) (fun hF => ?_)
  · refine zr_if hF (fun hF => ?_) (fun hF => ?_)
    · refine zr_if hF (fun hF => ?_) (fun hF => ?_)
      · exact zr_ri hF
      · exact zr_ri hF
    · exact zr_ri hF
  · exact zr_ri hF
def zW236 (a0 : Nat) (q : Nat) : Bool := zW231 a0 q || (zW232 a0 q || (zW230 a0 q || (zW233 a0 q || false)))
theorem zf236_46_fr {q : Nat} {s' : zS} {a0 : Nat} (hq : zW236 a0 q = false)   {n : Nat} : ∀ {x1 : Int32} {x2 : Int32} {x3 : Int32} {x4 : Int32} {s : zS}, zf236_46 a0 n x1 x2 x3 x4 s = some s' → s' q = s q := by
  induction n with
  | zero => intro x1 x2 x3 x4 s hF; rw [zf236_46] at hF; cases hF
  | succ n ih =>
    intro x1 x2 x3 x4 s hF
    rw [zf236_46] at hF
    refine zr_al hF (fun v1 hF => ?_)
    refine zr_if hF (fun hF => ?_) (fun hF => ?_)
    · refine zr_if hF (fun hF => ?_) (fun hF => ?_)
      · exact zr_rv hF
      · refine zr_bv hF (fun _ h => zf231_fr (zo1 hq) h) (fun s3 hF => ?_)
        exact zr_rv hF
    · refine zr_al hF (fun v4 hF => ?_)
      refine zr_al hF (fun v5 hF => ?_)
      refine zr_bv hF (fun _ h => zf232_fr (zo1 (zo2 hq)) h) (fun s7 hF => ?_)
      exact ih hF
theorem zf236_fr {q : Nat} {s' : zS} {a0 : Nat} (hq : zW236 a0 q = false) {x1 : Int32} {x2 : Int32} {s : zS} (hF : zf236 a0 x1 x2 s = some s') : s' q = s q := by
  unfold zf236 at hF
  refine zr_bi hF (fun _ _ h => zf229_fr h) (fun v1 s2 hF => ?_)
  refine zr_if hF (fun hF => ?_) (fun hF => ?_)
  · exact zf236_46_fr hq hF
  · refine zr_bv hF (fun _ h => zf231_fr (zo1 hq) h) (fun s4 hF => ?_)
    refine zr_bi hF (fun _ _ h => zf230_fr (zo1 (zo2 (zo2 hq))) h) (fun v5 s6 hF => ?_)
    refine zr_bv hF (fun _ h => zf233_fr (zo1 (zo2 (zo2 (zo2 hq)))) h) (fun s8 hF => ?_)
    refine zr_bv hF (fun _ h => zf232_fr (zo1 (zo2 hq)) h) (fun s10 hF => ?_)
    exact zf236_46_fr hq hF
def zW234 (a0 : Nat) (q : Nat) : Bool := zW231 a0 q || (zW232 a0 q || (zW230 a0 q || (zW233 a0 q || (zW236 a0 q || ((q == (zrf a0 52)) || false)))))
theorem zf234_251_fr {q : Nat} {s' : zS} {a0 : Nat} (hq : zW234 a0 q = false) {k11 : Int32 → Int32 → Int32 → zS → Option (zS)} (hk11 : ∀ x1 x2 x3 s, k11 x1 x2 x3 s = some s' → s' q = s q) {x1 : Int32} {x2 : Int32} {x3 : Int32} {x5 : Int32} {t0 : Int64} {t1 : Int32} {s : zS} (hF : zf234_251 a0 k11 x1 x2 x3 x5 t0 t1 s = some s') : s' q = s q := by
  unfold zf234_251 at hF
  refine zr_bv hF (fun _ h => zf231_fr (zo1 hq) h) (fun s2 hF => ?_)
  refine zr_if hF (fun hF => ?_) (fun hF => ?_)
  · exact hk11 _ _ _ _ hF
  · exact hk11 _ _ _ _ hF
theorem zf234_233_fr {q : Nat} {s' : zS} {a0 : Nat} (hq : zW234 a0 q = false) {k11 : Int32 → Int32 → Int32 → zS → Option (zS)} (hk11 : ∀ x1 x2 x3 s, k11 x1 x2 x3 s = some s' → s' q = s q) {x1 : Int32} {x2 : Int32} {x3 : Int32} {t0 : Int32} {s : zS} (hF : zf234_233 a0 k11 x1 x2 x3 t0 s = some s') : s' q = s q := by
  unfold zf234_233 at hF
  refine zr_if hF (fun hF => ?_) (fun hF => ?_)
  · exact zf234_251_fr hq hk11 hF
  · exact zf234_251_fr hq hk11 hF
theorem zf234_199_fr {q : Nat} {s' : zS} {a0 : Nat} (hq : zW234 a0 q = false) {k11 : Int32 → Int32 → Int32 → zS → Option (zS)} (hk11 : ∀ x1 x2 x3 s, k11 x1 x2 x3 s = some s' → s' q = s q) {x1 : Int32} {x2 : Int32} {x3 : Int32} {s : zS} (hF : zf234_199 a0 k11 x1 x2 x3 s = some s') : s' q = s q := by
  unfold zf234_199 at hF
  refine zr_al hF (fun v1 hF => ?_)
  refine zr_if hF (fun hF => ?_) (fun hF => ?_)
  · exact zf234_233_fr hq hk11 hF
  · refine zr_al hF (fun v2 hF => ?_)
    refine zr_if hF (fun hF => ?_) (fun hF => ?_)
    · exact zf234_233_fr hq hk11 hF
    · exact zf234_233_fr hq hk11 hF
theorem zf234_137_fr {q : Nat} {s' : zS} {a0 : Nat} (hq : zW234 a0 q = false) {k11 : Int32 → Int32 → Int32 → zS → Option (zS)} (hk11 : ∀ x1 x2 x3 s, k11 x1 x2 x3 s = some s' → s' q = s q) {x1 : Int32} {x2 : Int32} {x3 : Int32} {s : zS} (hF : zf234_137 a0 k11 x1 x2 x3 s = some s') : s' q = s q := by
  unfold zf234_137 at hF
  refine zr_al hF (fun v1 hF => ?_)
  refine zr_if hF (fun hF => ?_) (fun hF => ?_)
  · exact hk11 _ _ _ _ hF
  · refine zr_bv hF (fun _ h => zf232_fr (zo1 (zo2 hq)) h) (fun s3 hF => ?_)
    refine zr_al hF (fun v4 hF => ?_)
    refine zr_bi hF (fun _ _ h => zf235_fr h) (fun v5 s6 hF => ?_)
    refine zr_bv hF (fun _ h => zf232_fr (zo1 (zo2 hq)) h) (fun s8 hF => ?_)
    refine zr_bi hF (fun _ _ h => zf229_fr h) (fun v9 s10 hF => ?_)
    refine zr_if hF (fun hF => ?_) (fun hF => ?_)
    · exact zf234_199_fr hq hk11 hF
    · refine zr_bi hF (fun _ _ h => zf230_fr (zo1 (zo2 (zo2 hq))) h) (fun v11 s12 hF => ?_)
      refine zr_bv hF (fun _ h => zf233_fr (zo1 (zo2 (zo2 (zo2 hq)))) h) (fun s14 hF => ?_)
      exact zf234_199_fr hq hk11 hF
theorem zf234_48_fr {q : Nat} {s' : zS} {a0 : Nat} (hq : zW234 a0 q = false) {k11 : Int32 → Int32 → Int32 → zS → Option (zS)} (hk11 : ∀ x1 x2 x3 s, k11 x1 x2 x3 s = some s' → s' q = s q) {n : Nat} : ∀ {x1 : Int32} {x2 : Int32} {x3 : Int32} {x4 : Int32} {s : zS}, zf234_48 a0 k11 n x1 x2 x3 x4 s = some s' → s' q = s q := by
  induction n with
  | zero => intro x1 x2 x3 x4 s hF; rw [zf234_48] at hF; cases hF
  | succ n ih =>
    intro x1 x2 x3 x4 s hF
    rw [zf234_48] at hF
    refine zr_if hF (fun hF => ?_) (fun hF => ?_)
    · refine zr_al hF (fun v1 hF => ?_)
      refine zr_if hF (fun hF => ?_) (fun hF => ?_)
      · exact zf234_137_fr hq hk11 hF
      · refine zr_al hF (fun v2 hF => ?_)
        refine zr_if hF (fun hF => ?_) (fun hF => ?_)
        · exact zf234_137_fr hq hk11 hF
        · refine zr_bv hF (fun _ h => zf236_fr (zo1 (zo2 (zo2 (zo2 (zo2 hq))))) h) (fun s4 hF => ?_)
          exact hk11 _ _ _ _ hF
    · refine zr_bv hF (fun _ h => zf231_fr (zo1 hq) h) (fun s6 hF => ?_)
      refine zr_al hF (fun v7 hF => ?_)
      refine zr_bi hF (fun _ _ h => zf235_fr h) (fun v8 s9 hF => ?_)
      refine zr_bv hF (fun _ h => zf232_fr (zo1 (zo2 hq)) h) (fun s11 hF => ?_)
      refine zr_bv hF (fun _ h => zf232_fr (zo1 (zo2 hq)) h) (fun s13 hF => ?_)
      refine zr_al hF (fun v14 hF => ?_)
      exact ih hF
theorem zf234_11_fr {q : Nat} {s' : zS} {a0 : Nat} (hq : zW234 a0 q = false)   {n : Nat} : ∀ {x1 : Int32} {x2 : Int32} {x3 : Int32} {s : zS}, zf234_11 a0 n x1 x2 x3 s = some s' → s' q = s q := by
  induction n with
  | zero => intro x1 x2 x3 s hF; rw [zf234_11] at hF; cases hF
  | succ n ih =>
    intro x1 x2 x3 s hF
    rw [zf234_11] at hF
    refine zr_al hF (fun v1 hF => ?_)
    refine zr_if hF (fun hF => ?_) (fun hF => ?_)
    · exact zr_rv hF
    · refine zr_al hF (fun v2 hF => ?_)
      refine zr_if hF (fun hF => ?_) (fun hF => ?_)
      · exact zf234_48_fr hq (fun _ _ _ _ hF => ih hF) hF
      · refine zr_al hF (fun v3 hF => ?_)
        exact zf234_48_fr hq (fun _ _ _ _ hF => ih hF) hF
theorem zf234_fr {q : Nat} {s' : zS} {a0 : Nat} (hq : zW234 a0 q = false) {x1 : Int32} {s : zS} (hF : zf234 a0 x1 s = some s') : s' q = s q := by
  unfold zf234 at hF
  refine zr_as hF (zo1 (zo2 (zo2 (zo2 (zo2 (zo2 hq)))))) (fun s1 hF => ?_)
  exact zf234_11_fr hq hF
