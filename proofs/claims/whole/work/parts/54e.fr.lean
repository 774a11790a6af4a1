/-! What the methods leave alone: zW<y> says of a place whether the method may write there (printed by wip/gen/fgen.py). -/
set_option maxRecDepth 100000
set_option linter.unusedVariables false
theorem zf238_3_fr {q : Nat} {v : Int32} {s' : zS} {a0 : Nat}    {n : Nat} : ∀ {x1 : Int32} {x2 : Int32} {x3 : Int32} {x4 : Int32} {s : zS}, zf238_3 a0 n x1 x2 x3 x4 s = some (v, s') → s' q = s q := by
  induction n with
  | zero => intro x1 x2 x3 x4 s hF; rw [zf238_3] at hF; cases hF
  | succ n ih =>
    intro x1 x2 x3 x4 s hF
    rw [zf238_3] at hF
    refine zr_if hF (fun hF => ?_) (fun hF => ?_)
    · exact zr_ri hF
    · refine zr_al hF (fun v1 hF => ?_)
      refine zr_if hF (fun hF => ?_) (fun hF => ?_)
      · exact zr_ri hF
      · refine zr_al hF (fun v2 hF => ?_)
        refine zr_al hF (fun v3 hF => ?_)
        refine zr_if hF (fun hF => ?_) (fun hF => ?_)
        · exact zr_ri hF
        · exact ih hF
theorem zf238_fr {q : Nat} {v : Int32} {s' : zS} {a0 : Nat}  {x1 : Int32} {x2 : Int32} {x3 : Int32} {s : zS} (hF : zf238 a0 x1 x2 x3 s = some (v, s')) : s' q = s q := by
  unfold zf238 at hF
  exact zf238_3_fr  hF
def zW239 (a0 : Nat) (q : Nat) : Bool := (q == (zrf a0 53)) || ((q == (zrf a0 54)) || false)
theorem zf239_fr {q : Nat} {s' : zS} {a0 : Nat} (hq : zW239 a0 q = false) {x1 : Int32} {x2 : Int32} {s : zS} (hF : zf239 a0 x1 x2 s = some s') : s' q = s q := by
  unfold zf239 at hF
  refine zr_al hF (fun v1 hF => ?_)
  refine zr_as hF (zo1 hq) (fun s2 hF => ?_)
  refine zr_al hF (fun v3 hF => ?_)
  refine zr_as hF (zo1 (zo2 hq)) (fun s4 hF => ?_)
  exact zr_rv hF
def zW237 (a0 : Nat) (q : Nat) : Bool := zW239 a0 q || ((q == (zrf a0 54)) || false)
theorem zf237_70_fr {q : Nat} {s' : zS} {a0 : Nat} (hq : zW237 a0 q = false) {k9 : Int32 → Int32 → Int32 → zS → Option (zS)} {k28 : Int32 → Int32 → Int32 → Int32 → Int32 → Int32 → zS → Option (zS)} (hk9 : ∀ x1 x2 x3 s, k9 x1 x2 x3 s = some s' → s' q = s q) (hk28 : ∀ x1 x2 x3 x4 x5 x6 s, k28 x1 x2 x3 x4 x5 x6 s = some s' → s' q = s q) {x1 : Int32} {x2 : Int32} {x3 : Int32} {x4 : Int32} {x6 : Int32} {x7 : Int32} {t0 : Int32} {s : zS} (hF : zf237_70 a0 k9 k28 x1 x2 x3 x4 x6 x7 t0 s = some s') : s' q = s q := by
  unfold zf237_70 at hF
  refine zr_if hF (fun hF => ?_) (fun hF => ?_)
  · exact hk28 _ _ _ _ _ _ _ hF
  · exact hk28 _ _ _ _ _ _ _ hF
theorem zf237_94_fr {q : Nat} {s' : zS} {a0 : Nat} (hq : zW237 a0 q = false) {k9 : Int32 → Int32 → Int32 → zS → Option (zS)} (hk9 : ∀ x1 x2 x3 s, k9 x1 x2 x3 s = some s' → s' q = s q) {x1 : Int32} {x2 : Int32} {x3 : Int32} {x4 : Int32} {x5 : Int32} {s : zS} (hF : zf237_94 a0 k9 x1 x2 x3 x4 x5 s = some s') : s' q = s q := by
  unfold zf237_94 at hF
  refine zr_if hF (fun hF => ?_) (fun hF => ?_)
  · refine zr_al hF (fun v1 hF => ?_)
    refine zr_bv hF (fun _ h => zf239_fr (zo1 hq) h) (fun s3 hF => ?_)
    exact hk9 _ _ _ _ hF
  · refine zr_bv hF (fun _ h => zf239_fr (zo1 hq) h) (fun s5 hF => ?_)
    refine zr_bv hF (fun _ h => zf239_fr (zo1 hq) h) (fun s7 hF => ?_)
    refine zr_bv hF (fun _ h => zf239_fr (zo1 hq) h) (fun s9 hF => ?_)
    refine zr_bv hF (fun _ h => zf239_fr (zo1 hq) h) (fun s11 hF => ?_)
    exact hk9 _ _ _ _ hF
theorem zf237_28_fr {q : Nat} {s' : zS} {a0 : Nat} (hq : zW237 a0 q = false) {k9 : Int32 → Int32 → Int32 → zS → Option (zS)} (hk9 : ∀ x1 x2 x3 s, k9 x1 x2 x3 s = some s' → s' q = s q) {n : Nat} : ∀ {x1 : Int32} {x2 : Int32} {x3 : Int32} {x4 : Int32} {x5 : Int32} {x6 : Int32} {s : zS}, zf237_28 a0 k9 n x1 x2 x3 x4 x5 x6 s = some s' → s' q = s q := by
  induction n with
  | zero => intro x1 x2 x3 x4 x5 x6 s hF; rw [zf237_28] at hF; cases hF
  | succ n ih =>
    intro x1 x2 x3 x4 x5 x6 s hF
    rw [zf237_28] at hF
    refine zr_if hF (fun hF => ?_) (fun hF => ?_)
    · exact zf237_94_fr hq hk9 hF
    · refine zr_if hF (fun hF => ?_) (fun hF => ?_)
      · exact zf237_94_fr hq hk9 hF
      · refine zr_if hF (fun hF => ?_) (fun hF => ?_)
        · exact zf237_94_fr hq hk9 hF
        · refine zr_bi hF (fun _ _ h => zf238_fr h) (fun v1 s2 hF => ?_)
          refine zr_if hF (fun hF => ?_) (fun hF => ?_)
          · exact zf237_70_fr hq hk9 (fun _ _ _ _ _ _ _ hF => ih hF) hF
          · exact zf237_70_fr hq hk9 (fun _ _ _ _ _ _ _ hF => ih hF) hF
theorem zf237_9_fr {q : Nat} {s' : zS} {a0 : Nat} (hq : zW237 a0 q = false)   {n : Nat} : ∀ {x1 : Int32} {x2 : Int32} {x3 : Int32} {s : zS}, zf237_9 a0 n x1 x2 x3 s = some s' → s' q = s q := by
  induction n with
  | zero => intro x1 x2 x3 s hF; rw [zf237_9] at hF; cases hF
  | succ n ih =>
    intro x1 x2 x3 s hF
    rw [zf237_9] at hF
    refine zr_al hF (fun v1 hF => ?_)
    refine zr_if hF (fun hF => ?_) (fun hF => ?_)
    · exact zr_rv hF
    · exact zf237_28_fr hq (fun _ _ _ _ hF => ih hF) hF
theorem zf237_fr {q : Nat} {s' : zS} {a0 : Nat} (hq : zW237 a0 q = false) {x1 : Int32} {x2 : Int32} {s : zS} (hF : zf237 a0 x1 x2 s = some s') : s' q = s q := by
  unfold zf237 at hF
  refine zr_as hF (zo1 (zo2 hq)) (fun s1 hF => ?_)
  exact zf237_9_fr hq hF
def zW241 (a0 : Nat) (q : Nat) : Bool := (q == (zrf a0 1)) || ((q == a0) || false)
theorem zf241_fr {q : Nat} {s' : zS} {a0 : Nat} (hq : zW241 a0 q = false) {x1 : Int32} {s : zS} (hF : zf241 a0 x1 s = some s') : s' q = s q := by
  unfold zf241 at hF
  refine zr_gf hF (fun v1 hF => ?_)
  refine zr_as hF (zo1 hq) (fun s2 hF => ?_)
  refine zr_gf hF (fun v3 hF => ?_)
  refine zr_pf hF (zo1 (zo2 hq)) (fun s4 hF => ?_)
  exact zr_rv hF
theorem zf242_fr {q : Nat} {v : Int32} {s' : zS}   {x0 : Int32} {s : zS} (hF : zf242 x0 s = some (v, s')) : s' q = s q := by
  unfold zf242 at hF
  refine zr_if hF (fun hF => ?_) (fun hF => ?_)
  · exact zr_ri hF
  · exact zr_ri hF
def zW240 (a0 : Nat) (q : Nat) : Bool := zW241 a0 q || false
theorem zf240_153_fr {q : Nat} {s' : zS} {a0 : Nat} (hq : zW240 a0 q = false)   {n : Nat} : ∀ {x3 : Int32} {x4 : Int32} {s : zS}, zf240_153 a0 n x3 x4 s = some s' → s' q = s q := by
  induction n with
  | zero => intro x3 x4 s hF; rw [zf240_153] at hF; cases hF
  | succ n ih =>
    intro x3 x4 s hF
    rw [zf240_153] at hF
    refine zr_if hF (fun hF => ?_) (fun hF => ?_)
    · exact zr_rv hF
    · refine zr_bi hF (fun _ _ h => zf242_fr h) (fun v1 s2 hF => ?_)
      refine zr_bv hF (fun _ h => zf241_fr (zo1 hq) h) (fun s4 hF => ?_)
      exact ih hF
theorem zf240_114_fr {q : Nat} {s' : zS} {a0 : Nat} (hq : zW240 a0 q = false)   {n : Nat} : ∀ {x1 : Int32} {x3 : Int32} {x4 : Int32} {s : zS}, zf240_114 a0 n x1 x3 x4 s = some s' → s' q = s q := by
  induction n with
  | zero => intro x1 x3 x4 s hF; rw [zf240_114] at hF; cases hF
  | succ n ih =>
    intro x1 x3 x4 s hF
    rw [zf240_114] at hF
    refine zr_al hF (fun v1 hF => ?_)
    refine zr_if hF (fun hF => ?_) (fun hF => ?_)
    · exact zf240_153_fr hq hF
    · refine zr_al hF (fun v2 hF => ?_)
      refine zr_bi hF (fun _ _ h => zf163_fr h) (fun v3 s4 hF => ?_)
      exact ih hF
theorem zf240_76_fr {q : Nat} {s' : zS} {a0 : Nat} (hq : zW240 a0 q = false)   {n : Nat} : ∀ {x1 : Int32} {x3 : Int32} {s : zS}, zf240_76 a0 n x1 x3 s = some s' → s' q = s q := by
  induction n with
  | zero => intro x1 x3 s hF; rw [zf240_76] at hF; cases hF
  | succ n ih =>
    intro x1 x3 s hF
    rw [zf240_76] at hF
    refine zr_al hF (fun v1 hF => ?_)
    refine zr_if hF (fun hF => ?_) (fun hF => ?_)
    · exact zf240_114_fr hq hF
    · refine zr_al hF (fun v2 hF => ?_)
      refine zr_bv hF (fun _ h => zf241_fr (zo1 hq) h) (fun s4 hF => ?_)
      exact ih hF
theorem zf240_12_fr {q : Nat} {s' : zS} {a0 : Nat} (hq : zW240 a0 q = false)   {x1 : Int32} {x2 : Int32} {t0 : Int32} {s : zS} (hF : zf240_12 a0 x1 x2 t0 s = some s') : s' q = s q := by
  unfold zf240_12 at hF
  refine zr_bv hF (fun _ h => zf241_fr (zo1 hq) h) (fun s2 hF => ?_)
  refine zr_bv hF (fun _ h => zf241_fr (zo1 hq) h) (fun s4 hF => ?_)
  refine zr_al hF (fun v5 hF => ?_)
  refine zr_bv hF (fun _ h => zf241_fr (zo1 hq) h) (fun s7 hF => ?_)
  refine zr_al hF (fun v8 hF => ?_)
  refine zr_bv hF (fun _ h => zf241_fr (zo1 hq) h) (fun s10 hF => ?_)
  refine zr_al hF (fun v11 hF => ?_)
  refine zr_bv hF (fun _ h => zf241_fr (zo1 hq) h) (fun s13 hF => ?_)
  exact zf240_76_fr hq hF
theorem zf240_fr {q : Nat} {s' : zS} {a0 : Nat} (hq : zW240 a0 q = false) {x1 : Int32} {x2 : Int32} {s : zS} (hF : zf240 a0 x1 x2 s = some s') : s' q = s q := by
  unfold zf240 at hF
  refine zr_if hF (fun hF => ?_) (fun hF => ?_)
  · exact zf240_12_fr hq hF
  · exact zf240_12_fr hq hF
def zW227 (a0 : Nat) (q : Nat) : Bool := zW207 a0 q || ((q == a0) || (zW228 a0 q || (zW234 a0 q || (zW237 a0 q || (zW240 a0 q || false)))))
theorem zf227_90_fr {q : Nat} {v : Int32} {s' : zS} {a0 : Nat} (hq : zW227 a0 q = false)    {s : zS} (hF : zf227_90 a0 s = some (v, s')) : s' q = s q := by
  unfold zf227_90 at hF
  refine zr_bi hF (fun _ _ h => zf207_fr (zo1 hq) h) (fun v1 s2 hF => ?_)
  exact zr_ri hF
theorem zf227_35_fr {q : Nat} {v : Int32} {s' : zS} {a0 : Nat} (hq : zW227 a0 q = false)   {x1 : Int32} {x2 : Int32} {t0 : Int32} {s : zS} (hF : zf227_35 a0 x1 x2 t0 s = some (v, s')) : s' q = s q := by
  unfold zf227_35 at hF
  refine zr_pf hF (zo1 (zo2 hq)) (fun s1 hF => ?_)
  refine zr_gf hF (fun v2 hF => ?_)
  refine zr_if hF (fun hF => ?_) (fun hF => ?_)
  · refine zr_bv hF (fun _ h => zf228_fr (zo1 (zo2 (zo2 hq))) h) (fun s4 hF => ?_)
    refine zr_bv hF (fun _ h => zf234_fr (zo1 (zo2 (zo2 (zo2 hq)))) h) (fun s6 hF => ?_)
    refine zr_gf hF (fun v7 hF => ?_)
    refine zr_if hF (fun hF => ?_) (fun hF => ?_)
    · exact zf227_90_fr hq hF
    · refine zr_al hF (fun v8 hF => ?_)
      refine zr_if hF (fun hF => ?_) (fun hF => ?_)
      · exact zf227_90_fr hq hF
      · refine zr_al hF (fun v9 hF => ?_)
        refine zr_if hF (fun hF => ?_) (fun hF => ?_)
        · refine zr_bv hF (fun _ h => zf237_fr (zo1 (zo2 (zo2 (zo2 (zo2 hq))))) h) (fun s11 hF => ?_)
          refine zr_bv hF (fun _ h => zf237_fr (zo1 (zo2 (zo2 (zo2 (zo2 hq))))) h) (fun s13 hF => ?_)
          refine zr_al hF (fun v14 hF => ?_)
          refine zr_al hF (fun v15 hF => ?_)
          refine zr_if hF (fun hF => ?_) (fun hF => ?_)
          · refine zr_pf hF (zo1 (zo2 hq)) (fun s16 hF => ?_)
            refine zr_bv hF (fun _ h => zf240_fr (zo1 (zo2 (zo2 (zo2 (zo2 (zo2 hq)))))) h) (fun s18 hF => ?_)
            refine zr_bv hF (fun _ h => zf240_fr (zo1 (zo2 (zo2 (zo2 (zo2 (zo2 hq)))))) h) (fun s20 hF => ?_)
            refine zr_gf hF (fun v21 hF => ?_)
            exact zr_ri hF
          · refine zr_bi hF (fun _ _ h => zf207_fr (zo1 hq) h) (fun v22 s23 hF => ?_)
            exact zr_ri hF
        · exact zf227_90_fr hq hF
  · exact zr_ri hF
theorem zf227_21_fr {q : Nat} {v : Int32} {s' : zS} {a0 : Nat} (hq : zW227 a0 q = false)   {x1 : Int32} {x2 : Int32} {s : zS} (hF : zf227_21 a0 x1 x2 s = some (v, s')) : s' q = s q := by
  unfold zf227_21 at hF
  refine zr_al hF (fun v1 hF => ?_)
  refine zr_if hF (fun hF => ?_) (fun hF => ?_)
  · exact zf227_35_fr hq hF
  · exact zf227_35_fr hq hF
theorem zf227_fr {q : Nat} {v : Int32} {s' : zS} {a0 : Nat} (hq : zW227 a0 q = false) {x1 : Int32} {x2 : Int32} {s : zS} (hF : zf227 a0 x1 x2 s = some (v, s')) : s' q = s q := by
  unfold zf227 at hF
  refine zr_bi hF (fun _ _ h => zf202_fr h) (fun v1 s2 hF => ?_)
  refine zr_if hF (fun hF => ?_) (fun hF => ?_)
  · exact zf227_35_fr hq hF
  · refine zr_if hF (fun hF => ?_) (fun hF => ?_)
    · exact zf227_21_fr hq hF
    · refine zr_if hF (fun hF => ?_) (fun hF => ?_)
      · exact zf227_21_fr hq hF
      · exact zf227_35_fr hq hF
