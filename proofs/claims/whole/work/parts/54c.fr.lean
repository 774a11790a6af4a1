/-! What the methods leave alone: zW<y> says of a place whether the method may write there (printed by wip/gen/fgen.py). -/
set_option maxRecDepth 100000
set_option linter.unusedVariables false
def zW160 (a0 : Nat) (q : Nat) : Bool := (q == (zrf a0 7)) || ((q == (zrf a0 8)) || false)
theorem zf160_116_fr {q : Nat} {v : Int32} {s' : zS} {a0 : Nat} (hq : zW160 a0 q = false) {k24 : Int32 → Int32 → Int32 → Int32 → zS → Option (Int32 × zS)} (hk24 : ∀ x1 x2 x3 x4 s, k24 x1 x2 x3 x4 s = some (v, s') → s' q = s q) {n : Nat} : ∀ {x1 : Int32} {x2 : Int32} {x3 : Int32} {x4 : Int32} {x5 : Int32} {x6 : Int32} {x7 : Int32} {x8 : Int32} {s : zS}, zf160_116 a0 k24 n x1 x2 x3 x4 x5 x6 x7 x8 s = some (v, s') → s' q = s q := by
  induction n with
  | zero => intro x1 x2 x3 x4 x5 x6 x7 x8 s hF; rw [zf160_116] at hF; cases hF
  | succ n ih =>
    intro x1 x2 x3 x4 x5 x6 x7 x8 s hF
    rw [zf160_116] at hF
    refine zr_if hF (fun hF => ?_) (fun hF => ?_)
    · refine zr_if hF (fun hF => ?_) (fun hF => ?_)
      · exact hk24 _ _ _ _ _ hF
      · exact hk24 _ _ _ _ _ hF
    · refine zr_if hF (fun hF => ?_) (fun hF => ?_)
      · refine zr_al hF (fun v1 hF => ?_)
        refine zr_as hF (zo1 hq) (fun s2 hF => ?_)
        exact ih hF
      · refine zr_al hF (fun v3 hF => ?_)
        refine zr_as hF (zo1 hq) (fun s4 hF => ?_)
        exact ih hF
theorem zf160_93_fr {q : Nat} {v : Int32} {s' : zS} {a0 : Nat} (hq : zW160 a0 q = false) {k24 : Int32 → Int32 → Int32 → Int32 → zS → Option (Int32 × zS)} (hk24 : ∀ x1 x2 x3 x4 s, k24 x1 x2 x3 x4 s = some (v, s') → s' q = s q) {x1 : Int32} {x2 : Int32} {x3 : Int32} {x4 : Int32} {x5 : Int32} {x6 : Int32} {t0 : Int32} {s : zS} (hF : zf160_93 a0 k24 x1 x2 x3 x4 x5 x6 t0 s = some (v, s')) : s' q = s q := by
  unfold zf160_93 at hF
  refine zr_if hF (fun hF => ?_) (fun hF => ?_)
  · exact zr_ri hF
  · refine zr_if hF (fun hF => ?_) (fun hF => ?_)
    · exact zf160_116_fr hq hk24 hF
    · exact zr_ri hF
theorem zf160_76_fr {q : Nat} {v : Int32} {s' : zS} {a0 : Nat} (hq : zW160 a0 q = false) {k24 : Int32 → Int32 → Int32 → Int32 → zS → Option (Int32 × zS)} (hk24 : ∀ x1 x2 x3 x4 s, k24 x1 x2 x3 x4 s = some (v, s') → s' q = s q) {x1 : Int32} {x2 : Int32} {x3 : Int32} {x4 : Int32} {x5 : Int32} {t0 : Int32} {s : zS} (hF : zf160_76 a0 k24 x1 x2 x3 x4 x5 t0 s = some (v, s')) : s' q = s q := by
  unfold zf160_76 at hF
  refine zr_if hF (fun hF => ?_) (fun hF => ?_)
  · exact zf160_93_fr hq hk24 hF
  · exact zf160_93_fr hq hk24 hF
theorem zf160_57_fr {q : Nat} {v : Int32} {s' : zS} {a0 : Nat} (hq : zW160 a0 q = false) {k24 : Int32 → Int32 → Int32 → Int32 → zS → Option (Int32 × zS)} (hk24 : ∀ x1 x2 x3 x4 s, k24 x1 x2 x3 x4 s = some (v, s') → s' q = s q) {x1 : Int32} {x2 : Int32} {x3 : Int32} {x4 : Int32} {t0 : Int32} {s : zS} (hF : zf160_57 a0 k24 x1 x2 x3 x4 t0 s = some (v, s')) : s' q = s q := by
  unfold zf160_57 at hF
  refine zr_if hF (fun hF => ?_) (fun hF => ?_)
  · exact zf160_76_fr hq hk24 hF
  · refine zr_bi hF (fun _ _ h => zf161_fr h) (fun v1 s2 hF => ?_)
    exact zf160_76_fr hq hk24 hF
theorem zf160_24_fr {q : Nat} {v : Int32} {s' : zS} {a0 : Nat} (hq : zW160 a0 q = false)   {n : Nat} : ∀ {x1 : Int32} {x2 : Int32} {x3 : Int32} {x4 : Int32} {s : zS}, zf160_24 a0 n x1 x2 x3 x4 s = some (v, s') → s' q = s q := by
  induction n with
  | zero => intro x1 x2 x3 x4 s hF; rw [zf160_24] at hF; cases hF
  | succ n ih =>
    intro x1 x2 x3 x4 s hF
    rw [zf160_24] at hF
    refine zr_if hF (fun hF => ?_) (fun hF => ?_)
    · refine zr_as hF (zo1 (zo2 hq)) (fun s1 hF => ?_)
      exact zr_ri hF
    · refine zr_al hF (fun v2 hF => ?_)
      refine zr_if hF (fun hF => ?_) (fun hF => ?_)
      · exact zf160_57_fr hq (fun _ _ _ _ _ hF => ih hF) hF
      · refine zr_al hF (fun v3 hF => ?_)
        refine zr_if hF (fun hF => ?_) (fun hF => ?_)
        · exact zf160_57_fr hq (fun _ _ _ _ _ hF => ih hF) hF
        · exact zf160_57_fr hq (fun _ _ _ _ _ hF => ih hF) hF
theorem zf160_fr {q : Nat} {v : Int32} {s' : zS} {a0 : Nat} (hq : zW160 a0 q = false) {x1 : Int32} {s : zS} (hF : zf160 a0 x1 s = some (v, s')) : s' q = s q := by
  unfold zf160 at hF
  refine zr_al hF (fun v1 hF => ?_)
  refine zr_al hF (fun v2 hF => ?_)
  refine zr_al hF (fun v3 hF => ?_)
  exact zf160_24_fr hq hF
theorem zf163_10_fr {q : Nat} {v : Int32} {s' : zS}     {n : Nat} : ∀ {x2 : Int32} {x3 : Int32} {s : zS}, zf163_10 n x2 x3 s = some (v, s') → s' q = s q := by
  induction n with
  | zero => intro x2 x3 s hF; rw [zf163_10] at hF; cases hF
  | succ n ih =>
    intro x2 x3 s hF
    rw [zf163_10] at hF
    refine zr_if hF (fun hF => ?_) (fun hF => ?_)
    · exact zr_ri hF
    · refine zr_if hF (fun hF => ?_) (fun hF => ?_)
      · exact ih hF
      · exact ih hF
theorem zf163_fr {q : Nat} {v : Int32} {s' : zS}   {x0 : Int32} {x1 : Int32} {s : zS} (hF : zf163 x0 x1 s = some (v, s')) : s' q = s q := by
  unfold zf163 at hF
  exact zf163_10_fr  hF
theorem zf162_43_fr {q : Nat} {v : Int32} {s' : zS} {a0 : Nat}    {n : Nat} : ∀ {x1 : Int32} {x2 : Int32} {x3 : Int32} {x4 : Int32} {s : zS}, zf162_43 a0 n x1 x2 x3 x4 s = some (v, s') → s' q = s q := by
  induction n with
  | zero => intro x1 x2 x3 x4 s hF; rw [zf162_43] at hF; cases hF
  | succ n ih =>
    intro x1 x2 x3 x4 s hF
    rw [zf162_43] at hF
    refine zr_if hF (fun hF => ?_) (fun hF => ?_)
    · refine zr_if hF (fun hF => ?_) (fun hF => ?_)
      · exact zr_rb hF
      · exact zr_rb hF
    · refine zr_al hF (fun v1 hF => ?_)
      refine zr_al hF (fun v2 hF => ?_)
      refine zr_al hF (fun v3 hF => ?_)
      refine zr_bi hF (fun _ _ h => zf157_fr h) (fun v4 s5 hF => ?_)
      exact ih hF
theorem zf162_5_fr {q : Nat} {v : Int32} {s' : zS} {a0 : Nat}    {n : Nat} : ∀ {x1 : Int32} {x2 : Int32} {x3 : Int32} {s : zS}, zf162_5 a0 n x1 x2 x3 s = some (v, s') → s' q = s q := by
  induction n with
  | zero => intro x1 x2 x3 s hF; rw [zf162_5] at hF; cases hF
  | succ n ih =>
    intro x1 x2 x3 s hF
    rw [zf162_5] at hF
    refine zr_al hF (fun v1 hF => ?_)
    refine zr_if hF (fun hF => ?_) (fun hF => ?_)
    · exact zf162_43_fr  hF
    · refine zr_al hF (fun v2 hF => ?_)
      refine zr_bi hF (fun _ _ h => zf163_fr h) (fun v3 s4 hF => ?_)
      exact ih hF
theorem zf162_fr {q : Nat} {v : Int32} {s' : zS} {a0 : Nat}  {x1 : Int32} {s : zS} (hF : zf162 a0 x1 s = some (v, s')) : s' q = s q := by
  unfold zf162 at hF
  exact zf162_5_fr  hF
def zW159 (a0 : Nat) (q : Nat) : Bool := zW160 a0 q || (zW158 a0 q || false)
theorem zf159_fr {q : Nat} {v : Int32} {s' : zS} {a0 : Nat} (hq : zW159 a0 q = false) {x1 : Int32} {s : zS} (hF : zf159 a0 x1 s = some (v, s')) : s' q = s q := by
  unfold zf159 at hF
  refine zr_bi hF (fun _ _ h => zf160_fr (zo1 hq) h) (fun v1 s2 hF => ?_)
  refine zr_if hF (fun hF => ?_) (fun hF => ?_)
  · refine zr_bi hF (fun _ _ h => zf162_fr h) (fun v3 s4 hF => ?_)
    refine zr_if hF (fun hF => ?_) (fun hF => ?_)
    · refine zr_al hF (fun v5 hF => ?_)
      refine zr_al hF (fun v6 hF => ?_)
      refine zr_bi hF (fun _ _ h => zf158_fr (zo1 (zo2 hq)) h) (fun v7 s8 hF => ?_)
      exact zr_ri hF
    · exact zr_ri hF
  · refine zr_bi hF (fun _ _ h => zf158_fr (zo1 (zo2 hq)) h) (fun v9 s10 hF => ?_)
    exact zr_ri hF
theorem zf165_fr {q : Nat} {v : Int32} {s' : zS} {a0 : Nat}  {x1 : Int32} {x2 : Int32} {s : zS} (hF : zf165 a0 x1 x2 s = some (v, s')) : s' q = s q := by
  unfold zf165 at hF
  refine zr_al hF (fun v1 hF => ?_)
  refine zr_if hF (fun hF => ?_) (fun hF => ?_)
  · exact zr_ri hF
  · refine zr_al hF (fun v2 hF => ?_)
    exact zr_ri hF
def zW167 (a0 : Nat) (q : Nat) : Bool := (q == a0) || false
theorem zf167_fr {q : Nat} {s' : zS} {a0 : Nat} (hq : zW167 a0 q = false) {x1 : Int32} {s : zS} (hF : zf167 a0 x1 s = some s') : s' q = s q := by
  unfold zf167 at hF
  refine zr_pb hF (zo1 hq) (fun s1 hF => ?_)
  refine zr_pf hF (zo1 hq) (fun s2 hF => ?_)
  exact zr_rv hF
def zW166 (a0 : Nat) (q : Nat) : Bool := (q == a0) || (zW167 a0 q || false)
theorem zf166_fr {q : Nat} {s' : zS} {a0 : Nat} (hq : zW166 a0 q = false) {x1 : Int32} {s : zS} (hF : zf166 a0 x1 s = some s') : s' q = s q := by
  unfold zf166 at hF
  refine zr_gf hF (fun v1 hF => ?_)
  refine zr_bi hF (fun _ _ h => zf165_fr h) (fun v2 s3 hF => ?_)
  refine zr_gf hF (fun v4 hF => ?_)
  refine zr_al hF (fun v5 hF => ?_)
  refine zr_al hF (fun v6 hF => ?_)
  refine zr_if hF (fun hF => ?_) (fun hF => ?_)
  · refine zr_bi hF (fun _ _ h => zf165_fr h) (fun v7 s8 hF => ?_)
    refine zr_if hF (fun hF => ?_) (fun hF => ?_)
    · refine zr_gf hF (fun v9 hF => ?_)
      refine zr_pf hF (zo1 hq) (fun s10 hF => ?_)
      refine zr_pf hF (zo1 hq) (fun s11 hF => ?_)
      exact zr_rv hF
    · refine zr_bv hF (fun _ h => zf167_fr (zo1 (zo2 hq)) h) (fun s13 hF => ?_)
      exact zr_rv hF
  · refine zr_bv hF (fun _ h => zf167_fr (zo1 (zo2 hq)) h) (fun s15 hF => ?_)
    exact zr_rv hF
theorem zf169_fr {q : Nat} {v : Int32} {s' : zS}   {x0 : Int32} {s : zS} (hF : zf169 x0 s = some (v, s')) : s' q = s q := by
  unfold zf169 at hF
  refine zr_if hF (fun hF => ?_) (fun hF => ?_)
  · exact zr_rb hF
  · refine zr_if hF (fun hF => ?_) (fun hF => ?_)
    · exact zr_rb hF
    · exact zr_rb hF
theorem zf172_fr {q : Nat} {v : Int32} {s' : zS}   {x0 : Int32} {s : zS} (hF : zf172 x0 s = some (v, s')) : s' q = s q := by
  unfold zf172 at hF
  refine zr_if hF (fun hF => ?_) (fun hF => ?_)
  · exact zr_rb hF
  · refine zr_if hF (fun hF => ?_) (fun hF => ?_)
    · exact zr_rb hF
    · exact zr_rb hF
theorem zf171_fr {q : Nat} {v : Int32} {s' : zS}   {x0 : Int32} {s : zS} (hF : zf171 x0 s = some (v, s')) : s' q = s q := by
  unfold zf171 at hF
  refine zr_bi hF (fun _ _ h => zf156_fr h) (fun v1 s2 hF => ?_)
  refine zr_if hF (fun hF => ?_) (fun hF => ?_)
  · exact zr_rb hF
  · refine zr_bi hF (fun _ _ h => zf172_fr h) (fun v3 s4 hF => ?_)
    refine zr_if hF (fun hF => ?_) (fun hF => ?_)
    · exact zr_rb hF
    · refine zr_bi hF (fun _ _ h => zf169_fr h) (fun v5 s6 hF => ?_)
      refine zr_if hF (fun hF => ?_) (fun hF => ?_)
      · exact zr_rb hF
      · exact zr_rb hF
def zW170 (a0 : Nat) (q : Nat) : Bool := zW167 a0 q || ((q == a0) || false)
theorem zf170_139_fr {q : Nat} {v : Int32} {s' : zS} {a0 : Nat} (hq : zW170 a0 q = false)   {x4 : Int32} {s : zS} (hF : zf170_139 a0 x4 s = some (v, s')) : s' q = s q := by
  unfold zf170_139 at hF
  refine zr_gf hF (fun v1 hF => ?_)
  refine zr_if hF (fun hF => ?_) (fun hF => ?_)
  · exact zr_ri hF
  · exact zr_ri hF
theorem zf170_36_fr {q : Nat} {v : Int32} {s' : zS} {a0 : Nat} (hq : zW170 a0 q = false)   {x3 : Int32} {x4 : Int32} {s : zS} (hF : zf170_36 a0 x3 x4 s = some (v, s')) : s' q = s q := by
  unfold zf170_36 at hF
  refine zr_bv hF (fun _ h => zf167_fr (zo1 hq) h) (fun s2 hF => ?_)
  exact zf170_139_fr hq hF
theorem zf170_95_fr {q : Nat} {v : Int32} {s' : zS} {a0 : Nat} (hq : zW170 a0 q = false)   {n : Nat} : ∀ {x1 : Int32} {x3 : Int32} {x4 : Int32} {s : zS}, zf170_95 a0 n x1 x3 x4 s = some (v, s') → s' q = s q := by
  induction n with
  | zero => intro x1 x3 x4 s hF; rw [zf170_95] at hF; cases hF
  | succ n ih =>
    intro x1 x3 x4 s hF
    rw [zf170_95] at hF
    refine zr_bi hF (fun _ _ h => zf165_fr h) (fun v1 s2 hF => ?_)
    refine zr_bi hF (fun _ _ h => zf171_fr h) (fun v3 s4 hF => ?_)
    refine zr_if hF (fun hF => ?_) (fun hF => ?_)
    · refine zr_bi hF (fun _ _ h => zf165_fr h) (fun v5 s6 hF => ?_)
      refine zr_if hF (fun hF => ?_) (fun hF => ?_)
      · refine zr_bv hF (fun _ h => zf167_fr (zo1 hq) h) (fun s8 hF => ?_)
        exact zf170_139_fr hq hF
      · refine zr_pf hF (zo1 (zo2 hq)) (fun s9 hF => ?_)
        exact zf170_139_fr hq hF
    · exact ih hF
theorem zf170_fr {q : Nat} {v : Int32} {s' : zS} {a0 : Nat} (hq : zW170 a0 q = false) {x1 : Int32} {x2 : Int32} {s : zS} (hF : zf170 a0 x1 x2 s = some (v, s')) : s' q = s q := by
  unfold zf170 at hF
  refine zr_gf hF (fun v1 hF => ?_)
  refine zr_bi hF (fun _ _ h => zf165_fr h) (fun v2 s3 hF => ?_)
  refine zr_bi hF (fun _ _ h => zf169_fr h) (fun v4 s5 hF => ?_)
  refine zr_if hF (fun hF => ?_) (fun hF => ?_)
  · exact zf170_36_fr hq hF
  · refine zr_if hF (fun hF => ?_) (fun hF => ?_)
    · refine zr_bi hF (fun _ _ h => zf165_fr h) (fun v6 s7 hF => ?_)
      refine zr_if hF (fun hF => ?_) (fun hF => ?_)
      · refine zr_bi hF (fun _ _ h => zf165_fr h) (fun v8 s9 hF => ?_)
        refine zr_if hF (fun hF => ?_) (fun hF => ?_)
        · exact zf170_95_fr hq hF
        · refine zr_bv hF (fun _ h => zf167_fr (zo1 hq) h) (fun s11 hF => ?_)
          exact zf170_139_fr hq hF
      · refine zr_bv hF (fun _ h => zf167_fr (zo1 hq) h) (fun s13 hF => ?_)
        exact zf170_139_fr hq hF
    · exact zf170_36_fr hq hF
def zW168 (a0 : Nat) (q : Nat) : Bool := zW167 a0 q || ((q == (zrf a0 12)) || ((q == (zrf a0 9)) || ((q == (zrf a0 14)) || ((q == a0) || ((q == (zrf a0 10)) || ((q == (zrf a0 11)) || (zW170 a0 q || false)))))))
theorem zf168_25_fr {q : Nat} {s' : zS} {a0 : Nat} (hq : zW168 a0 q = false)   {x2 : Int32} {s : zS} (hF : zf168_25 a0 x2 s = some s') : s' q = s q := by
  unfold zf168_25 at hF
  refine zr_bv hF (fun _ h => zf167_fr (zo1 hq) h) (fun s2 hF => ?_)
  exact zr_rv hF
theorem zf168_254_fr {q : Nat} {s' : zS} {a0 : Nat} (hq : zW168 a0 q = false)   {x1 : Int32} {x4 : Int32} {t0 : Int32} {t1 : Int32} {s : zS} (hF : zf168_254 a0 x1 x4 t0 t1 s = some s') : s' q = s q := by
  unfold zf168_254 at hF
  refine zr_as hF (zo1 (zo2 hq)) (fun s1 hF => ?_)
  refine zr_al hF (fun v2 hF => ?_)
  refine zr_as hF (zo1 (zo2 (zo2 hq))) (fun s3 hF => ?_)
  refine zr_gf hF (fun v4 hF => ?_)
  refine zr_if hF (fun hF => ?_) (fun hF => ?_)
  · exact zr_rv hF
  · refine zr_gf hF (fun v5 hF => ?_)
    refine zr_as hF (zo1 (zo2 (zo2 (zo2 hq)))) (fun s6 hF => ?_)
    refine zr_gf hF (fun v7 hF => ?_)
    refine zr_pf hF (zo1 (zo2 (zo2 (zo2 (zo2 hq))))) (fun s8 hF => ?_)
    exact zr_rv hF
theorem zf168_143_fr {q : Nat} {s' : zS} {a0 : Nat} (hq : zW168 a0 q = false)   {x1 : Int32} {x2 : Int32} {t0 : Int32} {t1 : Int32} {s : zS} (hF : zf168_143 a0 x1 x2 t0 t1 s = some s') : s' q = s q := by
  unfold zf168_143 at hF
  refine zr_pf hF (zo1 (zo2 (zo2 (zo2 (zo2 hq))))) (fun s1 hF => ?_)
  refine zr_gf hF (fun v2 hF => ?_)
  refine zr_bi hF (fun _ _ h => zf165_fr h) (fun v3 s4 hF => ?_)
  refine zr_if hF (fun hF => ?_) (fun hF => ?_)
  · refine zr_gf hF (fun v5 hF => ?_)
    refine zr_pf hF (zo1 (zo2 (zo2 (zo2 (zo2 hq))))) (fun s6 hF => ?_)
    refine zr_al hF (fun v7 hF => ?_)
    refine zr_bi hF (fun _ _ h => zf165_fr h) (fun v8 s9 hF => ?_)
    refine zr_as hF (zo1 (zo2 (zo2 (zo2 (zo2 (zo2 hq)))))) (fun s10 hF => ?_)
    refine zr_as hF (zo1 (zo2 (zo2 (zo2 (zo2 (zo2 (zo2 hq))))))) (fun s11 hF => ?_)
    refine zr_gf hF (fun v12 hF => ?_)
    refine zr_if hF (fun hF => ?_) (fun hF => ?_)
    · refine zr_gf hF (fun v13 hF => ?_)
      refine zr_al hF (fun v14 hF => ?_)
      exact zf168_254_fr hq hF
    · exact zf168_254_fr hq hF
  · refine zr_gf hF (fun v15 hF => ?_)
    refine zr_bv hF (fun _ h => zf167_fr (zo1 hq) h) (fun s17 hF => ?_)
    exact zr_rv hF
theorem zf168_123_fr {q : Nat} {s' : zS} {a0 : Nat} (hq : zW168 a0 q = false)   {x1 : Int32} {x2 : Int32} {t0 : Int32} {s : zS} (hF : zf168_123 a0 x1 x2 t0 s = some s') : s' q = s q := by
  unfold zf168_123 at hF
  refine zr_pb hF (zo1 (zo2 (zo2 (zo2 (zo2 hq))))) (fun s1 hF => ?_)
  refine zr_gf hF (fun v2 hF => ?_)
  refine zr_gf hF (fun v3 hF => ?_)
  refine zr_if hF (fun hF => ?_) (fun hF => ?_)
  · exact zf168_143_fr hq hF
  · exact zf168_143_fr hq hF
theorem zf168_95_fr {q : Nat} {s' : zS} {a0 : Nat} (hq : zW168 a0 q = false)   {x1 : Int32} {x2 : Int32} {s : zS} (hF : zf168_95 a0 x1 x2 s = some s') : s' q = s q := by
  unfold zf168_95 at hF
  refine zr_gf hF (fun v1 hF => ?_)
  refine zr_if hF (fun hF => ?_) (fun hF => ?_)
  · refine zr_gf hF (fun v2 hF => ?_)
    refine zr_bi hF (fun _ _ h => zf165_fr h) (fun v3 s4 hF => ?_)
    refine zr_if hF (fun hF => ?_) (fun hF => ?_)
    · exact zf168_123_fr hq hF
    · exact zf168_123_fr hq hF
  · exact zr_rv hF
theorem zf168_62_fr {q : Nat} {s' : zS} {a0 : Nat} (hq : zW168 a0 q = false)   {n : Nat} : ∀ {x1 : Int32} {x2 : Int32} {x3 : Int32} {s : zS}, zf168_62 a0 n x1 x2 x3 s = some s' → s' q = s q := by
  induction n with
  | zero => intro x1 x2 x3 s hF; rw [zf168_62] at hF; cases hF
  | succ n ih =>
    intro x1 x2 x3 s hF
    rw [zf168_62] at hF
    refine zr_gf hF (fun v1 hF => ?_)
    refine zr_if hF (fun hF => ?_) (fun hF => ?_)
    · exact zf168_95_fr hq hF
    · refine zr_gf hF (fun v2 hF => ?_)
      refine zr_bi hF (fun _ _ h => zf165_fr h) (fun v3 s4 hF => ?_)
      refine zr_if hF (fun hF => ?_) (fun hF => ?_)
      · exact zf168_95_fr hq hF
      · refine zr_bi hF (fun _ _ h => zf170_fr (zo1 (zo2 (zo2 (zo2 (zo2 (zo2 (zo2 (zo2 hq)))))))) h) (fun v5 s6 hF => ?_)
        exact ih hF
theorem zf168_fr {q : Nat} {s' : zS} {a0 : Nat} (hq : zW168 a0 q = false) {x1 : Int32} {s : zS} (hF : zf168 a0 x1 s = some s') : s' q = s q := by
  unfold zf168 at hF
  refine zr_gf hF (fun v1 hF => ?_)
  refine zr_al hF (fun v2 hF => ?_)
  refine zr_if hF (fun hF => ?_) (fun hF => ?_)
  · exact zf168_25_fr hq hF
  · refine zr_gf hF (fun v3 hF => ?_)
    refine zr_if hF (fun hF => ?_) (fun hF => ?_)
    · refine zr_bi hF (fun _ _ h => zf165_fr h) (fun v4 s5 hF => ?_)
      refine zr_bi hF (fun _ _ h => zf169_fr h) (fun v6 s7 hF => ?_)
      refine zr_if hF (fun hF => ?_) (fun hF => ?_)
      · refine zr_pf hF (zo1 (zo2 (zo2 (zo2 (zo2 hq))))) (fun s8 hF => ?_)
        exact zf168_62_fr hq hF
      · refine zr_bv hF (fun _ h => zf167_fr (zo1 hq) h) (fun s10 hF => ?_)
        exact zr_rv hF
    · exact zf168_25_fr hq hF
def zW164 (a0 : Nat) (q : Nat) : Bool := zW167 a0 q || ((q == (zrf a0 13)) || ((q == a0) || (zW168 a0 q || (zW166 a0 q || ((q == (zrf a0 9)) || false)))))
theorem zf164_202_fr {q : Nat} {v : Int32} {s' : zS} {a0 : Nat} (hq : zW164 a0 q = false)   {x1 : Int32} {s : zS} (hF : zf164_202 a0 x1 s = some (v, s')) : s' q = s q := by
  unfold zf164_202 at hF
  refine zr_gf hF (fun v1 hF => ?_)
  refine zr_if hF (fun hF => ?_) (fun hF => ?_)
  · refine zr_gf hF (fun v2 hF => ?_)
    exact zr_ri hF
  · refine zr_gf hF (fun v3 hF => ?_)
    refine zr_al hF (fun v4 hF => ?_)
    refine zr_if hF (fun hF => ?_) (fun hF => ?_)
    · refine zr_gf hF (fun v5 hF => ?_)
      exact zr_ri hF
    · exact zr_ri hF
theorem zf164_188_fr {q : Nat} {v : Int32} {s' : zS} {a0 : Nat} (hq : zW164 a0 q = false) {k50 : Int32 → zS → Option (Int32 × zS)} (hk50 : ∀ x1 s, k50 x1 s = some (v, s') → s' q = s q) {x1 : Int32} {s : zS} (hF : zf164_188 a0 k50 x1 s = some (v, s')) : s' q = s q := by
  unfold zf164_188 at hF
  refine zr_gf hF (fun v1 hF => ?_)
  refine zr_if hF (fun hF => ?_) (fun hF => ?_)
  · exact zf164_202_fr hq hF
  · refine zr_gf hF (fun v2 hF => ?_)
    refine zr_if hF (fun hF => ?_) (fun hF => ?_)
    · exact hk50 _ _ hF
    · exact zf164_202_fr hq hF
theorem zf164_141_fr {q : Nat} {v : Int32} {s' : zS} {a0 : Nat} (hq : zW164 a0 q = false) {k50 : Int32 → zS → Option (Int32 × zS)} (hk50 : ∀ x1 s, k50 x1 s = some (v, s') → s' q = s q) {x1 : Int32} {s : zS} (hF : zf164_141 a0 k50 x1 s = some (v, s')) : s' q = s q := by
  unfold zf164_141 at hF
  refine zr_gf hF (fun v1 hF => ?_)
  refine zr_bv hF (fun _ h => zf167_fr (zo1 hq) h) (fun s3 hF => ?_)
  exact zf164_188_fr hq hk50 hF
theorem zf164_97_fr {q : Nat} {v : Int32} {s' : zS} {a0 : Nat} (hq : zW164 a0 q = false) {k50 : Int32 → zS → Option (Int32 × zS)} (hk50 : ∀ x1 s, k50 x1 s = some (v, s') → s' q = s q) {x1 : Int32} {x2 : Int32} {s : zS} (hF : zf164_97 a0 k50 x1 x2 s = some (v, s')) : s' q = s q := by
  unfold zf164_97 at hF
  refine zr_if hF (fun hF => ?_) (fun hF => ?_)
  · refine zr_gf hF (fun v1 hF => ?_)
    refine zr_if hF (fun hF => ?_) (fun hF => ?_)
    · exact zf164_141_fr hq hk50 hF
    · refine zr_if hF (fun hF => ?_) (fun hF => ?_)
      · exact zf164_141_fr hq hk50 hF
      · refine zr_if hF (fun hF => ?_) (fun hF => ?_)
        · exact zf164_141_fr hq hk50 hF
        · refine zr_if hF (fun hF => ?_) (fun hF => ?_)
          · exact zf164_141_fr hq hk50 hF
          · refine zr_if hF (fun hF => ?_) (fun hF => ?_)
            · refine zr_gf hF (fun v2 hF => ?_)
              refine zr_gf hF (fun v3 hF => ?_)
              refine zr_al hF (fun v4 hF => ?_)
              refine zr_as hF (zo1 (zo2 hq)) (fun s5 hF => ?_)
              refine zr_gf hF (fun v6 hF => ?_)
              refine zr_pf hF (zo1 (zo2 (zo2 hq))) (fun s7 hF => ?_)
              exact zf164_188_fr hq hk50 hF
            · exact zf164_141_fr hq hk50 hF
  · refine zr_bv hF (fun _ h => zf168_fr (zo1 (zo2 (zo2 (zo2 hq)))) h) (fun s9 hF => ?_)
    exact zf164_188_fr hq hk50 hF
theorem zf164_50_fr {q : Nat} {v : Int32} {s' : zS} {a0 : Nat} (hq : zW164 a0 q = false)   {n : Nat} : ∀ {x1 : Int32} {s : zS}, zf164_50 a0 n x1 s = some (v, s') → s' q = s q := by
  induction n with
  | zero => intro x1 s hF; rw [zf164_50] at hF; cases hF
  | succ n ih =>
    intro x1 s hF
    rw [zf164_50] at hF
    refine zr_gf hF (fun v1 hF => ?_)
    refine zr_bi hF (fun _ _ h => zf165_fr h) (fun v2 s3 hF => ?_)
    refine zr_if hF (fun hF => ?_) (fun hF => ?_)
    · exact zf164_97_fr hq (fun _ _ hF => ih hF) hF
    · refine zr_gf hF (fun v4 hF => ?_)
      refine zr_if hF (fun hF => ?_) (fun hF => ?_)
      · exact zf164_97_fr hq (fun _ _ hF => ih hF) hF
      · refine zr_gf hF (fun v5 hF => ?_)
        refine zr_bi hF (fun _ _ h => zf165_fr h) (fun v6 s7 hF => ?_)
        refine zr_if hF (fun hF => ?_) (fun hF => ?_)
        · exact zf164_97_fr hq (fun _ _ hF => ih hF) hF
        · refine zr_bv hF (fun _ h => zf166_fr (zo1 (zo2 (zo2 (zo2 (zo2 hq))))) h) (fun s9 hF => ?_)
          exact zf164_188_fr hq (fun _ _ hF => ih hF) hF
theorem zf164_24_fr {q : Nat} {v : Int32} {s' : zS} {a0 : Nat} (hq : zW164 a0 q = false)   {n : Nat} : ∀ {x1 : Int32} {x2 : Int32} {s : zS}, zf164_24 a0 n x1 x2 s = some (v, s') → s' q = s q := by
  induction n with
  | zero => intro x1 x2 s hF; rw [zf164_24] at hF; cases hF
  | succ n ih =>
    intro x1 x2 s hF
    rw [zf164_24] at hF
    refine zr_if hF (fun hF => ?_) (fun hF => ?_)
    · exact zf164_50_fr hq hF
    · refine zr_as hF (zo1 (zo2 hq)) (fun s1 hF => ?_)
      exact ih hF
theorem zf164_fr {q : Nat} {v : Int32} {s' : zS} {a0 : Nat} (hq : zW164 a0 q = false) {x1 : Int32} {s : zS} (hF : zf164 a0 x1 s = some (v, s')) : s' q = s q := by
  unfold zf164 at hF
  refine zr_as hF (zo1 (zo2 (zo2 (zo2 (zo2 (zo2 hq)))))) (fun s1 hF => ?_)
  refine zr_pf hF (zo1 (zo2 (zo2 hq))) (fun s2 hF => ?_)
  refine zr_pf hF (zo1 (zo2 (zo2 hq))) (fun s3 hF => ?_)
  refine zr_pb hF (zo1 (zo2 (zo2 hq))) (fun s4 hF => ?_)
  exact zf164_24_fr hq hF
def zW153 (a0 : Nat) (q : Nat) : Bool := zW164 a0 q || (zW158 a0 q || (zW154 a0 q || (zW159 a0 q || false)))
theorem zf153_38_fr {q : Nat} {v : Int32} {s' : zS} {a0 : Nat} (hq : zW153 a0 q = false)   {n : Nat} : ∀ {x2 : Int32} {x3 : Int32} {s : zS}, zf153_38 a0 n x2 x3 s = some (v, s') → s' q = s q := by
  induction n with
  | zero => intro x2 x3 s hF; rw [zf153_38] at hF; cases hF
  | succ n ih =>
    intro x2 x3 s hF
    rw [zf153_38] at hF
    refine zr_if hF (fun hF => ?_) (fun hF => ?_)
    · exact zr_ri hF
    · refine zr_if hF (fun hF => ?_) (fun hF => ?_)
      · exact zr_ri hF
      · refine zr_bi hF (fun _ _ h => zf164_fr (zo1 hq) h) (fun v1 s2 hF => ?_)
        refine zr_if hF (fun hF => ?_) (fun hF => ?_)
        · exact ih hF
        · refine zr_bi hF (fun _ _ h => zf158_fr (zo1 (zo2 hq)) h) (fun v3 s4 hF => ?_)
          exact ih hF
theorem zf153_fr {q : Nat} {v : Int32} {s' : zS} {a0 : Nat} (hq : zW153 a0 q = false)  {s : zS} (hF : zf153 a0 s = some (v, s')) : s' q = s q := by
  unfold zf153 at hF
  refine zr_bi hF (fun _ _ h => zf154_fr (zo1 (zo2 (zo2 hq))) h) (fun v1 s2 hF => ?_)
  refine zr_if hF (fun hF => ?_) (fun hF => ?_)
  · refine zr_bi hF (fun _ _ h => zf159_fr (zo1 (zo2 (zo2 (zo2 hq)))) h) (fun v3 s4 hF => ?_)
    refine zr_if hF (fun hF => ?_) (fun hF => ?_)
    · exact zf153_38_fr hq hF
    · refine zr_bi hF (fun _ _ h => zf159_fr (zo1 (zo2 (zo2 (zo2 hq)))) h) (fun v5 s6 hF => ?_)
      exact zf153_38_fr hq hF
  · refine zr_bi hF (fun _ _ h => zf158_fr (zo1 (zo2 hq)) h) (fun v7 s8 hF => ?_)
    exact zr_ri hF
theorem zf177_fr {q : Nat} {v : Int32} {s' : zS} {a0 : Nat}  {x1 : Int32} {x2 : Int32} {s : zS} (hF : zf177 a0 x1 x2 s = some (v, s')) : s' q = s q := by
  unfold zf177 at hF
  refine zr_al hF (fun v1 hF => ?_)
  refine zr_if hF (fun hF => ?_) (fun hF => ?_)
  · refine zr_al hF (fun v2 hF => ?_)
    exact zr_ri hF
  · exact zr_ri hF
theorem zf176_91_fr {q : Nat} {v : Int32} {s' : zS} {a0 : Nat}    {x4 : Int32} {s : zS} (hF : zf176_91 a0 x4 s = some (v, s')) : s' q = s q := by
  unfold zf176_91 at hF
  refine zr_if hF (fun hF => ?_) (fun hF => ?_)
  · exact zr_rb hF
  · refine zr_if hF (fun hF => ?_) (fun hF => ?_)
    · exact zr_rb hF
    · exact zr_rb hF
theorem zf176_fr {q : Nat} {v : Int32} {s' : zS} {a0 : Nat}  {x1 : Int32} {x2 : Int32} {s : zS} (hF : zf176 a0 x1 x2 s = some (v, s')) : s' q = s q := by
  unfold zf176 at hF
  refine zr_al hF (fun v1 hF => ?_)
  refine zr_bi hF (fun _ _ h => zf177_fr h) (fun v2 s3 hF => ?_)
  refine zr_if hF (fun hF => ?_) (fun hF => ?_)
  · refine zr_if hF (fun hF => ?_) (fun hF => ?_)
    · refine zr_if hF (fun hF => ?_) (fun hF => ?_)
      · exact zf176_91_fr  hF
      · refine zr_if hF (fun hF => ?_) (fun hF => ?_)
        · refine zr_if hF (fun hF => ?_) (fun hF => ?_)
          · refine zr_if hF (fun hF => ?_) (fun hF => ?_)
            · exact zr_rb hF
            · refine zr_if hF (fun hF => ?_) (fun hF => ?_)
              · exact zr_rb hF
              · refine zr_if hF (fun hF => ?_) (fun hF => ?_)
                · exact zr_rb hF
                · exact zr_rb hF
          · refine zr_if hF (fun hF => ?_) (fun hF => ?_)
            · exact zr_rb hF
            · exact zr_rb hF
        · exact zf176_91_fr  hF
    · refine zr_if hF (fun hF => ?_) (fun hF => ?_)
      · exact zr_rb hF
      · exact zr_rb hF
  · refine zr_if hF (fun hF => ?_) (fun hF => ?_)
    · refine zr_if hF (fun hF => ?_) (fun hF => ?_)
      · exact zr_rb hF
      · refine zr_if hF (fun hF => ?_) (fun hF => ?_)
        · exact zr_rb hF
        · exact zr_rb hF
    · refine zr_if hF (fun hF => ?_) (fun hF => ?_)
      · exact zr_rb hF
      · exact zr_rb hF
theorem zf179_2_fr {q : Nat} {v : Int32} {s' : zS} {a0 : Nat}    {n : Nat} : ∀ {x1 : Int32} {x3 : Int32} {s : zS}, zf179_2 a0 n x1 x3 s = some (v, s') → s' q = s q := by
  induction n with
  | zero => intro x1 x3 s hF; rw [zf179_2] at hF; cases hF
  | succ n ih =>
    intro x1 x3 s hF
    rw [zf179_2] at hF
    refine zr_bi hF (fun _ _ h => zf165_fr h) (fun v1 s2 hF => ?_)
    refine zr_if hF (fun hF => ?_) (fun hF => ?_)
    · exact zr_ri hF
    · exact ih hF
theorem zf179_fr {q : Nat} {v : Int32} {s' : zS} {a0 : Nat}  {x1 : Int32} {x2 : Int32} {s : zS} (hF : zf179 a0 x1 x2 s = some (v, s')) : s' q = s q := by
  unfold zf179 at hF
  exact zf179_2_fr  hF
theorem zf180_57_fr {q : Nat} {v : Int32} {s' : zS} {a0 : Nat}    {x3 : Int32} {x7 : Int32} {x8 : Int32} {s : zS} (hF : zf180_57 a0 x3 x7 x8 s = some (v, s')) : s' q = s q := by
  unfold zf180_57 at hF
  refine zr_if hF (fun hF => ?_) (fun hF => ?_)
  · exact zr_rb hF
  · refine zr_if hF (fun hF => ?_) (fun hF => ?_)
    · exact zr_rb hF
    · refine zr_bi hF (fun _ _ h => zf172_fr h) (fun v1 s2 hF => ?_)
      refine zr_if hF (fun hF => ?_) (fun hF => ?_)
      · exact zr_rb hF
      · exact zr_rb hF
theorem zf180_103_fr {q : Nat} {v : Int32} {s' : zS} {a0 : Nat}    {x7 : Int32} {x8 : Int32} {s : zS} (hF : zf180_103 a0 x7 x8 s = some (v, s')) : s' q = s q := by
  unfold zf180_103 at hF
  refine zr_if hF (fun hF => ?_) (fun hF => ?_)
  · exact zr_rb hF
  · refine zr_bi hF (fun _ _ h => zf172_fr h) (fun v1 s2 hF => ?_)
    refine zr_if hF (fun hF => ?_) (fun hF => ?_)
    · exact zr_rb hF
    · exact zr_rb hF
theorem zf180_36_fr {q : Nat} {v : Int32} {s' : zS} {a0 : Nat}    {x1 : Int32} {x3 : Int32} {x4 : Int32} {x5 : Int32} {x6 : Int32} {x7 : Int32} {t0 : Int32} {s : zS} (hF : zf180_36 a0 x1 x3 x4 x5 x6 x7 t0 s = some (v, s')) : s' q = s q := by
  unfold zf180_36 at hF
  refine zr_if hF (fun hF => ?_) (fun hF => ?_)
  · refine zr_if hF (fun hF => ?_) (fun hF => ?_)
    · refine zr_if hF (fun hF => ?_) (fun hF => ?_)
      · exact zf180_103_fr  hF
      · refine zr_if hF (fun hF => ?_) (fun hF => ?_)
        · refine zr_if hF (fun hF => ?_) (fun hF => ?_)
          · refine zr_if hF (fun hF => ?_) (fun hF => ?_)
            · refine zr_if hF (fun hF => ?_) (fun hF => ?_)
              · exact zr_rb hF
              · refine zr_if hF (fun hF => ?_) (fun hF => ?_)
                · exact zr_rb hF
                · refine zr_bi hF (fun _ _ h => zf156_fr h) (fun v1 s2 hF => ?_)
                  refine zr_if hF (fun hF => ?_) (fun hF => ?_)
                  · exact zr_rb hF
                  · exact zr_rb hF
            · refine zr_bi hF (fun _ _ h => zf156_fr h) (fun v3 s4 hF => ?_)
              refine zr_if hF (fun hF => ?_) (fun hF => ?_)
              · exact zr_rb hF
              · refine zr_if hF (fun hF => ?_) (fun hF => ?_)
                · exact zr_rb hF
                · refine zr_if hF (fun hF => ?_) (fun hF => ?_)
                  · exact zr_rb hF
                  · refine zr_if hF (fun hF => ?_) (fun hF => ?_)
                    · exact zr_rb hF
                    · refine zr_bi hF (fun _ _ h => zf165_fr h) (fun v5 s6 hF => ?_)
                      refine zr_bi hF (fun _ _ h => zf156_fr h) (fun v7 s8 hF => ?_)
                      refine zr_if hF (fun hF => ?_) (fun hF => ?_)
                      · exact zr_rb hF
                      · exact zr_rb hF
          · refine zr_if hF (fun hF => ?_) (fun hF => ?_)
            · exact zr_rb hF
            · refine zr_if hF (fun hF => ?_) (fun hF => ?_)
              · exact zr_rb hF
              · refine zr_if hF (fun hF => ?_) (fun hF => ?_)
                · exact zr_rb hF
                · exact zr_rb hF
        · exact zf180_103_fr  hF
    · exact zr_rb hF
  · refine zr_if hF (fun hF => ?_) (fun hF => ?_)
    · exact zf180_57_fr  hF
    · refine zr_if hF (fun hF => ?_) (fun hF => ?_)
      · exact zr_rb hF
      · exact zf180_57_fr  hF
theorem zf180_fr {q : Nat} {v : Int32} {s' : zS} {a0 : Nat}  {x1 : Int32} {x2 : Int32} {x3 : Int32} {x4 : Int32} {x5 : Int32} {s : zS} (hF : zf180 a0 x1 x2 x3 x4 x5 s = some (v, s')) : s' q = s q := by
  unfold zf180 at hF
  refine zr_al hF (fun v1 hF => ?_)
  refine zr_bi hF (fun _ _ h => zf165_fr h) (fun v2 s3 hF => ?_)
  refine zr_if hF (fun hF => ?_) (fun hF => ?_)
  · exact zf180_36_fr  hF
  · exact zf180_36_fr  hF
theorem zf178_14_fr {q : Nat} {v : Int32} {s' : zS} {a0 : Nat}    {n : Nat} : ∀ {x1 : Int32} {x2 : Int32} {x3 : Int32} {s : zS}, zf178_14 a0 n x1 x2 x3 s = some (v, s') → s' q = s q := by
  induction n with
  | zero => intro x1 x2 x3 s hF; rw [zf178_14] at hF; cases hF
  | succ n ih =>
    intro x1 x2 x3 s hF
    rw [zf178_14] at hF
    refine zr_bi hF (fun _ _ h => zf165_fr h) (fun v1 s2 hF => ?_)
    refine zr_if hF (fun hF => ?_) (fun hF => ?_)
    · exact zr_ri hF
    · refine zr_bi hF (fun _ _ h => zf179_fr h) (fun v3 s4 hF => ?_)
      refine zr_bi hF (fun _ _ h => zf165_fr h) (fun v5 s6 hF => ?_)
      refine zr_bi hF (fun _ _ h => zf180_fr h) (fun v7 s8 hF => ?_)
      refine zr_if hF (fun hF => ?_) (fun hF => ?_)
      · exact ih hF
      · exact zr_ri hF
theorem zf178_fr {q : Nat} {v : Int32} {s' : zS} {a0 : Nat}  {x1 : Int32} {x2 : Int32} {s : zS} (hF : zf178 a0 x1 x2 s = some (v, s')) : s' q = s q := by
  unfold zf178 at hF
  refine zr_al hF (fun v1 hF => ?_)
  exact zf178_14_fr  hF
theorem zf181_52_fr {q : Nat} {v : Int32} {s' : zS} {a0 : Nat}  {k18 : Int32 → Int32 → Int32 → Int32 → zS → Option (Int32 × zS)} (hk18 : ∀ x1 x3 x4 x5 s, k18 x1 x3 x4 x5 s = some (v, s') → s' q = s q) {x1 : Int32} {x3 : Int32} {x4 : Int32} {t0 : Int32} {s : zS} (hF : zf181_52 a0 k18 x1 x3 x4 t0 s = some (v, s')) : s' q = s q := by
  unfold zf181_52 at hF
  refine zr_bi hF (fun _ _ h => zf179_fr h) (fun v1 s2 hF => ?_)
  exact hk18 _ _ _ _ _ hF
theorem zf181_18_fr {q : Nat} {v : Int32} {s' : zS} {a0 : Nat}    {n : Nat} : ∀ {x1 : Int32} {x3 : Int32} {x4 : Int32} {x5 : Int32} {s : zS}, zf181_18 a0 n x1 x3 x4 x5 s = some (v, s') → s' q = s q := by
  induction n with
  | zero => intro x1 x3 x4 x5 s hF; rw [zf181_18] at hF; cases hF
  | succ n ih =>
    intro x1 x3 x4 x5 s hF
    rw [zf181_18] at hF
    refine zr_bi hF (fun _ _ h => zf165_fr h) (fun v1 s2 hF => ?_)
    refine zr_if hF (fun hF => ?_) (fun hF => ?_)
    · exact zr_ri hF
    · refine zr_bi hF (fun _ _ h => zf165_fr h) (fun v3 s4 hF => ?_)
      refine zr_if hF (fun hF => ?_) (fun hF => ?_)
      · exact zf181_52_fr  (fun _ _ _ _ _ hF => ih hF) hF
      · exact zf181_52_fr  (fun _ _ _ _ _ hF => ih hF) hF
theorem zf181_fr {q : Nat} {v : Int32} {s' : zS} {a0 : Nat}  {x1 : Int32} {x2 : Int32} {x3 : Int32} {s : zS} (hF : zf181 a0 x1 x2 x3 s = some (v, s')) : s' q = s q := by
  unfold zf181 at hF
  refine zr_al hF (fun v1 hF => ?_)
  exact zf181_18_fr  hF
theorem zf182_2_fr {q : Nat} {v : Int32} {s' : zS} {a0 : Nat}    {n : Nat} : ∀ {x1 : Int32} {x2 : Int32} {x3 : Int32} {s : zS}, zf182_2 a0 n x1 x2 x3 s = some (v, s') → s' q = s q := by
  induction n with
  | zero => intro x1 x2 x3 s hF; rw [zf182_2] at hF; cases hF
  | succ n ih =>
    intro x1 x2 x3 s hF
    rw [zf182_2] at hF
    refine zr_al hF (fun v1 hF => ?_)
    refine zr_if hF (fun hF => ?_) (fun hF => ?_)
    · exact zr_ri hF
    · refine zr_al hF (fun v2 hF => ?_)
      refine zr_if hF (fun hF => ?_) (fun hF => ?_)
      · exact ih hF
      · exact zr_ri hF
theorem zf182_fr {q : Nat} {v : Int32} {s' : zS} {a0 : Nat}  {x1 : Int32} {x2 : Int32} {s : zS} (hF : zf182 a0 x1 x2 s = some (v, s')) : s' q = s q := by
  unfold zf182 at hF
  exact zf182_2_fr  hF
theorem zf183_8_fr {q : Nat} {v : Int32} {s' : zS} {a0 : Nat}    {n : Nat} : ∀ {x1 : Int32} {x2 : Int32} {x3 : Int32} {x4 : Int32} {x5 : Int32} {x6 : Int32} {s : zS}, zf183_8 a0 n x1 x2 x3 x4 x5 x6 s = some (v, s') → s' q = s q := by
  induction n with
  | zero => intro x1 x2 x3 x4 x5 x6 s hF; rw [zf183_8] at hF; cases hF
  | succ n ih =>
    intro x1 x2 x3 x4 x5 x6 s hF
    rw [zf183_8] at hF
    refine zr_al hF (fun v1 hF => ?_)
    refine zr_if hF (fun hF => ?_) (fun hF => ?_)
    · exact zr_rb hF
    · refine zr_al hF (fun v2 hF => ?_)
      refine zr_if hF (fun hF => ?_) (fun hF => ?_)
      · exact ih hF
      · refine zr_al hF (fun v3 hF => ?_)
        refine zr_if hF (fun hF => ?_) (fun hF => ?_)
        · exact ih hF
        · refine zr_if hF (fun hF => ?_) (fun hF => ?_)
          · exact ih hF
          · refine zr_if hF (fun hF => ?_) (fun hF => ?_)
            · exact ih hF
            · exact ih hF
theorem zf183_fr {q : Nat} {v : Int32} {s' : zS} {a0 : Nat}  {x1 : Int32} {x2 : Int32} {x3 : Int32} {x4 : Int32} {s : zS} (hF : zf183 a0 x1 x2 x3 x4 s = some (v, s')) : s' q = s q := by
  unfold zf183 at hF
  exact zf183_8_fr  hF
theorem zf175_148_fr {q : Nat} {v : Int32} {s' : zS} {a0 : Nat}    {x4 : Int32} {t0 : Int32} {s : zS} (hF : zf175_148 a0 x4 t0 s = some (v, s')) : s' q = s q := by
  unfold zf175_148 at hF
  refine zr_if hF (fun hF => ?_) (fun hF => ?_)
  · exact zr_ri hF
  · exact zr_ri hF
theorem zf175_124_fr {q : Nat} {v : Int32} {s' : zS} {a0 : Nat}    {x1 : Int32} {x2 : Int32} {x3 : Int32} {x4 : Int32} {s : zS} (hF : zf175_124 a0 x1 x2 x3 x4 s = some (v, s')) : s' q = s q := by
  unfold zf175_124 at hF
  refine zr_if hF (fun hF => ?_) (fun hF => ?_)
  · exact zf175_148_fr  hF
  · refine zr_bi hF (fun _ _ h => zf183_fr h) (fun v1 s2 hF => ?_)
    refine zr_if hF (fun hF => ?_) (fun hF => ?_)
    · exact zf175_148_fr  hF
    · exact zf175_148_fr  hF
theorem zf175_95_fr {q : Nat} {v : Int32} {s' : zS} {a0 : Nat}    {x1 : Int32} {x2 : Int32} {x3 : Int32} {x4 : Int32} {t0 : Int32} {s : zS} (hF : zf175_95 a0 x1 x2 x3 x4 t0 s = some (v, s')) : s' q = s q := by
  unfold zf175_95 at hF
  refine zr_if hF (fun hF => ?_) (fun hF => ?_)
  · refine zr_if hF (fun hF => ?_) (fun hF => ?_)
    · exact zf175_124_fr  hF
    · refine zr_bi hF (fun _ _ h => zf183_fr h) (fun v1 s2 hF => ?_)
      refine zr_if hF (fun hF => ?_) (fun hF => ?_)
      · exact zf175_148_fr  hF
      · exact zf175_124_fr  hF
  · exact zr_ri hF
theorem zf175_73_fr {q : Nat} {v : Int32} {s' : zS} {a0 : Nat}    {x1 : Int32} {x2 : Int32} {x3 : Int32} {x4 : Int32} {s : zS} (hF : zf175_73 a0 x1 x2 x3 x4 s = some (v, s')) : s' q = s q := by
  unfold zf175_73 at hF
  refine zr_if hF (fun hF => ?_) (fun hF => ?_)
  · exact zf175_95_fr  hF
  · refine zr_if hF (fun hF => ?_) (fun hF => ?_)
    · refine zr_bi hF (fun _ _ h => zf182_fr h) (fun v1 s2 hF => ?_)
      exact zf175_95_fr  hF
    · exact zf175_95_fr  hF
theorem zf175_fr {q : Nat} {v : Int32} {s' : zS} {a0 : Nat}  {x1 : Int32} {x2 : Int32} {s : zS} (hF : zf175 a0 x1 x2 s = some (v, s')) : s' q = s q := by
  unfold zf175 at hF
  refine zr_al hF (fun v1 hF => ?_)
  refine zr_al hF (fun v2 hF => ?_)
  refine zr_bi hF (fun _ _ h => zf176_fr h) (fun v3 s4 hF => ?_)
  refine zr_if hF (fun hF => ?_) (fun hF => ?_)
  · refine zr_bi hF (fun _ _ h => zf178_fr h) (fun v5 s6 hF => ?_)
    refine zr_if hF (fun hF => ?_) (fun hF => ?_)
    · refine zr_if hF (fun hF => ?_) (fun hF => ?_)
      · exact zf175_73_fr  hF
      · refine zr_bi hF (fun _ _ h => zf181_fr h) (fun v7 s8 hF => ?_)
        refine zr_if hF (fun hF => ?_) (fun hF => ?_)
        · exact zf175_73_fr  hF
        · exact zr_ri hF
    · exact zr_ri hF
  · exact zr_ri hF
def zW174 (a0 : Nat) (q : Nat) : Bool := zW158 a0 q || false
theorem zf174_2_fr {q : Nat} {v : Int32} {s' : zS} {a0 : Nat} (hq : zW174 a0 q = false)   {n : Nat} : ∀ {x1 : Int32} {x2 : Int32} {s : zS}, zf174_2 a0 n x1 x2 s = some (v, s') → s' q = s q := by
  induction n with
  | zero => intro x1 x2 s hF; rw [zf174_2] at hF; cases hF
  | succ n ih =>
    intro x1 x2 s hF
    rw [zf174_2] at hF
    refine zr_al hF (fun v1 hF => ?_)
    refine zr_if hF (fun hF => ?_) (fun hF => ?_)
    · exact zr_ri hF
    · refine zr_bi hF (fun _ _ h => zf175_fr h) (fun v2 s3 hF => ?_)
      refine zr_if hF (fun hF => ?_) (fun hF => ?_)
      · exact ih hF
      · refine zr_bi hF (fun _ _ h => zf158_fr (zo1 hq) h) (fun v4 s5 hF => ?_)
        exact zr_ri hF
theorem zf174_fr {q : Nat} {v : Int32} {s' : zS} {a0 : Nat} (hq : zW174 a0 q = false) {x1 : Int32} {s : zS} (hF : zf174 a0 x1 s = some (v, s')) : s' q = s q := by
  unfold zf174 at hF
  exact zf174_2_fr hq hF
theorem zf185_fr {q : Nat} {v : Int32} {s' : zS} {a0 : Nat}  {x1 : Int32} {x2 : Int32} {x3 : Int32} {s : zS} (hF : zf185 a0 x1 x2 x3 s = some (v, s')) : s' q = s q := by
  unfold zf185 at hF
  refine zr_bi hF (fun _ _ h => zf181_fr h) (fun v1 s2 hF => ?_)
  refine zr_if hF (fun hF => ?_) (fun hF => ?_)
  · refine zr_bi hF (fun _ _ h => zf165_fr h) (fun v3 s4 hF => ?_)
    exact zr_ri hF
  · exact zr_ri hF
theorem zf186_fr {q : Nat} {v : Int32} {s' : zS} {a0 : Nat}  {x1 : Int32} {x2 : Int32} {s : zS} (hF : zf186 a0 x1 x2 s = some (v, s')) : s' q = s q := by
  unfold zf186 at hF
  refine zr_bi hF (fun _ _ h => zf181_fr h) (fun v1 s2 hF => ?_)
  refine zr_if hF (fun hF => ?_) (fun hF => ?_)
  · refine zr_bi hF (fun _ _ h => zf165_fr h) (fun v3 s4 hF => ?_)
    refine zr_bi hF (fun _ _ h => zf165_fr h) (fun v5 s6 hF => ?_)
    refine zr_bi hF (fun _ _ h => zf156_fr h) (fun v7 s8 hF => ?_)
    refine zr_if hF (fun hF => ?_) (fun hF => ?_)
    · exact zr_ri hF
    · refine zr_bi hF (fun _ _ h => zf165_fr h) (fun v9 s10 hF => ?_)
      exact zr_ri hF
  · exact zr_ri hF
theorem zf187_27_fr {q : Nat} {v : Int32} {s' : zS} {a0 : Nat}    {x2 : Int32} {s : zS} (hF : zf187_27 a0 x2 s = some (v, s')) : s' q = s q := by
  unfold zf187_27 at hF
  refine zr_if hF (fun hF => ?_) (fun hF => ?_)
  · exact zr_rb hF
  · exact zr_rb hF
theorem zf187_4_fr {q : Nat} {v : Int32} {s' : zS} {a0 : Nat}    {n : Nat} : ∀ {x2 : Int32} {x3 : Int32} {s : zS}, zf187_4 a0 n x2 x3 s = some (v, s') → s' q = s q := by
  induction n with
  | zero => intro x2 x3 s hF; rw [zf187_4] at hF; cases hF
  | succ n ih =>
    intro x2 x3 s hF
    rw [zf187_4] at hF
    refine zr_if hF (fun hF => ?_) (fun hF => ?_)
    · exact zf187_27_fr  hF
    · refine zr_if hF (fun hF => ?_) (fun hF => ?_)
      · exact zf187_27_fr  hF
      · refine zr_al hF (fun v1 hF => ?_)
        exact ih hF
theorem zf187_fr {q : Nat} {v : Int32} {s' : zS} {a0 : Nat}  {x1 : Int32} {s : zS} (hF : zf187 a0 x1 s = some (v, s')) : s' q = s q := by
  unfold zf187 at hF
  exact zf187_4_fr  hF
def zW184 (a0 : Nat) (q : Nat) : Bool := (q == (zrf a0 19)) || ((q == (zrf a0 20)) || ((q == (zrf a0 21)) || false))
theorem zf184_183_fr {q : Nat} {v : Int32} {s' : zS} {a0 : Nat} (hq : zW184 a0 q = false)   {n : Nat} : ∀ {x1 : Int32} {s : zS}, zf184_183 a0 n x1 s = some (v, s') → s' q = s q := by
  induction n with
  | zero => intro x1 s hF; rw [zf184_183] at hF; cases hF
  | succ n ih =>
    intro x1 s hF
    rw [zf184_183] at hF
    refine zr_al hF (fun v1 hF => ?_)
    refine zr_if hF (fun hF => ?_) (fun hF => ?_)
    · exact zr_ri hF
    · refine zr_bi hF (fun _ _ h => zf185_fr h) (fun v2 s3 hF => ?_)
      refine zr_bi hF (fun _ _ h => zf187_fr h) (fun v4 s5 hF => ?_)
      refine zr_if hF (fun hF => ?_) (fun hF => ?_)
      · exact ih hF
      · refine zr_al hF (fun v6 hF => ?_)
        exact zr_ri hF
theorem zf184_136_fr {q : Nat} {v : Int32} {s' : zS} {a0 : Nat} (hq : zW184 a0 q = false)   {n : Nat} : ∀ {x1 : Int32} {s : zS}, zf184_136 a0 n x1 s = some (v, s') → s' q = s q := by
  induction n with
  | zero => intro x1 s hF; rw [zf184_136] at hF; cases hF
  | succ n ih =>
    intro x1 s hF
    rw [zf184_136] at hF
    refine zr_al hF (fun v1 hF => ?_)
    refine zr_if hF (fun hF => ?_) (fun hF => ?_)
    · exact zf184_183_fr hq hF
    · refine zr_bi hF (fun _ _ h => zf185_fr h) (fun v2 s3 hF => ?_)
      refine zr_if hF (fun hF => ?_) (fun hF => ?_)
      · exact ih hF
      · refine zr_al hF (fun v4 hF => ?_)
        refine zr_if hF (fun hF => ?_) (fun hF => ?_)
        · exact ih hF
        · refine zr_al hF (fun v5 hF => ?_)
          exact zr_ri hF
theorem zf184_23_fr {q : Nat} {v : Int32} {s' : zS} {a0 : Nat} (hq : zW184 a0 q = false)   {n : Nat} : ∀ {x1 : Int32} {s : zS}, zf184_23 a0 n x1 s = some (v, s') → s' q = s q := by
  induction n with
  | zero => intro x1 s hF; rw [zf184_23] at hF; cases hF
  | succ n ih =>
    intro x1 s hF
    rw [zf184_23] at hF
    refine zr_al hF (fun v1 hF => ?_)
    refine zr_if hF (fun hF => ?_) (fun hF => ?_)
    · exact zf184_136_fr hq hF
    · refine zr_bi hF (fun _ _ h => zf185_fr h) (fun v2 s3 hF => ?_)
      refine zr_al hF (fun v4 hF => ?_)
      refine zr_if hF (fun hF => ?_) (fun hF => ?_)
      · refine zr_bs hF (zo1 hq) (fun s5 hF => ?_)
        refine zr_bi hF (fun _ _ h => zf185_fr h) (fun v6 s7 hF => ?_)
        refine zr_as hF (zo1 (zo2 hq)) (fun s8 hF => ?_)
        refine zr_bi hF (fun _ _ h => zf186_fr h) (fun v9 s10 hF => ?_)
        refine zr_as hF (zo1 (zo2 (zo2 hq))) (fun s11 hF => ?_)
        refine zr_bi hF (fun _ _ h => zf186_fr h) (fun v12 s13 hF => ?_)
        refine zr_as hF (zo1 (zo2 (zo2 hq))) (fun s14 hF => ?_)
        refine zr_bi hF (fun _ _ h => zf186_fr h) (fun v15 s16 hF => ?_)
        refine zr_as hF (zo1 (zo2 (zo2 hq))) (fun s17 hF => ?_)
        exact ih hF
      · refine zr_al hF (fun v18 hF => ?_)
        exact zr_ri hF
theorem zf184_2_fr {q : Nat} {v : Int32} {s' : zS} {a0 : Nat} (hq : zW184 a0 q = false)   {n : Nat} : ∀ {x1 : Int32} {s : zS}, zf184_2 a0 n x1 s = some (v, s') → s' q = s q := by
  induction n with
  | zero => intro x1 s hF; rw [zf184_2] at hF; cases hF
  | succ n ih =>
    intro x1 s hF
    rw [zf184_2] at hF
    refine zr_if hF (fun hF => ?_) (fun hF => ?_)
    · exact zf184_23_fr hq hF
    · refine zr_bs hF (zo1 hq) (fun s1 hF => ?_)
      exact ih hF
theorem zf184_fr {q : Nat} {v : Int32} {s' : zS} {a0 : Nat} (hq : zW184 a0 q = false)  {s : zS} (hF : zf184 a0 s = some (v, s')) : s' q = s q := by
  unfold zf184 at hF
  exact zf184_2_fr hq hF
theorem zf188_2_fr {q : Nat} {v : Int32} {s' : zS} {a0 : Nat}    {n : Nat} : ∀ {x1 : Int32} {s : zS}, zf188_2 a0 n x1 s = some (v, s') → s' q = s q := by
  induction n with
  | zero => intro x1 s hF; rw [zf188_2] at hF; cases hF
  | succ n ih =>
    intro x1 s hF
    rw [zf188_2] at hF
    refine zr_al hF (fun v1 hF => ?_)
    refine zr_if hF (fun hF => ?_) (fun hF => ?_)
    · exact zr_ri hF
    · refine zr_bi hF (fun _ _ h => zf185_fr h) (fun v2 s3 hF => ?_)
      refine zr_if hF (fun hF => ?_) (fun hF => ?_)
      · exact ih hF
      · refine zr_al hF (fun v4 hF => ?_)
        refine zr_if hF (fun hF => ?_) (fun hF => ?_)
        · exact ih hF
        · refine zr_al hF (fun v5 hF => ?_)
          exact zr_ri hF
theorem zf188_fr {q : Nat} {v : Int32} {s' : zS} {a0 : Nat}   {s : zS} (hF : zf188 a0 s = some (v, s')) : s' q = s q := by
  unfold zf188 at hF
  exact zf188_2_fr  hF
def zW190 (a0 : Nat) (q : Nat) : Bool := (q == (zrf a0 22)) || ((q == (zrf a0 25)) || ((q == (zrf a0 23)) || ((q == (zrf a0 24)) || ((q == (zrf a0 26)) || ((q == (zrf a0 27)) || false)))))
theorem zf190_53_fr {q : Nat} {s' : zS} {a0 : Nat} (hq : zW190 a0 q = false)   {n : Nat} : ∀ {x1 : Int32} {x4 : Int32} {x5 : Int32} {s : zS}, zf190_53 a0 n x1 x4 x5 s = some s' → s' q = s q := by
  induction n with
  | zero => intro x1 x4 x5 s hF; rw [zf190_53] at hF; cases hF
  | succ n ih =>
    intro x1 x4 x5 s hF
    rw [zf190_53] at hF
    refine zr_if hF (fun hF => ?_) (fun hF => ?_)
    · refine zr_al hF (fun v1 hF => ?_)
      refine zr_as hF (zo1 hq) (fun s2 hF => ?_)
      exact zr_rv hF
    · refine zr_as hF (zo1 (zo2 hq)) (fun s3 hF => ?_)
      exact ih hF
theorem zf190_fr {q : Nat} {s' : zS} {a0 : Nat} (hq : zW190 a0 q = false) {x1 : Int32} {x2 : Int32} {x3 : Int32} {s : zS} (hF : zf190 a0 x1 x2 x3 s = some s') : s' q = s q := by
  unfold zf190 at hF
  refine zr_al hF (fun v1 hF => ?_)
  refine zr_as hF (zo1 (zo2 (zo2 hq))) (fun s2 hF => ?_)
  refine zr_as hF (zo1 (zo2 (zo2 (zo2 hq)))) (fun s3 hF => ?_)
  refine zr_al hF (fun v4 hF => ?_)
  refine zr_as hF (zo1 (zo2 (zo2 (zo2 (zo2 hq))))) (fun s5 hF => ?_)
  refine zr_as hF (zo1 (zo2 (zo2 (zo2 (zo2 (zo2 hq)))))) (fun s6 hF => ?_)
  exact zf190_53_fr hq hF
theorem zf194_29_fr {q : Nat} {v : Int32} {s' : zS} {a0 : Nat}    {x2 : Int32} {x3 : Int32} {s : zS} (hF : zf194_29 a0 x2 x3 s = some (v, s')) : s' q = s q := by
  unfold zf194_29 at hF
  refine zr_if hF (fun hF => ?_) (fun hF => ?_)
  · refine zr_al hF (fun v1 hF => ?_)
    exact zr_ri hF
  · exact zr_ri hF
theorem zf194_2_fr {q : Nat} {v : Int32} {s' : zS} {a0 : Nat}    {n : Nat} : ∀ {x2 : Int32} {x3 : Int32} {s : zS}, zf194_2 a0 n x2 x3 s = some (v, s') → s' q = s q := by
  induction n with
  | zero => intro x2 x3 s hF; rw [zf194_2] at hF; cases hF
  | succ n ih =>
    intro x2 x3 s hF
    rw [zf194_2] at hF
    refine zr_if hF (fun hF => ?_) (fun hF => ?_)
    · exact zf194_29_fr  hF
    · refine zr_al hF (fun v1 hF => ?_)
      refine zr_if hF (fun hF => ?_) (fun hF => ?_)
      · exact zf194_29_fr  hF
      · refine zr_al hF (fun v2 hF => ?_)
        exact ih hF
theorem zf194_fr {q : Nat} {v : Int32} {s' : zS} {a0 : Nat}  {x1 : Int32} {x2 : Int32} {s : zS} (hF : zf194 a0 x1 x2 s = some (v, s')) : s' q = s q := by
  unfold zf194 at hF
  exact zf194_2_fr  hF
theorem zf193_68_fr {q : Nat} {v : Int32} {s' : zS} {a0 : Nat}  {k5 : Int32 → Int32 → Int32 → zS → Option (Int32 × zS)} (hk5 : ∀ x2 x3 x4 s, k5 x2 x3 x4 s = some (v, s') → s' q = s q) {x2 : Int32} {x3 : Int32} {t0 : Int32} {s : zS} (hF : zf193_68 a0 k5 x2 x3 t0 s = some (v, s')) : s' q = s q := by
  unfold zf193_68 at hF
  refine zr_al hF (fun v1 hF => ?_)
  exact hk5 _ _ _ _ hF
theorem zf193_42_fr {q : Nat} {v : Int32} {s' : zS} {a0 : Nat}  {k5 : Int32 → Int32 → Int32 → zS → Option (Int32 × zS)} (hk5 : ∀ x2 x3 x4 s, k5 x2 x3 x4 s = some (v, s') → s' q = s q) {x2 : Int32} {x3 : Int32} {s : zS} (hF : zf193_42 a0 k5 x2 x3 s = some (v, s')) : s' q = s q := by
  unfold zf193_42 at hF
  refine zr_bi hF (fun _ _ h => zf185_fr h) (fun v1 s2 hF => ?_)
  refine zr_if hF (fun hF => ?_) (fun hF => ?_)
  · refine zr_bi hF (fun _ _ h => zf194_fr h) (fun v3 s4 hF => ?_)
    exact zf193_68_fr  hk5 hF
  · exact zf193_68_fr  hk5 hF
theorem zf193_83_fr {q : Nat} {v : Int32} {s' : zS} {a0 : Nat}    {x2 : Int32} {x4 : Int32} {s : zS} (hF : zf193_83 a0 x2 x4 s = some (v, s')) : s' q = s q := by
  unfold zf193_83 at hF
  refine zr_if hF (fun hF => ?_) (fun hF => ?_)
  · refine zr_if hF (fun hF => ?_) (fun hF => ?_)
    · exact zr_ri hF
    · exact zr_ri hF
  · exact zr_ri hF
theorem zf193_5_fr {q : Nat} {v : Int32} {s' : zS} {a0 : Nat}    {n : Nat} : ∀ {x2 : Int32} {x3 : Int32} {x4 : Int32} {s : zS}, zf193_5 a0 n x2 x3 x4 s = some (v, s') → s' q = s q := by
  induction n with
  | zero => intro x2 x3 x4 s hF; rw [zf193_5] at hF; cases hF
  | succ n ih =>
    intro x2 x3 x4 s hF
    rw [zf193_5] at hF
    refine zr_if hF (fun hF => ?_) (fun hF => ?_)
    · exact zf193_83_fr  hF
    · refine zr_if hF (fun hF => ?_) (fun hF => ?_)
      · exact zf193_83_fr  hF
      · refine zr_al hF (fun v1 hF => ?_)
        refine zr_if hF (fun hF => ?_) (fun hF => ?_)
        · exact zf193_42_fr  (fun _ _ _ _ hF => ih hF) hF
        · refine zr_al hF (fun v2 hF => ?_)
          refine zr_if hF (fun hF => ?_) (fun hF => ?_)
          · exact zf193_83_fr  hF
          · exact zf193_42_fr  (fun _ _ _ _ hF => ih hF) hF
theorem zf193_fr {q : Nat} {v : Int32} {s' : zS} {a0 : Nat}  {x1 : Int32} {x2 : Int32} {s : zS} (hF : zf193 a0 x1 x2 s = some (v, s')) : s' q = s q := by
  unfold zf193 at hF
  exact zf193_5_fr  hF
def zW192 (a0 : Nat) (q : Nat) : Bool := (q == (zrf a0 25)) || false
theorem zf192_2_fr {q : Nat} {s' : zS} {a0 : Nat} (hq : zW192 a0 q = false)   {n : Nat} : ∀ {x1 : Int32} {x2 : Int32} {x3 : Int32} {s : zS}, zf192_2 a0 n x1 x2 x3 s = some s' → s' q = s q := by
  induction n with
  | zero => intro x1 x2 x3 s hF; rw [zf192_2] at hF; cases hF
  | succ n ih =>
    intro x1 x2 x3 s hF
    rw [zf192_2] at hF
    refine zr_if hF (fun hF => ?_) (fun hF => ?_)
    · exact zr_rv hF
    · refine zr_bi hF (fun _ _ h => zf193_fr h) (fun v1 s2 hF => ?_)
      refine zr_as hF (zo1 hq) (fun s3 hF => ?_)
      exact ih hF
theorem zf192_fr {q : Nat} {s' : zS} {a0 : Nat} (hq : zW192 a0 q = false) {x1 : Int32} {x2 : Int32} {s : zS} (hF : zf192 a0 x1 x2 s = some s') : s' q = s q := by
  unfold zf192 at hF
  exact zf192_2_fr hq hF
theorem zf195_2_fr {q : Nat} {v : Int32} {s' : zS} {a0 : Nat}    {n : Nat} : ∀ {x2 : Int32} {s : zS}, zf195_2 a0 n x2 s = some (v, s') → s' q = s q := by
  induction n with
  | zero => intro x2 s hF; rw [zf195_2] at hF; cases hF
  | succ n ih =>
    intro x2 s hF
    rw [zf195_2] at hF
    refine zr_al hF (fun v1 hF => ?_)
    refine zr_if hF (fun hF => ?_) (fun hF => ?_)
    · exact zr_ri hF
    · refine zr_al hF (fun v2 hF => ?_)
      exact ih hF
theorem zf195_fr {q : Nat} {v : Int32} {s' : zS} {a0 : Nat}  {x1 : Int32} {s : zS} (hF : zf195 a0 x1 s = some (v, s')) : s' q = s q := by
  unfold zf195 at hF
  exact zf195_2_fr  hF
theorem zf196_5_fr {q : Nat} {v : Int32} {s' : zS} {a0 : Nat}    {n : Nat} : ∀ {x1 : Int32} {x2 : Int32} {x3 : Int32} {x4 : Int32} {s : zS}, zf196_5 a0 n x1 x2 x3 x4 s = some (v, s') → s' q = s q := by
  induction n with
  | zero => intro x1 x2 x3 x4 s hF; rw [zf196_5] at hF; cases hF
  | succ n ih =>
    intro x1 x2 x3 x4 s hF
    rw [zf196_5] at hF
    refine zr_if hF (fun hF => ?_) (fun hF => ?_)
    · exact zr_rb hF
    · refine zr_if hF (fun hF => ?_) (fun hF => ?_)
      · exact ih hF
      · refine zr_al hF (fun v1 hF => ?_)
        refine zr_bi hF (fun _ _ h => zf193_fr h) (fun v2 s3 hF => ?_)
        refine zr_if hF (fun hF => ?_) (fun hF => ?_)
        · exact ih hF
        · exact ih hF
theorem zf196_fr {q : Nat} {v : Int32} {s' : zS} {a0 : Nat}  {x1 : Int32} {x2 : Int32} {s : zS} (hF : zf196 a0 x1 x2 s = some (v, s')) : s' q = s q := by
  unfold zf196 at hF
  exact zf196_5_fr  hF
def zW197 (a0 : Nat) (q : Nat) : Bool := (q == (zrf a0 29)) || ((q == (zrf a0 28)) || ((q == (zrf a0 27)) || false))
theorem zf197_fr {q : Nat} {s' : zS} {a0 : Nat} (hq : zW197 a0 q = false) {x1 : Int32} {x2 : Int32} {s : zS} (hF : zf197 a0 x1 x2 s = some s') : s' q = s q := by
  unfold zf197 at hF
  refine zr_al hF (fun v1 hF => ?_)
  refine zr_as hF (zo1 hq) (fun s2 hF => ?_)
  refine zr_al hF (fun v3 hF => ?_)
  refine zr_as hF (zo1 (zo2 hq)) (fun s4 hF => ?_)
  refine zr_al hF (fun v5 hF => ?_)
  refine zr_al hF (fun v6 hF => ?_)
  refine zr_as hF (zo1 (zo2 (zo2 hq))) (fun s7 hF => ?_)
  exact zr_rv hF
def zW191 (a0 : Nat) (q : Nat) : Bool := zW197 a0 q || (zW190 a0 q || (zW192 a0 q || false))
theorem zf191_113_fr {q : Nat} {s' : zS} {a0 : Nat} (hq : zW191 a0 q = false) {k21 : Int32 → Int32 → Int32 → zS → Option (zS)} (hk21 : ∀ x1 x2 x3 s, k21 x1 x2 x3 s = some s' → s' q = s q) {x1 : Int32} {x2 : Int32} {x3 : Int32} {s : zS} (hF : zf191_113 a0 k21 x1 x2 x3 s = some s') : s' q = s q := by
  unfold zf191_113 at hF
  refine zr_al hF (fun v1 hF => ?_)
  refine zr_bv hF (fun _ h => zf197_fr (zo1 hq) h) (fun s3 hF => ?_)
  exact hk21 _ _ _ _ hF
theorem zf191_94_fr {q : Nat} {s' : zS} {a0 : Nat} (hq : zW191 a0 q = false) {k21 : Int32 → Int32 → Int32 → zS → Option (zS)} (hk21 : ∀ x1 x2 x3 s, k21 x1 x2 x3 s = some s' → s' q = s q) {x1 : Int32} {x2 : Int32} {x3 : Int32} {x4 : Int32} {x5 : Int32} {s : zS} (hF : zf191_94 a0 k21 x1 x2 x3 x4 x5 s = some s') : s' q = s q := by
  unfold zf191_94 at hF
  refine zr_bv hF (fun _ h => zf190_fr (zo1 (zo2 hq)) h) (fun s2 hF => ?_)
  refine zr_bv hF (fun _ h => zf192_fr (zo1 (zo2 (zo2 hq))) h) (fun s4 hF => ?_)
  exact zf191_113_fr hq hk21 hF
theorem zf191_21_fr {q : Nat} {s' : zS} {a0 : Nat} (hq : zW191 a0 q = false)   {n : Nat} : ∀ {x1 : Int32} {x2 : Int32} {x3 : Int32} {s : zS}, zf191_21 a0 n x1 x2 x3 s = some s' → s' q = s q := by
  induction n with
  | zero => intro x1 x2 x3 s hF; rw [zf191_21] at hF; cases hF
  | succ n ih =>
    intro x1 x2 x3 s hF
    rw [zf191_21] at hF
    refine zr_al hF (fun v1 hF => ?_)
    refine zr_if hF (fun hF => ?_) (fun hF => ?_)
    · exact zr_rv hF
    · refine zr_al hF (fun v2 hF => ?_)
      refine zr_if hF (fun hF => ?_) (fun hF => ?_)
      · exact ih hF
      · refine zr_bi hF (fun _ _ h => zf195_fr h) (fun v3 s4 hF => ?_)
        refine zr_if hF (fun hF => ?_) (fun hF => ?_)
        · exact ih hF
        · refine zr_al hF (fun v5 hF => ?_)
          refine zr_al hF (fun v6 hF => ?_)
          refine zr_if hF (fun hF => ?_) (fun hF => ?_)
          · exact zf191_94_fr hq (fun _ _ _ _ hF => ih hF) hF
          · refine zr_bi hF (fun _ _ h => zf196_fr h) (fun v7 s8 hF => ?_)
            refine zr_if hF (fun hF => ?_) (fun hF => ?_)
            · exact zf191_113_fr hq (fun _ _ _ _ hF => ih hF) hF
            · exact zf191_94_fr hq (fun _ _ _ _ hF => ih hF) hF
theorem zf191_fr {q : Nat} {s' : zS} {a0 : Nat} (hq : zW191 a0 q = false) {x1 : Int32} {s : zS} (hF : zf191 a0 x1 s = some s') : s' q = s q := by
  unfold zf191 at hF
  refine zr_al hF (fun v1 hF => ?_)
  refine zr_bv hF (fun _ h => zf192_fr (zo1 (zo2 (zo2 hq))) h) (fun s3 hF => ?_)
  exact zf191_21_fr hq hF
def zW189 (a0 : Nat) (q : Nat) : Bool := zW190 a0 q || (zW191 a0 q || ((q == (zrf a0 30)) || ((q == (zrf a0 22)) || ((q == (zrf a0 28)) || false))))
theorem zf189_118_fr {q : Nat} {s' : zS} {a0 : Nat} (hq : zW189 a0 q = false) {k16 : Int32 → zS → Option (zS)} (hk16 : ∀ x1 s, k16 x1 s = some s' → s' q = s q) {x1 : Int32} {x2 : Int32} {x3 : Int32} {t0 : Int32} {t1 : Int32} {s : zS} (hF : zf189_118 a0 k16 x1 x2 x3 t0 t1 s = some s') : s' q = s q := by
  unfold zf189_118 at hF
  refine zr_bv hF (fun _ h => zf190_fr (zo1 hq) h) (fun s2 hF => ?_)
  refine zr_if hF (fun hF => ?_) (fun hF => ?_)
  · exact hk16 _ _ hF
  · refine zr_bv hF (fun _ h => zf191_fr (zo1 (zo2 hq)) h) (fun s4 hF => ?_)
    exact hk16 _ _ hF
theorem zf189_84_fr {q : Nat} {s' : zS} {a0 : Nat} (hq : zW189 a0 q = false) {k16 : Int32 → zS → Option (zS)} (hk16 : ∀ x1 s, k16 x1 s = some s' → s' q = s q) {x1 : Int32} {x2 : Int32} {t0 : Int32} {s : zS} (hF : zf189_84 a0 k16 x1 x2 t0 s = some s') : s' q = s q := by
  unfold zf189_84 at hF
  refine zr_if hF (fun hF => ?_) (fun hF => ?_)
  · refine zr_if hF (fun hF => ?_) (fun hF => ?_)
    · refine zr_if hF (fun hF => ?_) (fun hF => ?_)
      · exact zf189_118_fr hq hk16 hF
      · exact zf189_118_fr hq hk16 hF
    · exact zf189_118_fr hq hk16 hF
  · exact zf189_118_fr hq hk16 hF
theorem zf189_16_fr {q : Nat} {s' : zS} {a0 : Nat} (hq : zW189 a0 q = false)   {n : Nat} : ∀ {x1 : Int32} {s : zS}, zf189_16 a0 n x1 s = some s' → s' q = s q := by
  induction n with
  | zero => intro x1 s hF; rw [zf189_16] at hF; cases hF
  | succ n ih =>
    intro x1 s hF
    rw [zf189_16] at hF
    refine zr_al hF (fun v1 hF => ?_)
    refine zr_if hF (fun hF => ?_) (fun hF => ?_)
    · exact zr_rv hF
    · refine zr_al hF (fun v2 hF => ?_)
      refine zr_if hF (fun hF => ?_) (fun hF => ?_)
      · exact ih hF
      · refine zr_al hF (fun v3 hF => ?_)
        refine zr_as hF (zo1 (zo2 (zo2 hq))) (fun s4 hF => ?_)
        refine zr_al hF (fun v5 hF => ?_)
        refine zr_if hF (fun hF => ?_) (fun hF => ?_)
        · refine zr_al hF (fun v6 hF => ?_)
          refine zr_al hF (fun v7 hF => ?_)
          exact zf189_84_fr hq (fun _ _ hF => ih hF) hF
        · exact zf189_84_fr hq (fun _ _ hF => ih hF) hF
theorem zf189_fr {q : Nat} {s' : zS} {a0 : Nat} (hq : zW189 a0 q = false)  {s : zS} (hF : zf189 a0 s = some s') : s' q = s q := by
  unfold zf189 at hF
  refine zr_as hF (zo1 (zo2 (zo2 (zo2 hq)))) (fun s1 hF => ?_)
  refine zr_as hF (zo1 (zo2 (zo2 (zo2 (zo2 hq))))) (fun s2 hF => ?_)
  exact zf189_16_fr hq hF
def zW173 (a0 : Nat) (q : Nat) : Bool := zW189 a0 q || (zW158 a0 q || (zW184 a0 q || (zW174 a0 q || false)))
theorem zf173_58_fr {q : Nat} {v : Int32} {s' : zS} {a0 : Nat} (hq : zW173 a0 q = false)   {x1 : Int32} {s : zS} (hF : zf173_58 a0 x1 s = some (v, s')) : s' q = s q := by
  unfold zf173_58 at hF
  refine zr_if hF (fun hF => ?_) (fun hF => ?_)
  · exact zr_ri hF
  · refine zr_bv hF (fun _ h => zf189_fr (zo1 hq) h) (fun s2 hF => ?_)
    refine zr_al hF (fun v3 hF => ?_)
    refine zr_if hF (fun hF => ?_) (fun hF => ?_)
    · exact zr_ri hF
    · refine zr_bi hF (fun _ _ h => zf158_fr (zo1 (zo2 hq)) h) (fun v4 s5 hF => ?_)
      exact zr_ri hF
theorem zf173_41_fr {q : Nat} {v : Int32} {s' : zS} {a0 : Nat} (hq : zW173 a0 q = false)   {t0 : Int32} {s : zS} (hF : zf173_41 a0 t0 s = some (v, s')) : s' q = s q := by
  unfold zf173_41 at hF
  refine zr_if hF (fun hF => ?_) (fun hF => ?_)
  · exact zf173_58_fr hq hF
  · refine zr_bi hF (fun _ _ h => zf158_fr (zo1 (zo2 hq)) h) (fun v1 s2 hF => ?_)
    exact zf173_58_fr hq hF
theorem zf173_19_fr {q : Nat} {v : Int32} {s' : zS} {a0 : Nat} (hq : zW173 a0 q = false)   {t0 : Int32} {s : zS} (hF : zf173_19 a0 t0 s = some (v, s')) : s' q = s q := by
  unfold zf173_19 at hF
  refine zr_if hF (fun hF => ?_) (fun hF => ?_)
  · exact zf173_58_fr hq hF
  · refine zr_bi hF (fun _ _ h => zf184_fr (zo1 (zo2 (zo2 hq))) h) (fun v1 s2 hF => ?_)
    refine zr_if hF (fun hF => ?_) (fun hF => ?_)
    · exact zf173_41_fr hq hF
    · refine zr_bi hF (fun _ _ h => zf188_fr h) (fun v3 s4 hF => ?_)
      exact zf173_41_fr hq hF
theorem zf173_fr {q : Nat} {v : Int32} {s' : zS} {a0 : Nat} (hq : zW173 a0 q = false)  {s : zS} (hF : zf173 a0 s = some (v, s')) : s' q = s q := by
  unfold zf173 at hF
  refine zr_bi hF (fun _ _ h => zf174_fr (zo1 (zo2 (zo2 (zo2 hq)))) h) (fun v1 s2 hF => ?_)
  refine zr_if hF (fun hF => ?_) (fun hF => ?_)
  · exact zf173_19_fr hq hF
  · refine zr_bi hF (fun _ _ h => zf174_fr (zo1 (zo2 (zo2 (zo2 hq)))) h) (fun v3 s4 hF => ?_)
    exact zf173_19_fr hq hF
def zW199 (a0 : Nat) (q : Nat) : Bool := zW197 a0 q || ((q == (zrf a0 25)) || false)
theorem zf199_55_fr {q : Nat} {s' : zS} {a0 : Nat} (hq : zW199 a0 q = false)   {n : Nat} : ∀ {x1 : Int32} {x3 : Int32} {x5 : Int32} {x6 : Int32} {s : zS}, zf199_55 a0 n x1 x3 x5 x6 s = some s' → s' q = s q := by
  induction n with
  | zero => intro x1 x3 x5 x6 s hF; rw [zf199_55] at hF; cases hF
  | succ n ih =>
    intro x1 x3 x5 x6 s hF
    rw [zf199_55] at hF
    refine zr_al hF (fun v1 hF => ?_)
    refine zr_if hF (fun hF => ?_) (fun hF => ?_)
    · exact zr_rv hF
    · refine zr_al hF (fun v2 hF => ?_)
      refine zr_al hF (fun v3 hF => ?_)
      refine zr_bv hF (fun _ h => zf197_fr (zo1 hq) h) (fun s5 hF => ?_)
      exact ih hF
theorem zf199_12_fr {q : Nat} {s' : zS} {a0 : Nat} (hq : zW199 a0 q = false)   {n : Nat} : ∀ {x1 : Int32} {x2 : Int32} {x3 : Int32} {x5 : Int32} {x6 : Int32} {s : zS}, zf199_12 a0 n x1 x2 x3 x5 x6 s = some s' → s' q = s q := by
  induction n with
  | zero => intro x1 x2 x3 x5 x6 s hF; rw [zf199_12] at hF; cases hF
  | succ n ih =>
    intro x1 x2 x3 x5 x6 s hF
    rw [zf199_12] at hF
    refine zr_if hF (fun hF => ?_) (fun hF => ?_)
    · exact zf199_55_fr hq hF
    · refine zr_al hF (fun v1 hF => ?_)
      refine zr_as hF (zo1 (zo2 hq)) (fun s2 hF => ?_)
      exact ih hF
theorem zf199_fr {q : Nat} {s' : zS} {a0 : Nat} (hq : zW199 a0 q = false) {x1 : Int32} {x2 : Int32} {x3 : Int32} {x4 : Int32} {s : zS} (hF : zf199 a0 x1 x2 x3 x4 s = some s') : s' q = s q := by
  unfold zf199 at hF
  exact zf199_12_fr hq hF
