/-! What the methods leave alone: zW<y> says of a place whether the method may write there (printed by wip/gen/fgen.py). -/
set_option maxRecDepth 100000
set_option linter.unusedVariables false
def zW78 (a0 : Nat) (q : Nat) : Bool := zW13 (zrf a0 5) q || ((q == (zrf a0 4)) || false)
theorem zf78_fr {q : Nat} {s' : zS} {a0 : Nat} (hq : zW78 a0 q = false) {x1 : Int32} {s : zS} (hF : zf78 a0 x1 s = some s') : s' q = s q := by
  unfold zf78 at hF
  refine zr_gf hF (fun v1 hF => ?_)
  refine zr_if hF (fun hF => ?_) (fun hF => ?_)
  · exact zr_rv hF
  · refine zr_bv hF (fun _ h => zf13_fr (zo1 hq) h) (fun s3 hF => ?_)
    refine zr_gf hF (fun v4 hF => ?_)
    refine zr_gf hF (fun v5 hF => ?_)
    refine zr_gf hF (fun v6 hF => ?_)
    refine zr_al hF (fun v7 hF => ?_)
    refine zr_as hF (zo1 (zo2 hq)) (fun s8 hF => ?_)
    exact zr_rv hF
def zW76 (a0 : Nat) (q : Nat) : Bool := zW78 (zrf a0 2) q || (zW75 (zrf a0 2) q || false)
theorem zf76_29_fr {q : Nat} {v : Int32} {s' : zS} {a0 : Nat} (hq : zW76 a0 q = false)   {x2 : Int32} {s : zS} (hF : zf76_29 a0 x2 s = some (v, s')) : s' q = s q := by
  unfold zf76_29 at hF
  refine zr_bv hF (fun _ h => zf78_fr (zo1 hq) h) (fun s2 hF => ?_)
  exact zr_rb hF
theorem zf76_fr {q : Nat} {v : Int32} {s' : zS} {a0 : Nat} (hq : zW76 a0 q = false) {x1 : Int32} {x2 : Int32} {s : zS} (hF : zf76 a0 x1 x2 s = some (v, s')) : s' q = s q := by
  unfold zf76 at hF
  refine zr_bi hF (fun _ _ h => zf77_fr h) (fun v1 s2 hF => ?_)
  refine zr_if hF (fun hF => ?_) (fun hF => ?_)
  · exact zf76_29_fr hq hF
  · refine zr_gf hF (fun v3 hF => ?_)
    refine zr_bi hF (fun _ _ h => zf75_fr (zo1 (zo2 hq)) h) (fun v4 s5 hF => ?_)
    refine zr_if hF (fun hF => ?_) (fun hF => ?_)
    · exact zf76_29_fr hq hF
    · exact zr_rb hF
def zW70 (a0 : Nat) (q : Nat) : Bool := zW76 a0 q || (zW72 a0 q || (zW71 (zrf a0 2) q || ((q == a0) || false)))
theorem zf70_111_fr {q : Nat} {v : Int32} {s' : zS} {a0 : Nat} (hq : zW70 a0 q = false) {k16 : Int32 → Int32 → zS → Option (Int32 × zS)} (hk16 : ∀ x1 x2 s, k16 x1 x2 s = some (v, s') → s' q = s q) {x1 : Int32} {x2 : Int32} {x3 : Int32} {s : zS} (hF : zf70_111 a0 k16 x1 x2 x3 s = some (v, s')) : s' q = s q := by
  unfold zf70_111 at hF
  refine zr_if hF (fun hF => ?_) (fun hF => ?_)
  · exact hk16 _ _ _ hF
  · exact zr_rb hF
theorem zf70_68_fr {q : Nat} {v : Int32} {s' : zS} {a0 : Nat} (hq : zW70 a0 q = false) {k16 : Int32 → Int32 → zS → Option (Int32 × zS)} (hk16 : ∀ x1 x2 s, k16 x1 x2 s = some (v, s') → s' q = s q) {x1 : Int32} {x2 : Int32} {x3 : Int32} {s : zS} (hF : zf70_68 a0 k16 x1 x2 x3 s = some (v, s')) : s' q = s q := by
  unfold zf70_68 at hF
  refine zr_al hF (fun v1 hF => ?_)
  refine zr_if hF (fun hF => ?_) (fun hF => ?_)
  · exact zf70_111_fr hq hk16 hF
  · refine zr_al hF (fun v2 hF => ?_)
    refine zr_al hF (fun v3 hF => ?_)
    refine zr_bi hF (fun _ _ h => zf18_fr h) (fun v4 s5 hF => ?_)
    refine zr_bi hF (fun _ _ h => zf76_fr (zo1 hq) h) (fun v6 s7 hF => ?_)
    exact zf70_111_fr hq hk16 hF
theorem zf70_16_fr {q : Nat} {v : Int32} {s' : zS} {a0 : Nat} (hq : zW70 a0 q = false)   {n : Nat} : ∀ {x1 : Int32} {x2 : Int32} {s : zS}, zf70_16 a0 n x1 x2 s = some (v, s') → s' q = s q := by
  induction n with
  | zero => intro x1 x2 s hF; rw [zf70_16] at hF; cases hF
  | succ n ih =>
    intro x1 x2 s hF
    rw [zf70_16] at hF
    refine zr_gf hF (fun v1 hF => ?_)
    refine zr_if hF (fun hF => ?_) (fun hF => ?_)
    · exact zr_rb hF
    · refine zr_gf hF (fun v2 hF => ?_)
      refine zr_if hF (fun hF => ?_) (fun hF => ?_)
      · exact zf70_68_fr hq (fun _ _ _ hF => ih hF) hF
      · refine zr_al hF (fun v3 hF => ?_)
        refine zr_if hF (fun hF => ?_) (fun hF => ?_)
        · exact zf70_68_fr hq (fun _ _ _ hF => ih hF) hF
        · refine zr_bi hF (fun _ _ h => zf72_fr (zo1 (zo2 hq)) h) (fun v4 s5 hF => ?_)
          exact zf70_111_fr hq (fun _ _ _ hF => ih hF) hF
theorem zf70_fr {q : Nat} {v : Int32} {s' : zS} {a0 : Nat} (hq : zW70 a0 q = false)  {s : zS} (hF : zf70 a0 s = some (v, s')) : s' q = s q := by
  unfold zf70 at hF
  refine zr_bv hF (fun _ h => zf71_fr (zo1 (zo2 (zo2 hq))) h) (fun s2 hF => ?_)
  refine zr_pf hF (zo1 (zo2 (zo2 (zo2 hq)))) (fun s3 hF => ?_)
  exact zf70_16_fr hq hF
def zW26 (a0 : Nat) (a1 : Nat) (q : Nat) : Bool := zW33 a0 q || (zW40 (zrf a0 4) q || (zW40 (zrf a0 5) q || (zW61 (zrf a0 6) q || (zW67 (zrf a0 6) q || (zW70 (zrf a0 7) q || (zW27 a0 a1 q || (zW34 a0 (zrf a0 2) a1 q || (zW34 a0 (zrf a0 3) a1 q || false))))))))
theorem zf26_154_fr {q : Nat} {v : Int32} {s' : zS} {a0 : Nat} {a1 : Nat} (hq : zW26 a0 a1 q = false)   {t0 : Int32} {s : zS} (hF : zf26_154 a0 a1 t0 s = some (v, s')) : s' q = s q := by
  unfold zf26_154 at hF
  refine zr_bi hF (fun _ _ h => zf33_fr (zo1 hq) h) (fun v1 s2 hF => ?_)
  refine zr_if hF (fun hF => ?_) (fun hF => ?_)
  · exact zr_ri hF
  · exact zr_ri hF
theorem zf26_38_fr {q : Nat} {v : Int32} {s' : zS} {a0 : Nat} {a1 : Nat} (hq : zW26 a0 a1 q = false)   {x2 : Int32} {s : zS} (hF : zf26_38 a0 a1 x2 s = some (v, s')) : s' q = s q := by
  unfold zf26_38 at hF
  refine zr_if hF (fun hF => ?_) (fun hF => ?_)
  · refine zr_bi hF (fun _ _ h => zf40_fr (zo1 (zo2 hq)) h) (fun v1 s2 hF => ?_)
    refine zr_bi hF (fun _ _ h => zf33_fr (zo1 hq) h) (fun v3 s4 hF => ?_)
    refine zr_if hF (fun hF => ?_) (fun hF => ?_)
    · exact zr_ri hF
    · refine zr_bi hF (fun _ _ h => zf40_fr (zo1 (zo2 (zo2 hq))) h) (fun v5 s6 hF => ?_)
      refine zr_bi hF (fun _ _ h => zf52_fr h) (fun v7 s8 hF => ?_)
      refine zr_bi hF (fun _ _ h => zf33_fr (zo1 hq) h) (fun v9 s10 hF => ?_)
      refine zr_if hF (fun hF => ?_) (fun hF => ?_)
      · refine zr_bi hF (fun _ _ h => zf53_fr h) (fun v11 s12 hF => ?_)
        refine zr_bi hF (fun _ _ h => zf33_fr (zo1 hq) h) (fun v13 s14 hF => ?_)
        refine zr_if hF (fun hF => ?_) (fun hF => ?_)
        · exact zr_ri hF
        · refine zr_bi hF (fun _ _ h => zf53_fr h) (fun v15 s16 hF => ?_)
          refine zr_bi hF (fun _ _ h => zf52_fr h) (fun v17 s18 hF => ?_)
          refine zr_bi hF (fun _ _ h => zf33_fr (zo1 hq) h) (fun v19 s20 hF => ?_)
          refine zr_if hF (fun hF => ?_) (fun hF => ?_)
          · refine zr_bi hF (fun _ _ h => zf61_fr (zo1 (zo2 (zo2 (zo2 hq)))) h) (fun v21 s22 hF => ?_)
            refine zr_bi hF (fun _ _ h => zf33_fr (zo1 hq) h) (fun v23 s24 hF => ?_)
            refine zr_if hF (fun hF => ?_) (fun hF => ?_)
            · refine zr_bv hF (fun _ h => zf67_fr (zo1 (zo2 (zo2 (zo2 (zo2 hq))))) h) (fun s26 hF => ?_)
              refine zr_bi hF (fun _ _ h => zf70_fr (zo1 (zo2 (zo2 (zo2 (zo2 (zo2 hq)))))) h) (fun v27 s28 hF => ?_)
              refine zr_if hF (fun hF => ?_) (fun hF => ?_)
              · exact zf26_154_fr hq hF
              · exact zf26_154_fr hq hF
            · exact zr_ri hF
          · exact zr_ri hF
      · exact zr_ri hF
  · exact zr_ri hF
theorem zf26_fr {q : Nat} {v : Int32} {s' : zS} {a0 : Nat} {a1 : Nat} (hq : zW26 a0 a1 q = false)  {s : zS} (hF : zf26 a0 a1 s = some (v, s')) : s' q = s q := by
  unfold zf26 at hF
  refine zr_bi hF (fun _ _ h => zf27_fr (zo1 (zo2 (zo2 (zo2 (zo2 (zo2 (zo2 hq))))))) h) (fun v1 s2 hF => ?_)
  refine zr_bi hF (fun _ _ h => zf33_fr (zo1 hq) h) (fun v3 s4 hF => ?_)
  refine zr_if hF (fun hF => ?_) (fun hF => ?_)
  · refine zr_bi hF (fun _ _ h => zf34_fr (zo1 (zo2 (zo2 (zo2 (zo2 (zo2 (zo2 (zo2 hq)))))))) h) (fun v5 s6 hF => ?_)
    refine zr_if hF (fun hF => ?_) (fun hF => ?_)
    · exact zf26_38_fr hq hF
    · refine zr_bi hF (fun _ _ h => zf34_fr (zo1 (zo2 (zo2 (zo2 (zo2 (zo2 (zo2 (zo2 (zo2 hq))))))))) h) (fun v7 s8 hF => ?_)
      exact zf26_38_fr hq hF
  · exact zr_ri hF
def zW80 (a0 : Nat) (a1 : Nat) (q : Nat) : Bool := (q == (zrf a0 4)) || (zW13 (zrf a0 5) q || (zW75 a0 q || false))
theorem zf80_23_fr {q : Nat} {s' : zS} {a0 : Nat} {a1 : Nat} (hq : zW80 a0 a1 q = false)   {n : Nat} : ∀ {x2 : Int32} {x4 : Int32} {s : zS}, zf80_23 a0 a1 n x2 x4 s = some s' → s' q = s q := by
  induction n with
  | zero => intro x2 x4 s hF; rw [zf80_23] at hF; cases hF
  | succ n ih =>
    intro x2 x4 s hF
    rw [zf80_23] at hF
    refine zr_al hF (fun v1 hF => ?_)
    refine zr_if hF (fun hF => ?_) (fun hF => ?_)
    · refine zr_gf hF (fun v2 hF => ?_)
      refine zr_gf hF (fun v3 hF => ?_)
      refine zr_gf hF (fun v4 hF => ?_)
      refine zr_al hF (fun v5 hF => ?_)
      refine zr_as hF (zo1 hq) (fun s6 hF => ?_)
      exact zr_rv hF
    · refine zr_al hF (fun v7 hF => ?_)
      refine zr_bi hF (fun _ _ h => zf18_fr h) (fun v8 s9 hF => ?_)
      refine zr_bv hF (fun _ h => zf13_fr (zo1 (zo2 hq)) h) (fun s11 hF => ?_)
      exact ih hF
theorem zf80_fr {q : Nat} {s' : zS} {a0 : Nat} {a1 : Nat} (hq : zW80 a0 a1 q = false) {x2 : Int32} {x3 : Int32} {s : zS} (hF : zf80 a0 a1 x2 x3 s = some s') : s' q = s q := by
  unfold zf80 at hF
  refine zr_al hF (fun v1 hF => ?_)
  refine zr_al hF (fun v2 hF => ?_)
  refine zr_bi hF (fun _ _ h => zf75_fr (zo1 (zo2 (zo2 hq))) h) (fun v3 s4 hF => ?_)
  refine zr_if hF (fun hF => ?_) (fun hF => ?_)
  · exact zr_rv hF
  · exact zf80_23_fr hq hF
def zW79 (a0 : Nat) (a1 : Nat) (q : Nat) : Bool := zW80 a0 a1 q || (zW71 a0 q || false)
theorem zf79_6_fr {q : Nat} {s' : zS} {a0 : Nat} {a1 : Nat} (hq : zW79 a0 a1 q = false)   {n : Nat} : ∀ {x2 : Int32} {s : zS}, zf79_6 a0 a1 n x2 s = some s' → s' q = s q := by
  induction n with
  | zero => intro x2 s hF; rw [zf79_6] at hF; cases hF
  | succ n ih =>
    intro x2 s hF
    rw [zf79_6] at hF
    refine zr_gf hF (fun v1 hF => ?_)
    refine zr_if hF (fun hF => ?_) (fun hF => ?_)
    · exact zr_rv hF
    · refine zr_al hF (fun v2 hF => ?_)
      refine zr_bv hF (fun _ h => zf80_fr (zo1 hq) h) (fun s4 hF => ?_)
      exact ih hF
theorem zf79_fr {q : Nat} {s' : zS} {a0 : Nat} {a1 : Nat} (hq : zW79 a0 a1 q = false)  {s : zS} (hF : zf79 a0 a1 s = some s') : s' q = s q := by
  unfold zf79 at hF
  refine zr_bv hF (fun _ h => zf71_fr (zo1 (zo2 hq)) h) (fun s2 hF => ?_)
  exact zf79_6_fr hq hF
def zW81 (a0 : Nat) (q : Nat) : Bool := (q == a0) || false
theorem zf81_fr {q : Nat} {s' : zS} {a0 : Nat} (hq : zW81 a0 q = false)  {s : zS} (hF : zf81 a0 s = some s') : s' q = s q := by
  unfold zf81 at hF
  refine zr_pb hF (zo1 hq) (fun s1 hF => ?_)
  refine zr_pf hF (zo1 hq) (fun s2 hF => ?_)
  exact zr_rv hF
def zW21 (a0 : Nat) (q : Nat) : Bool := zW26 (zrf a0 2) (zrf a0 0) q || (zWa (zrf a0 1) (fun p => zW79 p (zrf (zrf a0 2) 0) q) || (zW81 (zrf a0 3) q || false))
theorem zf21_17_fr {q : Nat} {o : am_O} {g' : Nat} {s' : zS} {a0 : Nat} (hq : zW21 a0 q = false)   {x1 : Int32} {s : zS} (hF : zf21_17 a0 x1 s = some (o, s', g')) : s' q = s q := by
  unfold zf21_17 at hF
  refine zr_bi hF (fun _ _ h => zf26_fr (zo1 hq) h) (fun v1 s2 hF => ?_)
  refine zr_if hF (fun hF => ?_) (fun hF => ?_)
  · exact zr_rx hF
  · refine zr_ar hF (fun q3 hbq3 hF => ?_)
    refine zr_bv hF (fun _ h => zf79_fr (zwinc (f := (fun p => zW79 p (zrf (zrf a0 2) 0) q)) hbq3 (zo1 (zo2 hq))) h) (fun s5 hF => ?_)
    refine zr_bv hF (fun _ h => zf81_fr (zo1 (zo2 (zo2 hq))) h) (fun s7 hF => ?_)
    exact zr_rx hF
theorem zf21_fr {q : Nat} {o : am_O} {g' : Nat} {s' : zS} {a0 : Nat} (hq : zW21 a0 q = false) {x1 : Int32} {s : zS} (hF : zf21 a0 x1 s = some (o, s', g')) : s' q = s q := by
  unfold zf21 at hF
  refine zr_if hF (fun hF => ?_) (fun hF => ?_)
  · exact zf21_17_fr hq hF
  · refine zr_if hF (fun hF => ?_) (fun hF => ?_)
    · exact zf21_17_fr hq hF
    · exact zr_rx hF
theorem zf83_fr {q : Nat} {o : am_O} {g' : Nat} {s' : zS} {a0 : Nat}  {x1 : Int32} {s : zS} (hF : zf83 a0 x1 s = some (o, s', g')) : s' q = s q := by
  unfold zf83 at hF
  refine zr_if hF (fun hF => ?_) (fun hF => ?_)
  · exact zr_rx hF
  · refine zr_if hF (fun hF => ?_) (fun hF => ?_)
    · refine zr_ar hF (fun q1 hbq1 hF => ?_)
      exact zr_rx hF
    · exact zr_rx hF
theorem zf82_fr {q : Nat} {o : am_O} {g' : Nat} {s' : zS} {a0 : Nat}  {x1 : Int32} {s : zS} (hF : zf82 a0 x1 s = some (o, s', g')) : s' q = s q := by
  unfold zf82 at hF
  refine zr_xr hF (fun _ _ _ h => zf83_fr h) (fun q3 s2 hF => ?_)
  refine zr_gf hF (fun v4 hF => ?_)
  exact zr_rx hF
theorem zf85_fr {q : Nat} {o : am_O} {g' : Nat} {s' : zS} {a0 : Nat}  {x1 : Int32} {s : zS} (hF : zf85 a0 x1 s = some (o, s', g')) : s' q = s q := by
  unfold zf85 at hF
  refine zr_if hF (fun hF => ?_) (fun hF => ?_)
  · exact zr_rx hF
  · refine zr_gf hF (fun v1 hF => ?_)
    refine zr_if hF (fun hF => ?_) (fun hF => ?_)
    · exact zr_rx hF
    · exact zr_rx hF
theorem zf84_fr {q : Nat} {o : am_O} {g' : Nat} {s' : zS} {a0 : Nat}  {x1 : Int32} {x2 : Int32} {s : zS} (hF : zf84 a0 x1 x2 s = some (o, s', g')) : s' q = s q := by
  unfold zf84 at hF
  refine zr_xr hF (fun _ _ _ h => zf83_fr h) (fun q3 s2 hF => ?_)
  refine zr_xr hF (fun _ _ _ h => zf85_fr h) (fun q6 s5 hF => ?_)
  refine zr_al hF (fun v7 hF => ?_)
  exact zr_rx hF
theorem zf87_fr {q : Nat} {o : am_O} {g' : Nat} {s' : zS} {a0 : Nat}  {x1 : Int32} {x2 : Int32} {s : zS} (hF : zf87 a0 x1 x2 s = some (o, s', g')) : s' q = s q := by
  unfold zf87 at hF
  refine zr_xr hF (fun _ _ _ h => zf83_fr h) (fun q3 s2 hF => ?_)
  refine zr_xr hF (fun _ _ _ h => zf85_fr h) (fun q6 s5 hF => ?_)
  refine zr_al hF (fun v7 hF => ?_)
  exact zr_rx hF
theorem zf88_fr {q : Nat} {o : am_O} {g' : Nat} {s' : zS} {a0 : Nat}  {x1 : Int32} {x2 : Int32} {x3 : Int32} {s : zS} (hF : zf88 a0 x1 x2 x3 s = some (o, s', g')) : s' q = s q := by
  unfold zf88 at hF
  refine zr_xr hF (fun _ _ _ h => zf83_fr h) (fun q3 s2 hF => ?_)
  refine zr_if hF (fun hF => ?_) (fun hF => ?_)
  · exact zr_rx hF
  · refine zr_if hF (fun hF => ?_) (fun hF => ?_)
    · refine zr_xr hF (fun _ _ _ h => zf85_fr h) (fun q6 s5 hF => ?_)
      refine zr_al hF (fun v7 hF => ?_)
      refine zr_if hF (fun hF => ?_) (fun hF => ?_)
      · refine zr_bi hF (fun _ _ h => zf74_fr h) (fun v8 s9 hF => ?_)
        exact zr_rx hF
      · exact zr_rx hF
    · exact zr_rx hF
theorem zf89_fr {q : Nat} {o : am_O} {g' : Nat} {s' : zS} {a0 : Nat}  {x1 : Int32} {x2 : Int32} {s : zS} (hF : zf89 a0 x1 x2 s = some (o, s', g')) : s' q = s q := by
  unfold zf89 at hF
  refine zr_xr hF (fun _ _ _ h => zf83_fr h) (fun q3 s2 hF => ?_)
  refine zr_xr hF (fun _ _ _ h => zf85_fr h) (fun q6 s5 hF => ?_)
  refine zr_al hF (fun v7 hF => ?_)
  exact zr_rx hF
theorem zf91_fr {q : Nat} {v : Int32} {s' : zS} {a0 : Nat}  {x1 : Int32} {x2 : Int32} {s : zS} (hF : zf91 a0 x1 x2 s = some (v, s')) : s' q = s q := by
  unfold zf91 at hF
  refine zr_if hF (fun hF => ?_) (fun hF => ?_)
  · exact zr_ri hF
  · refine zr_al hF (fun v1 hF => ?_)
    refine zr_if hF (fun hF => ?_) (fun hF => ?_)
    · exact zr_ri hF
    · refine zr_al hF (fun v2 hF => ?_)
      refine zr_bi hF (fun _ _ h => zf18_fr h) (fun v3 s4 hF => ?_)
      exact zr_ri hF
theorem zf90_fr {q : Nat} {o : am_O} {g' : Nat} {s' : zS} {a0 : Nat}  {x1 : Int32} {x2 : Int32} {x3 : Int32} {s : zS} (hF : zf90 a0 x1 x2 x3 s = some (o, s', g')) : s' q = s q := by
  unfold zf90 at hF
  refine zr_xr hF (fun _ _ _ h => zf83_fr h) (fun q3 s2 hF => ?_)
  refine zr_xr hF (fun _ _ _ h => zf85_fr h) (fun q6 s5 hF => ?_)
  refine zr_bi hF (fun _ _ h => zf91_fr h) (fun v7 s8 hF => ?_)
  exact zr_rx hF
def zW95 (a0 : Nat) (q : Nat) : Bool := (q == (zrf a0 4)) || ((q == (zrf a0 2)) || ((q == (zrf a0 1)) || ((q == (zrf a0 3)) || false)))
theorem zf95_123_fr {q : Nat} {s' : zS} {a0 : Nat} (hq : zW95 a0 q = false) {k70 : Int32 → zS → Option (zS)} (hk70 : ∀ x1 s, k70 x1 s = some s' → s' q = s q) {x1 : Int32} {s : zS} (hF : zf95_123 a0 k70 x1 s = some s') : s' q = s q := by
  unfold zf95_123 at hF
  refine zr_al hF (fun v1 hF => ?_)
  refine zr_al hF (fun v2 hF => ?_)
  refine zr_al hF (fun v3 hF => ?_)
  refine zr_as hF (zo1 hq) (fun s4 hF => ?_)
  exact hk70 _ _ hF
theorem zf95_70_fr {q : Nat} {s' : zS} {a0 : Nat} (hq : zW95 a0 q = false)   {n : Nat} : ∀ {x1 : Int32} {s : zS}, zf95_70 a0 n x1 s = some s' → s' q = s q := by
  induction n with
  | zero => intro x1 s hF; rw [zf95_70] at hF; cases hF
  | succ n ih =>
    intro x1 s hF
    rw [zf95_70] at hF
    refine zr_if hF (fun hF => ?_) (fun hF => ?_)
    · exact zr_rv hF
    · refine zr_al hF (fun v1 hF => ?_)
      refine zr_if hF (fun hF => ?_) (fun hF => ?_)
      · exact zf95_123_fr hq (fun _ _ hF => ih hF) hF
      · refine zr_al hF (fun v2 hF => ?_)
        refine zr_as hF (zo1 (zo2 hq)) (fun s3 hF => ?_)
        refine zr_as hF (zo1 (zo2 (zo2 hq))) (fun s4 hF => ?_)
        refine zr_al hF (fun v5 hF => ?_)
        refine zr_al hF (fun v6 hF => ?_)
        refine zr_as hF (zo1 (zo2 (zo2 (zo2 hq)))) (fun s7 hF => ?_)
        exact zf95_123_fr hq (fun _ _ hF => ih hF) hF
theorem zf95_2_fr {q : Nat} {s' : zS} {a0 : Nat} (hq : zW95 a0 q = false)   {n : Nat} : ∀ {x1 : Int32} {s : zS}, zf95_2 a0 n x1 s = some s' → s' q = s q := by
  induction n with
  | zero => intro x1 s hF; rw [zf95_2] at hF; cases hF
  | succ n ih =>
    intro x1 s hF
    rw [zf95_2] at hF
    refine zr_gf hF (fun v1 hF => ?_)
    refine zr_if hF (fun hF => ?_) (fun hF => ?_)
    · refine zr_as hF (zo1 hq) (fun s2 hF => ?_)
      refine zr_gf hF (fun v3 hF => ?_)
      exact zf95_70_fr hq hF
    · refine zr_as hF (zo1 (zo2 (zo2 hq))) (fun s4 hF => ?_)
      refine zr_as hF (zo1 (zo2 hq)) (fun s5 hF => ?_)
      refine zr_al hF (fun v6 hF => ?_)
      refine zr_as hF (zo1 (zo2 (zo2 (zo2 hq)))) (fun s7 hF => ?_)
      exact ih hF
theorem zf95_fr {q : Nat} {s' : zS} {a0 : Nat} (hq : zW95 a0 q = false)  {s : zS} (hF : zf95 a0 s = some s') : s' q = s q := by
  unfold zf95 at hF
  exact zf95_2_fr hq hF
theorem zf97_fr {q : Nat} {v : Int32} {s' : zS} {a0 : Nat}  {x1 : Int32} {x2 : Int32} {s : zS} (hF : zf97 a0 x1 x2 s = some (v, s')) : s' q = s q := by
  unfold zf97 at hF
  refine zr_al hF (fun v1 hF => ?_)
  refine zr_al hF (fun v2 hF => ?_)
  refine zr_ar hF (fun q3 hbq3 hF => ?_)
  refine zr_al hF (fun v4 hF => ?_)
  exact zr_ri hF
theorem zf98_fr {q : Nat} {v : Int32} {s' : zS} {a0 : Nat}  {x1 : Int32} {x2 : Int32} {s : zS} (hF : zf98 a0 x1 x2 s = some (v, s')) : s' q = s q := by
  unfold zf98 at hF
  refine zr_al hF (fun v1 hF => ?_)
  refine zr_ar hF (fun q2 hbq2 hF => ?_)
  refine zr_al hF (fun v3 hF => ?_)
  refine zr_al hF (fun v4 hF => ?_)
  exact zr_ri hF
theorem zf99_fr {q : Nat} {v : Int32} {s' : zS} {a0 : Nat}  {x1 : Int32} {x2 : Int32} {s : zS} (hF : zf99 a0 x1 x2 s = some (v, s')) : s' q = s q := by
  unfold zf99 at hF
  refine zr_al hF (fun v1 hF => ?_)
  refine zr_al hF (fun v2 hF => ?_)
  refine zr_if hF (fun hF => ?_) (fun hF => ?_)
  · exact zr_rb hF
  · exact zr_rb hF
theorem zf101_34_fr {q : Nat} {v : Int32} {s' : zS} {a0 : Nat}    {n : Nat} : ∀ {x1 : Int32} {x2 : Int32} {x3 : Int32} {x4 : Int32} {s : zS}, zf101_34 a0 n x1 x2 x3 x4 s = some (v, s') → s' q = s q := by
  induction n with
  | zero => intro x1 x2 x3 x4 s hF; rw [zf101_34] at hF; cases hF
  | succ n ih =>
    intro x1 x2 x3 x4 s hF
    rw [zf101_34] at hF
    refine zr_if hF (fun hF => ?_) (fun hF => ?_)
    · exact zr_rb hF
    · refine zr_bi hF (fun _ _ h => zf91_fr h) (fun v1 s2 hF => ?_)
      refine zr_bi hF (fun _ _ h => zf91_fr h) (fun v3 s4 hF => ?_)
      refine zr_if hF (fun hF => ?_) (fun hF => ?_)
      · exact ih hF
      · exact zr_rb hF
theorem zf101_fr {q : Nat} {v : Int32} {s' : zS} {a0 : Nat}  {x1 : Int32} {x2 : Int32} {s : zS} (hF : zf101 a0 x1 x2 s = some (v, s')) : s' q = s q := by
  unfold zf101 at hF
  refine zr_al hF (fun v1 hF => ?_)
  refine zr_al hF (fun v2 hF => ?_)
  refine zr_if hF (fun hF => ?_) (fun hF => ?_)
  · exact zf101_34_fr  hF
  · exact zr_rb hF
theorem zf100_fr {q : Nat} {v : Int32} {s' : zS} {a0 : Nat}  {x1 : Int32} {x2 : Int32} {s : zS} (hF : zf100 a0 x1 x2 s = some (v, s')) : s' q = s q := by
  unfold zf100 at hF
  refine zr_bi hF (fun _ _ h => zf101_fr h) (fun v1 s2 hF => ?_)
  refine zr_if hF (fun hF => ?_) (fun hF => ?_)
  · refine zr_al hF (fun v3 hF => ?_)
    refine zr_al hF (fun v4 hF => ?_)
    refine zr_if hF (fun hF => ?_) (fun hF => ?_)
    · exact zr_ri hF
    · exact zr_ri hF
  · exact zr_ri hF
theorem zf102_fr {q : Nat} {v : Int32} {s' : zS} {a0 : Nat}  {x1 : Int32} {x2 : Int32} {s : zS} (hF : zf102 a0 x1 x2 s = some (v, s')) : s' q = s q := by
  unfold zf102 at hF
  refine zr_ar hF (fun q1 hbq1 hF => ?_)
  refine zr_al hF (fun v2 hF => ?_)
  refine zr_al hF (fun v3 hF => ?_)
  refine zr_ar hF (fun q4 hbq4 hF => ?_)
  refine zr_al hF (fun v5 hF => ?_)
  refine zr_al hF (fun v6 hF => ?_)
  exact zr_ri hF
def zW96 (a0 : Nat) (q : Nat) : Bool := zWr (zrf a0 10) q || (zWr (zrf a0 9) q || false)
theorem zf96_178_fr {q : Nat} {s' : zS} {a0 : Nat} (hq : zW96 a0 q = false) {k64 : Int32 → zS → Option (zS)} {k99 : Int32 → Int32 → zS → Option (zS)} (hk64 : ∀ x1 s, k64 x1 s = some s' → s' q = s q) (hk99 : ∀ x1 x2 s, k99 x1 x2 s = some s' → s' q = s q) {x1 : Int32} {x2 : Int32} {x3 : Int32} {s : zS} (hF : zf96_178 a0 k64 k99 x1 x2 x3 s = some s') : s' q = s q := by
  unfold zf96_178 at hF
  refine zr_ar hF (fun q1 hbq1 hF => ?_)
  refine zr_as hF (zwin hbq1 (zo1 hq)) (fun s2 hF => ?_)
  exact hk99 _ _ _ hF
theorem zf96_99_fr {q : Nat} {s' : zS} {a0 : Nat} (hq : zW96 a0 q = false) {k64 : Int32 → zS → Option (zS)} (hk64 : ∀ x1 s, k64 x1 s = some s' → s' q = s q) {n : Nat} : ∀ {x1 : Int32} {x2 : Int32} {s : zS}, zf96_99 a0 k64 n x1 x2 s = some s' → s' q = s q := by
  induction n with
  | zero => intro x1 x2 s hF; rw [zf96_99] at hF; cases hF
  | succ n ih =>
    intro x1 x2 s hF
    rw [zf96_99] at hF
    refine zr_if hF (fun hF => ?_) (fun hF => ?_)
    · exact hk64 _ _ hF
    · refine zr_bi hF (fun _ _ h => zf97_fr h) (fun v1 s2 hF => ?_)
      refine zr_bi hF (fun _ _ h => zf98_fr h) (fun v3 s4 hF => ?_)
      refine zr_bi hF (fun _ _ h => zf31_fr h) (fun v5 s6 hF => ?_)
      refine zr_bi hF (fun _ _ h => zf99_fr h) (fun v7 s8 hF => ?_)
      refine zr_if hF (fun hF => ?_) (fun hF => ?_)
      · exact zf96_178_fr hq hk64 (fun _ _ _ hF => ih hF) hF
      · refine zr_ar hF (fun q9 hbq9 hF => ?_)
        refine zr_bi hF (fun _ _ h => zf100_fr h) (fun v10 s11 hF => ?_)
        refine zr_al hF (fun v12 hF => ?_)
        refine zr_ar hF (fun q13 hbq13 hF => ?_)
        refine zr_al hF (fun v14 hF => ?_)
        refine zr_al hF (fun v15 hF => ?_)
        refine zr_as hF (zwin hbq9 (zo1 (zo2 hq))) (fun s16 hF => ?_)
        refine zr_bi hF (fun _ _ h => zf102_fr h) (fun v17 s18 hF => ?_)
        refine zr_bi hF (fun _ _ h => zf31_fr h) (fun v19 s20 hF => ?_)
        exact zf96_178_fr hq hk64 (fun _ _ _ hF => ih hF) hF
theorem zf96_64_fr {q : Nat} {s' : zS} {a0 : Nat} (hq : zW96 a0 q = false)   {n : Nat} : ∀ {x1 : Int32} {s : zS}, zf96_64 a0 n x1 s = some s' → s' q = s q := by
  induction n with
  | zero => intro x1 s hF; rw [zf96_64] at hF; cases hF
  | succ n ih =>
    intro x1 s hF
    rw [zf96_64] at hF
    refine zr_if hF (fun hF => ?_) (fun hF => ?_)
    · exact zr_rv hF
    · refine zr_ar hF (fun q1 hbq1 hF => ?_)
      refine zr_al hF (fun v2 hF => ?_)
      refine zr_as hF (zwin hbq1 (zo1 hq)) (fun s3 hF => ?_)
      refine zr_gf hF (fun v4 hF => ?_)
      exact zf96_99_fr hq (fun _ _ hF => ih hF) hF
theorem zf96_13_fr {q : Nat} {s' : zS} {a0 : Nat} (hq : zW96 a0 q = false)   {n : Nat} : ∀ {x1 : Int32} {s : zS}, zf96_13 a0 n x1 s = some s' → s' q = s q := by
  induction n with
  | zero => intro x1 s hF; rw [zf96_13] at hF; cases hF
  | succ n ih =>
    intro x1 s hF
    rw [zf96_13] at hF
    refine zr_gf hF (fun v1 hF => ?_)
    refine zr_if hF (fun hF => ?_) (fun hF => ?_)
    · refine zr_gf hF (fun v2 hF => ?_)
      exact zf96_64_fr hq hF
    · refine zr_ar hF (fun q3 hbq3 hF => ?_)
      refine zr_al hF (fun v4 hF => ?_)
      refine zr_as hF (zwin hbq3 (zo1 hq)) (fun s5 hF => ?_)
      exact ih hF
theorem zf96_fr {q : Nat} {s' : zS} {a0 : Nat} (hq : zW96 a0 q = false)  {s : zS} (hF : zf96 a0 s = some s') : s' q = s q := by
  unfold zf96 at hF
  refine zr_ar hF (fun q1 hbq1 hF => ?_)
  refine zr_as hF (zwin hbq1 (zo1 hq)) (fun s2 hF => ?_)
  exact zf96_13_fr hq hF
def zW105 (a0 : Nat) (q : Nat) : Bool := (q == (zrf a0 2)) || ((q == (zrf a0 3)) || ((q == (zrf a0 4)) || ((q == (zrf a0 5)) || ((q == a0) || false))))
theorem zf105_fr {q : Nat} {s' : zS} {a0 : Nat} (hq : zW105 a0 q = false) {x1 : Int32} {x2 : Int32} {x3 : Int32} {x4 : Int32} {s : zS} (hF : zf105 a0 x1 x2 x3 x4 s = some s') : s' q = s q := by
  unfold zf105 at hF
  refine zr_gf hF (fun v1 hF => ?_)
  refine zr_if hF (fun hF => ?_) (fun hF => ?_)
  · exact zr_rv hF
  · refine zr_gf hF (fun v2 hF => ?_)
    refine zr_as hF (zo1 hq) (fun s3 hF => ?_)
    refine zr_gf hF (fun v4 hF => ?_)
    refine zr_as hF (zo1 (zo2 hq)) (fun s5 hF => ?_)
    refine zr_gf hF (fun v6 hF => ?_)
    refine zr_as hF (zo1 (zo2 (zo2 hq))) (fun s7 hF => ?_)
    refine zr_gf hF (fun v8 hF => ?_)
    refine zr_as hF (zo1 (zo2 (zo2 (zo2 hq)))) (fun s9 hF => ?_)
    refine zr_gf hF (fun v10 hF => ?_)
    refine zr_pf hF (zo1 (zo2 (zo2 (zo2 (zo2 hq))))) (fun s11 hF => ?_)
    exact zr_rv hF
def zW104 (a0 : Nat) (q : Nat) : Bool := zW105 a0 q || false
theorem zf104_fr {q : Nat} {s' : zS} {a0 : Nat} (hq : zW104 a0 q = false) {x1 : Int32} {x2 : Int32} {s : zS} (hF : zf104 a0 x1 x2 s = some s') : s' q = s q := by
  unfold zf104 at hF
  refine zr_bi hF (fun _ _ h => zf100_fr h) (fun v1 s2 hF => ?_)
  refine zr_if hF (fun hF => ?_) (fun hF => ?_)
  · exact zr_rv hF
  · refine zr_bv hF (fun _ h => zf105_fr (zo1 hq) h) (fun s4 hF => ?_)
    exact zr_rv hF
theorem zf106_fr {q : Nat} {v : Int32} {s' : zS} {a0 : Nat}  {x1 : Int32} {x2 : Int32} {s : zS} (hF : zf106 a0 x1 x2 s = some (v, s')) : s' q = s q := by
  unfold zf106 at hF
  refine zr_if hF (fun hF => ?_) (fun hF => ?_)
  · exact zr_rb hF
  · refine zr_if hF (fun hF => ?_) (fun hF => ?_)
    · exact zr_rb hF
    · refine zr_bi hF (fun _ _ h => zf99_fr h) (fun v1 s2 hF => ?_)
      refine zr_if hF (fun hF => ?_) (fun hF => ?_)
      · exact zr_rb hF
      · refine zr_ar hF (fun q3 hbq3 hF => ?_)
        refine zr_al hF (fun v4 hF => ?_)
        refine zr_bi hF (fun _ _ h => zf102_fr h) (fun v5 s6 hF => ?_)
        refine zr_if hF (fun hF => ?_) (fun hF => ?_)
        · exact zr_rb hF
        · exact zr_rb hF
def zW103 (a0 : Nat) (q : Nat) : Bool := zW105 a0 q || (zW104 a0 q || false)
theorem zf103_205_fr {q : Nat} {s' : zS} {a0 : Nat} (hq : zW103 a0 q = false) {k34 : Int32 → Int32 → Int32 → Int32 → Int32 → zS → Option (zS)} (hk34 : ∀ x1 x2 x3 x4 x5 s, k34 x1 x2 x3 x4 x5 s = some s' → s' q = s q) {x1 : Int32} {x2 : Int32} {x3 : Int32} {x4 : Int32} {x5 : Int32} {s : zS} (hF : zf103_205 a0 k34 x1 x2 x3 x4 x5 s = some s') : s' q = s q := by
  unfold zf103_205 at hF
  refine zr_bv hF (fun _ h => zf105_fr (zo1 hq) h) (fun s2 hF => ?_)
  refine zr_al hF (fun v3 hF => ?_)
  exact hk34 _ _ _ _ _ _ hF
theorem zf103_114_fr {q : Nat} {s' : zS} {a0 : Nat} (hq : zW103 a0 q = false) {k34 : Int32 → Int32 → Int32 → Int32 → Int32 → zS → Option (zS)} (hk34 : ∀ x1 x2 x3 x4 x5 s, k34 x1 x2 x3 x4 x5 s = some s' → s' q = s q) {x1 : Int32} {x2 : Int32} {x3 : Int32} {x4 : Int32} {x5 : Int32} {s : zS} (hF : zf103_114 a0 k34 x1 x2 x3 x4 x5 s = some s') : s' q = s q := by
  unfold zf103_114 at hF
  refine zr_bi hF (fun _ _ h => zf106_fr h) (fun v1 s2 hF => ?_)
  refine zr_if hF (fun hF => ?_) (fun hF => ?_)
  · refine zr_if hF (fun hF => ?_) (fun hF => ?_)
    · exact zf103_205_fr hq hk34 hF
    · refine zr_ar hF (fun q3 hbq3 hF => ?_)
      refine zr_al hF (fun v4 hF => ?_)
      refine zr_bi hF (fun _ _ h => zf97_fr h) (fun v5 s6 hF => ?_)
      refine zr_if hF (fun hF => ?_) (fun hF => ?_)
      · exact zf103_205_fr hq hk34 hF
      · refine zr_bv hF (fun _ h => zf105_fr (zo1 hq) h) (fun s8 hF => ?_)
        refine zr_al hF (fun v9 hF => ?_)
        exact hk34 _ _ _ _ _ _ hF
  · refine zr_bv hF (fun _ h => zf104_fr (zo1 (zo2 hq)) h) (fun s11 hF => ?_)
    refine zr_al hF (fun v12 hF => ?_)
    refine zr_al hF (fun v13 hF => ?_)
    exact hk34 _ _ _ _ _ _ hF
theorem zf103_34_fr {q : Nat} {s' : zS} {a0 : Nat} (hq : zW103 a0 q = false)   {n : Nat} : ∀ {x1 : Int32} {x2 : Int32} {x3 : Int32} {x4 : Int32} {x5 : Int32} {s : zS}, zf103_34 a0 n x1 x2 x3 x4 x5 s = some s' → s' q = s q := by
  induction n with
  | zero => intro x1 x2 x3 x4 x5 s hF; rw [zf103_34] at hF; cases hF
  | succ n ih =>
    intro x1 x2 x3 x4 x5 s hF
    rw [zf103_34] at hF
    refine zr_if hF (fun hF => ?_) (fun hF => ?_)
    · exact zr_rv hF
    · refine zr_if hF (fun hF => ?_) (fun hF => ?_)
      · exact zf103_114_fr hq (fun _ _ _ _ _ _ hF => ih hF) hF
      · refine zr_if hF (fun hF => ?_) (fun hF => ?_)
        · exact zf103_114_fr hq (fun _ _ _ _ _ _ hF => ih hF) hF
        · refine zr_if hF (fun hF => ?_) (fun hF => ?_)
          · exact zr_rv hF
          · refine zr_if hF (fun hF => ?_) (fun hF => ?_)
            · refine zr_al hF (fun v1 hF => ?_)
              refine zr_al hF (fun v2 hF => ?_)
              refine zr_al hF (fun v3 hF => ?_)
              refine zr_al hF (fun v4 hF => ?_)
              exact ih hF
            · exact zr_rv hF
theorem zf103_fr {q : Nat} {s' : zS} {a0 : Nat} (hq : zW103 a0 q = false)  {s : zS} (hF : zf103 a0 s = some s') : s' q = s q := by
  unfold zf103 at hF
  refine zr_bv hF (fun _ h => zf104_fr (zo1 (zo2 hq)) h) (fun s2 hF => ?_)
  refine zr_al hF (fun v3 hF => ?_)
  refine zr_al hF (fun v4 hF => ?_)
  exact zf103_34_fr hq hF
def zW94 (a0 : Nat) (q : Nat) : Bool := zW95 (zrf a0 6) q || (zW95 (zrf a0 7) q || (zW96 a0 q || (zW81 a0 q || ((q == a0) || (zW103 a0 q || false)))))
theorem zf94_fr {q : Nat} {v : Int32} {s' : zS} {a0 : Nat} (hq : zW94 a0 q = false)  {s : zS} (hF : zf94 a0 s = some (v, s')) : s' q = s q := by
  unfold zf94 at hF
  refine zr_bv hF (fun _ h => zf95_fr (zo1 hq) h) (fun s2 hF => ?_)
  refine zr_bv hF (fun _ h => zf95_fr (zo1 (zo2 hq)) h) (fun s4 hF => ?_)
  refine zr_bv hF (fun _ h => zf96_fr (zo1 (zo2 (zo2 hq))) h) (fun s6 hF => ?_)
  refine zr_bv hF (fun _ h => zf81_fr (zo1 (zo2 (zo2 (zo2 hq)))) h) (fun s8 hF => ?_)
  refine zr_pb hF (zo1 (zo2 (zo2 (zo2 (zo2 hq))))) (fun s9 hF => ?_)
  refine zr_bv hF (fun _ h => zf103_fr (zo1 (zo2 (zo2 (zo2 (zo2 (zo2 hq)))))) h) (fun s11 hF => ?_)
  refine zr_ar hF (fun q12 hbq12 hF => ?_)
  refine zr_al hF (fun v13 hF => ?_)
  exact zr_ri hF
def zW92 (a0 : Nat) (q : Nat) : Bool := zW94 (zrf a0 3) q || false
theorem zf92_fr {q : Nat} {o : am_O} {g' : Nat} {s' : zS} {a0 : Nat} (hq : zW92 a0 q = false)  {s : zS} (hF : zf92 a0 s = some (o, s', g')) : s' q = s q := by
  unfold zf92 at hF
  refine zr_ar hF (fun q1 hbq1 hF => ?_)
  refine zr_gf hF (fun v2 hF => ?_)
  refine zr_if hF (fun hF => ?_) (fun hF => ?_)
  · exact zr_rx hF
  · refine zr_ar hF (fun q3 hbq3 hF => ?_)
    refine zr_gf hF (fun v4 hF => ?_)
    refine zr_if hF (fun hF => ?_) (fun hF => ?_)
    · refine zr_bi hF (fun _ _ h => zf94_fr (zo1 hq) h) (fun v5 s6 hF => ?_)
      exact zr_rx hF
    · exact zr_rx hF
theorem zf107_fr {q : Nat} {o : am_O} {g' : Nat} {s' : zS} {a0 : Nat}  {x1 : Int32} {x2 : Int32} {s : zS} (hF : zf107 a0 x1 x2 s = some (o, s', g')) : s' q = s q := by
  unfold zf107 at hF
  refine zr_if hF (fun hF => ?_) (fun hF => ?_)
  · exact zr_rx hF
  · refine zr_gf hF (fun v1 hF => ?_)
    refine zr_if hF (fun hF => ?_) (fun hF => ?_)
    · refine zr_if hF (fun hF => ?_) (fun hF => ?_)
      · refine zr_al hF (fun v2 hF => ?_)
        exact zr_rx hF
      · refine zr_al hF (fun v3 hF => ?_)
        exact zr_rx hF
    · exact zr_rx hF
def zW113 (a0 : Nat) (q : Nat) : Bool := zW80 (zrf a0 8) (zrf (zrf a0 7) 0) q || false
theorem zf113_31_fr {q : Nat} {s' : zS} {a0 : Nat} (hq : zW113 a0 q = false)   {n : Nat} : ∀ {x1 : Int32} {x3 : Int32} {x4 : Int32} {s : zS}, zf113_31 a0 n x1 x3 x4 s = some s' → s' q = s q := by
  induction n with
  | zero => intro x1 x3 x4 s hF; rw [zf113_31] at hF; cases hF
  | succ n ih =>
    intro x1 x3 x4 s hF
    rw [zf113_31] at hF
    refine zr_gf hF (fun v1 hF => ?_)
    refine zr_if hF (fun hF => ?_) (fun hF => ?_)
    · exact zr_rv hF
    · refine zr_al hF (fun v2 hF => ?_)
      refine zr_if hF (fun hF => ?_) (fun hF => ?_)
      · exact zr_rv hF
      · refine zr_al hF (fun v3 hF => ?_)
        refine zr_bv hF (fun _ h => zf80_fr (zo1 hq) h) (fun s5 hF => ?_)
        exact ih hF
theorem zf113_fr {q : Nat} {s' : zS} {a0 : Nat} (hq : zW113 a0 q = false) {x1 : Int32} {x2 : Int32} {s : zS} (hF : zf113 a0 x1 x2 s = some s') : s' q = s q := by
  unfold zf113 at hF
  refine zr_gf hF (fun v1 hF => ?_)
  refine zr_bv hF (fun _ h => zf80_fr (zo1 hq) h) (fun s3 hF => ?_)
  exact zf113_31_fr hq hF
def zW112 (a0 : Nat) (q : Nat) : Bool := zW113 a0 q || false
theorem zf112_2_fr {q : Nat} {s' : zS} {a0 : Nat} (hq : zW112 a0 q = false)   {n : Nat} : ∀ {x1 : Int32} {x2 : Int32} {x3 : Int32} {s : zS}, zf112_2 a0 n x1 x2 x3 s = some s' → s' q = s q := by
  induction n with
  | zero => intro x1 x2 x3 s hF; rw [zf112_2] at hF; cases hF
  | succ n ih =>
    intro x1 x2 x3 s hF
    rw [zf112_2] at hF
    refine zr_gf hF (fun v1 hF => ?_)
    refine zr_if hF (fun hF => ?_) (fun hF => ?_)
    · exact zr_rv hF
    · refine zr_if hF (fun hF => ?_) (fun hF => ?_)
      · exact zr_rv hF
      · refine zr_al hF (fun v2 hF => ?_)
        refine zr_if hF (fun hF => ?_) (fun hF => ?_)
        · exact ih hF
        · refine zr_al hF (fun v3 hF => ?_)
          refine zr_if hF (fun hF => ?_) (fun hF => ?_)
          · exact ih hF
          · refine zr_al hF (fun v4 hF => ?_)
            refine zr_al hF (fun v5 hF => ?_)
            refine zr_bv hF (fun _ h => zf113_fr (zo1 hq) h) (fun s7 hF => ?_)
            exact ih hF
theorem zf112_fr {q : Nat} {s' : zS} {a0 : Nat} (hq : zW112 a0 q = false) {x1 : Int32} {x2 : Int32} {s : zS} (hF : zf112 a0 x1 x2 s = some s') : s' q = s q := by
  unfold zf112 at hF
  exact zf112_2_fr hq hF
def zW111 (a0 : Nat) (q : Nat) : Bool := zW112 a0 q || false
theorem zf111_5_fr {q : Nat} {s' : zS} {a0 : Nat} (hq : zW111 a0 q = false)   {n : Nat} : ∀ {x2 : Int32} {x3 : Int32} {x4 : Int32} {s : zS}, zf111_5 a0 n x2 x3 x4 s = some s' → s' q = s q := by
  induction n with
  | zero => intro x2 x3 x4 s hF; rw [zf111_5] at hF; cases hF
  | succ n ih =>
    intro x2 x3 x4 s hF
    rw [zf111_5] at hF
    refine zr_if hF (fun hF => ?_) (fun hF => ?_)
    · exact zr_rv hF
    · refine zr_if hF (fun hF => ?_) (fun hF => ?_)
      · exact zr_rv hF
      · refine zr_if hF (fun hF => ?_) (fun hF => ?_)
        · exact zr_rv hF
        · refine zr_bv hF (fun _ h => zf112_fr (zo1 hq) h) (fun s2 hF => ?_)
          refine zr_al hF (fun v3 hF => ?_)
          exact ih hF
theorem zf111_fr {q : Nat} {s' : zS} {a0 : Nat} (hq : zW111 a0 q = false) {x1 : Int32} {x2 : Int32} {s : zS} (hF : zf111 a0 x1 x2 s = some s') : s' q = s q := by
  unfold zf111 at hF
  exact zf111_5_fr hq hF
def zW114 (a0 : Nat) (q : Nat) : Bool := (q == (zrf a0 12)) || (zW80 (zrf a0 8) (zrf (zrf a0 7) 0) q || (zW80 (zrf a0 8) (zrf (zrf a0 6) 0) q || false))
theorem zf114_fr {q : Nat} {s' : zS} {a0 : Nat} (hq : zW114 a0 q = false) {x1 : Int32} {x2 : Int32} {s : zS} (hF : zf114 a0 x1 x2 s = some s') : s' q = s q := by
  unfold zf114 at hF
  refine zr_gf hF (fun v1 hF => ?_)
  refine zr_as hF (zo1 hq) (fun s2 hF => ?_)
  refine zr_al hF (fun v3 hF => ?_)
  refine zr_if hF (fun hF => ?_) (fun hF => ?_)
  · refine zr_al hF (fun v4 hF => ?_)
    refine zr_bv hF (fun _ h => zf80_fr (zo1 (zo2 hq)) h) (fun s6 hF => ?_)
    exact zr_rv hF
  · refine zr_bv hF (fun _ h => zf80_fr (zo1 (zo2 (zo2 hq))) h) (fun s8 hF => ?_)
    exact zr_rv hF
def zW110 (a0 : Nat) (q : Nat) : Bool := zW114 a0 q || (zW111 a0 q || (zW112 a0 q || ((q == (zrf a0 11)) || false)))
theorem zf110_100_fr {q : Nat} {s' : zS} {a0 : Nat} (hq : zW110 a0 q = false) {k4 : Int32 → Int32 → zS → Option (zS)} (hk4 : ∀ x1 x2 s, k4 x1 x2 s = some s' → s' q = s q) {x2 : Int32} {t0 : Int32} {t1 : Int32} {s : zS} (hF : zf110_100 a0 k4 x2 t0 t1 s = some s') : s' q = s q := by
  unfold zf110_100 at hF
  refine zr_bv hF (fun _ h => zf114_fr (zo1 hq) h) (fun s2 hF => ?_)
  exact hk4 _ _ _ hF
theorem zf110_58_fr {q : Nat} {s' : zS} {a0 : Nat} (hq : zW110 a0 q = false) {k4 : Int32 → Int32 → zS → Option (zS)} (hk4 : ∀ x1 x2 s, k4 x1 x2 s = some s' → s' q = s q) {x1 : Int32} {x2 : Int32} {x3 : Int32} {s : zS} (hF : zf110_58 a0 k4 x1 x2 x3 s = some s') : s' q = s q := by
  unfold zf110_58 at hF
  refine zr_bv hF (fun _ h => zf111_fr (zo1 (zo2 hq)) h) (fun s2 hF => ?_)
  refine zr_bv hF (fun _ h => zf112_fr (zo1 (zo2 (zo2 hq))) h) (fun s4 hF => ?_)
  refine zr_al hF (fun v5 hF => ?_)
  refine zr_if hF (fun hF => ?_) (fun hF => ?_)
  · exact hk4 _ _ _ hF
  · refine zr_if hF (fun hF => ?_) (fun hF => ?_)
    · refine zr_al hF (fun v6 hF => ?_)
      exact zf110_100_fr hq hk4 hF
    · exact zf110_100_fr hq hk4 hF
theorem zf110_4_fr {q : Nat} {s' : zS} {a0 : Nat} (hq : zW110 a0 q = false)   {n : Nat} : ∀ {x1 : Int32} {x2 : Int32} {s : zS}, zf110_4 a0 n x1 x2 s = some s' → s' q = s q := by
  induction n with
  | zero => intro x1 x2 s hF; rw [zf110_4] at hF; cases hF
  | succ n ih =>
    intro x1 x2 s hF
    rw [zf110_4] at hF
    refine zr_gf hF (fun v1 hF => ?_)
    refine zr_if hF (fun hF => ?_) (fun hF => ?_)
    · refine zr_bv hF (fun _ h => zf111_fr (zo1 (zo2 hq)) h) (fun s3 hF => ?_)
      exact zr_rv hF
    · refine zr_al hF (fun v4 hF => ?_)
      refine zr_if hF (fun hF => ?_) (fun hF => ?_)
      · exact zf110_58_fr hq (fun _ _ _ hF => ih hF) hF
      · refine zr_al hF (fun v5 hF => ?_)
        refine zr_if hF (fun hF => ?_) (fun hF => ?_)
        · exact zf110_58_fr hq (fun _ _ _ hF => ih hF) hF
        · refine zr_as hF (zo1 (zo2 (zo2 (zo2 hq)))) (fun s6 hF => ?_)
          exact ih hF
theorem zf110_fr {q : Nat} {s' : zS} {a0 : Nat} (hq : zW110 a0 q = false)  {s : zS} (hF : zf110 a0 s = some s') : s' q = s q := by
  unfold zf110 at hF
  exact zf110_4_fr hq hF
def zW109 (a0 : Nat) (q : Nat) : Bool := zW71 (zrf a0 8) q || (zW110 a0 q || ((q == (zrf a0 11)) || ((q == a0) || (zW41 (zrf a0 11) q || false))))
theorem zf109_15_fr {q : Nat} {s' : zS} {a0 : Nat} (hq : zW109 a0 q = false)   {n : Nat} : ∀ {x2 : Int32} {s : zS}, zf109_15 a0 n x2 s = some s' → s' q = s q := by
  induction n with
  | zero => intro x2 s hF; rw [zf109_15] at hF; cases hF
  | succ n ih =>
    intro x2 s hF
    rw [zf109_15] at hF
    refine zr_gf hF (fun v1 hF => ?_)
    refine zr_if hF (fun hF => ?_) (fun hF => ?_)
    · refine zr_bv hF (fun _ h => zf71_fr (zo1 hq) h) (fun s3 hF => ?_)
      refine zr_bv hF (fun _ h => zf110_fr (zo1 (zo2 hq)) h) (fun s5 hF => ?_)
      exact zr_rv hF
    · refine zr_al hF (fun v6 hF => ?_)
      refine zr_if hF (fun hF => ?_) (fun hF => ?_)
      · exact ih hF
      · refine zr_al hF (fun v7 hF => ?_)
        refine zr_al hF (fun v8 hF => ?_)
        refine zr_if hF (fun hF => ?_) (fun hF => ?_)
        · refine zr_al hF (fun v9 hF => ?_)
          refine zr_as hF (zo1 (zo2 (zo2 hq))) (fun s10 hF => ?_)
          exact ih hF
        · refine zr_as hF (zo1 (zo2 (zo2 hq))) (fun s11 hF => ?_)
          exact ih hF
theorem zf109_fr {q : Nat} {s' : zS} {a0 : Nat} (hq : zW109 a0 q = false) {x1 : Int32} {s : zS} (hF : zf109 a0 x1 s = some s') : s' q = s q := by
  unfold zf109 at hF
  refine zr_pf hF (zo1 (zo2 (zo2 (zo2 hq)))) (fun s1 hF => ?_)
  refine zr_bv hF (fun _ h => zf41_fr (zo1 (zo2 (zo2 (zo2 (zo2 hq))))) h) (fun s3 hF => ?_)
  exact zf109_15_fr hq hF
def zW108 (a0 : Nat) (q : Nat) : Bool := zW109 (zrf a0 3) q || false
theorem zf108_fr {q : Nat} {o : am_O} {g' : Nat} {s' : zS} {a0 : Nat} (hq : zW108 a0 q = false) {x1 : Int32} {s : zS} (hF : zf108 a0 x1 s = some (o, s', g')) : s' q = s q := by
  unfold zf108 at hF
  refine zr_gf hF (fun v1 hF => ?_)
  refine zr_if hF (fun hF => ?_) (fun hF => ?_)
  · refine zr_if hF (fun hF => ?_) (fun hF => ?_)
    · exact zr_rx hF
    · refine zr_gf hF (fun v2 hF => ?_)
      refine zr_if hF (fun hF => ?_) (fun hF => ?_)
      · refine zr_bv hF (fun _ h => zf109_fr (zo1 hq) h) (fun s4 hF => ?_)
        refine zr_ar hF (fun q5 hbq5 hF => ?_)
        refine zr_gf hF (fun v6 hF => ?_)
        exact zr_rx hF
      · exact zr_rx hF
  · exact zr_rx hF
theorem zf118_43_fr {q : Nat} {v : Int32} {s' : zS} {a0 : Nat}    {x1 : Int32} {s : zS} (hF : zf118_43 a0 x1 s = some (v, s')) : s' q = s q := by
  unfold zf118_43 at hF
  refine zr_al hF (fun v1 hF => ?_)
  refine zr_if hF (fun hF => ?_) (fun hF => ?_)
  · exact zr_rb hF
  · refine zr_al hF (fun v2 hF => ?_)
    refine zr_if hF (fun hF => ?_) (fun hF => ?_)
    · exact zr_rb hF
    · exact zr_rb hF
theorem zf118_fr {q : Nat} {v : Int32} {s' : zS} {a0 : Nat}  {x1 : Int32} {s : zS} (hF : zf118 a0 x1 s = some (v, s')) : s' q = s q := by
  unfold zf118 at hF
  refine zr_al hF (fun v1 hF => ?_)
  refine zr_al hF (fun v2 hF => ?_)
  refine zr_if hF (fun hF => ?_) (fun hF => ?_)
  · exact zf118_43_fr  hF
  · refine zr_if hF (fun hF => ?_) (fun hF => ?_)
    · exact zf118_43_fr  hF
    · refine zr_al hF (fun v3 hF => ?_)
      refine zr_al hF (fun v4 hF => ?_)
      refine zr_if hF (fun hF => ?_) (fun hF => ?_)
      · exact zr_rb hF
      · exact zr_rb hF
theorem zf119_2_fr {q : Nat} {v : Int32} {s' : zS} {a0 : Nat}    {n : Nat} : ∀ {x1 : Int32} {x2 : Int32} {s : zS}, zf119_2 a0 n x1 x2 s = some (v, s') → s' q = s q := by
  induction n with
  | zero => intro x1 x2 s hF; rw [zf119_2] at hF; cases hF
  | succ n ih =>
    intro x1 x2 s hF
    rw [zf119_2] at hF
    refine zr_gf hF (fun v1 hF => ?_)
    refine zr_if hF (fun hF => ?_) (fun hF => ?_)
    · exact zr_ri hF
    · refine zr_al hF (fun v2 hF => ?_)
      refine zr_if hF (fun hF => ?_) (fun hF => ?_)
      · exact ih hF
      · exact zr_ri hF
theorem zf119_fr {q : Nat} {v : Int32} {s' : zS} {a0 : Nat}  {x1 : Int32} {s : zS} (hF : zf119 a0 x1 s = some (v, s')) : s' q = s q := by
  unfold zf119 at hF
  exact zf119_2_fr  hF
def zW117 (a0 : Nat) (a1 : Nat) (q : Nat) : Bool := (q == (zrf a0 4)) || ((q == a0) || false)
theorem zf117_7_fr {q : Nat} {v : Int32} {s' : zS} {a0 : Nat} {a1 : Nat} (hq : zW117 a0 a1 q = false)   {n : Nat} : ∀ {x2 : Int32} {s : zS}, zf117_7 a0 a1 n x2 s = some (v, s') → s' q = s q := by
  induction n with
  | zero => intro x2 s hF; rw [zf117_7] at hF; cases hF
  | succ n ih =>
    intro x2 s hF
    rw [zf117_7] at hF
    refine zr_gf hF (fun v1 hF => ?_)
    refine zr_if hF (fun hF => ?_) (fun hF => ?_)
    · exact zr_rb hF
    · refine zr_bi hF (fun _ _ h => zf118_fr h) (fun v2 s3 hF => ?_)
      refine zr_if hF (fun hF => ?_) (fun hF => ?_)
      · exact ih hF
      · refine zr_al hF (fun v4 hF => ?_)
        refine zr_bi hF (fun _ _ h => zf119_fr h) (fun v5 s6 hF => ?_)
        refine zr_if hF (fun hF => ?_) (fun hF => ?_)
        · exact ih hF
        · refine zr_gf hF (fun v7 hF => ?_)
          refine zr_if hF (fun hF => ?_) (fun hF => ?_)
          · refine zr_gf hF (fun v8 hF => ?_)
            refine zr_al hF (fun v9 hF => ?_)
            refine zr_as hF (zo1 hq) (fun s10 hF => ?_)
            refine zr_gf hF (fun v11 hF => ?_)
            refine zr_pf hF (zo1 (zo2 hq)) (fun s12 hF => ?_)
            exact ih hF
          · exact zr_rb hF
theorem zf117_fr {q : Nat} {v : Int32} {s' : zS} {a0 : Nat} {a1 : Nat} (hq : zW117 a0 a1 q = false)  {s : zS} (hF : zf117 a0 a1 s = some (v, s')) : s' q = s q := by
  unfold zf117 at hF
  refine zr_pf hF (zo1 (zo2 hq)) (fun s1 hF => ?_)
  exact zf117_7_fr hq hF
theorem zf139_fr {q : Nat} {v : Int32} {s' : zS} {a0 : Nat}  {x1 : Int32} {s : zS} (hF : zf139 a0 x1 s = some (v, s')) : s' q = s q := by
  unfold zf139 at hF
  refine zr_gf hF (fun v1 hF => ?_)
  refine zr_if hF (fun hF => ?_) (fun hF => ?_)
  · exact zr_rb hF
  · refine zr_al hF (fun v2 hF => ?_)
    refine zr_if hF (fun hF => ?_) (fun hF => ?_)
    · exact zr_rb hF
    · exact zr_rb hF
theorem zf143_2_fr {q : Nat} {v : Int32} {s' : zS} {a0 : Nat}    {n : Nat} : ∀ {x1 : Int32} {x2 : Int32} {x3 : Int32} {s : zS}, zf143_2 a0 n x1 x2 x3 s = some (v, s') → s' q = s q := by
  induction n with
  | zero => intro x1 x2 x3 s hF; rw [zf143_2] at hF; cases hF
  | succ n ih =>
    intro x1 x2 x3 s hF
    rw [zf143_2] at hF
    refine zr_if hF (fun hF => ?_) (fun hF => ?_)
    · exact zr_ri hF
    · refine zr_gf hF (fun v1 hF => ?_)
      refine zr_if hF (fun hF => ?_) (fun hF => ?_)
      · exact zr_ri hF
      · refine zr_bi hF (fun _ _ h => zf18_fr h) (fun v2 s3 hF => ?_)
        refine zr_bi hF (fun _ _ h => zf18_fr h) (fun v4 s5 hF => ?_)
        refine zr_if hF (fun hF => ?_) (fun hF => ?_)
        · exact zr_ri hF
        · exact ih hF
theorem zf143_fr {q : Nat} {v : Int32} {s' : zS} {a0 : Nat}  {x1 : Int32} {x2 : Int32} {s : zS} (hF : zf143 a0 x1 x2 s = some (v, s')) : s' q = s q := by
  unfold zf143 at hF
  exact zf143_2_fr  hF
theorem zf142_7_fr {q : Nat} {v : Int32} {s' : zS} {a0 : Nat}    {n : Nat} : ∀ {x1 : Int32} {x2 : Int32} {x3 : Int32} {x4 : Int32} {s : zS}, zf142_7 a0 n x1 x2 x3 x4 s = some (v, s') → s' q = s q := by
  induction n with
  | zero => intro x1 x2 x3 x4 s hF; rw [zf142_7] at hF; cases hF
  | succ n ih =>
    intro x1 x2 x3 x4 s hF
    rw [zf142_7] at hF
    refine zr_if hF (fun hF => ?_) (fun hF => ?_)
    · exact zr_ri hF
    · refine zr_if hF (fun hF => ?_) (fun hF => ?_)
      · exact zr_ri hF
      · refine zr_bi hF (fun _ _ h => zf143_fr h) (fun v1 s2 hF => ?_)
        refine zr_if hF (fun hF => ?_) (fun hF => ?_)
        · exact ih hF
        · exact ih hF
theorem zf142_fr {q : Nat} {v : Int32} {s' : zS} {a0 : Nat}  {x1 : Int32} {s : zS} (hF : zf142 a0 x1 s = some (v, s')) : s' q = s q := by
  unfold zf142 at hF
  exact zf142_7_fr  hF
def zW141 (a0 : Nat) (a1 : Nat) (q : Nat) : Bool := zW13 (zrf a0 3) q || false
theorem zf141_2_fr {q : Nat} {s' : zS} {a0 : Nat} {a1 : Nat} (hq : zW141 a0 a1 q = false)   {n : Nat} : ∀ {x2 : Int32} {s : zS}, zf141_2 a0 a1 n x2 s = some s' → s' q = s q := by
  induction n with
  | zero => intro x2 s hF; rw [zf141_2] at hF; cases hF
  | succ n ih =>
    intro x2 s hF
    rw [zf141_2] at hF
    refine zr_gf hF (fun v1 hF => ?_)
    refine zr_if hF (fun hF => ?_) (fun hF => ?_)
    · exact zr_rv hF
    · refine zr_bi hF (fun _ _ h => zf142_fr h) (fun v2 s3 hF => ?_)
      refine zr_if hF (fun hF => ?_) (fun hF => ?_)
      · refine zr_bi hF (fun _ _ h => zf143_fr h) (fun v4 s5 hF => ?_)
        refine zr_bv hF (fun _ h => zf13_fr (zo1 hq) h) (fun s7 hF => ?_)
        refine zr_bv hF (fun _ h => zf13_fr (zo1 hq) h) (fun s9 hF => ?_)
        refine zr_bv hF (fun _ h => zf13_fr (zo1 hq) h) (fun s11 hF => ?_)
        refine zr_bv hF (fun _ h => zf13_fr (zo1 hq) h) (fun s13 hF => ?_)
        exact ih hF
      · refine zr_bi hF (fun _ _ h => zf18_fr h) (fun v14 s15 hF => ?_)
        refine zr_bv hF (fun _ h => zf13_fr (zo1 hq) h) (fun s17 hF => ?_)
        exact ih hF
theorem zf141_fr {q : Nat} {s' : zS} {a0 : Nat} {a1 : Nat} (hq : zW141 a0 a1 q = false)  {s : zS} (hF : zf141 a0 a1 s = some s') : s' q = s q := by
  unfold zf141 at hF
  exact zf141_2_fr hq hF
def zW144 (a0 : Nat) (a1 : Nat) (q : Nat) : Bool := zW13 a0 q || false
theorem zf144_2_fr {q : Nat} {s' : zS} {a0 : Nat} {a1 : Nat} (hq : zW144 a0 a1 q = false)   {n : Nat} : ∀ {x2 : Int32} {s : zS}, zf144_2 a0 a1 n x2 s = some s' → s' q = s q := by
  induction n with
  | zero => intro x2 s hF; rw [zf144_2] at hF; cases hF
  | succ n ih =>
    intro x2 s hF
    rw [zf144_2] at hF
    refine zr_gf hF (fun v1 hF => ?_)
    refine zr_if hF (fun hF => ?_) (fun hF => ?_)
    · exact zr_rv hF
    · refine zr_al hF (fun v2 hF => ?_)
      refine zr_bv hF (fun _ h => zf13_fr (zo1 hq) h) (fun s4 hF => ?_)
      exact ih hF
theorem zf144_fr {q : Nat} {s' : zS} {a0 : Nat} {a1 : Nat} (hq : zW144 a0 a1 q = false)  {s : zS} (hF : zf144 a0 a1 s = some s') : s' q = s q := by
  unfold zf144 at hF
  exact zf144_2_fr hq hF
def zW140 (a0 : Nat) (a2 : Nat) (q : Nat) : Bool := zW13 (zrf a0 0) q || (zW144 (zrf a0 0) (zrf a0 3) q || (zW15 (zrf a0 3) q || (zW144 (zrf a0 3) a2 q || (zW141 a0 a2 q || false))))
theorem zf140_131_fr {q : Nat} {s' : zS} {a0 : Nat} {a2 : Nat} (hq : zW140 a0 a2 q = false)   {n : Nat} : ∀ {x4 : Int32} {x5 : Int32} {s : zS}, zf140_131 a0 a2 n x4 x5 s = some s' → s' q = s q := by
  induction n with
  | zero => intro x4 x5 s hF; rw [zf140_131] at hF; cases hF
  | succ n ih =>
    intro x4 x5 s hF
    rw [zf140_131] at hF
    refine zr_if hF (fun hF => ?_) (fun hF => ?_)
    · exact zr_rv hF
    · refine zr_bi hF (fun _ _ h => zf39_fr h) (fun v1 s2 hF => ?_)
      refine zr_bv hF (fun _ h => zf13_fr (zo1 hq) h) (fun s4 hF => ?_)
      exact ih hF
theorem zf140_28_fr {q : Nat} {s' : zS} {a0 : Nat} {a2 : Nat} (hq : zW140 a0 a2 q = false)   {x1 : Int32} {x3 : Int32} {s : zS} (hF : zf140_28 a0 a2 x1 x3 s = some s') : s' q = s q := by
  unfold zf140_28 at hF
  refine zr_bv hF (fun _ h => zf13_fr (zo1 hq) h) (fun s2 hF => ?_)
  refine zr_bv hF (fun _ h => zf13_fr (zo1 hq) h) (fun s4 hF => ?_)
  refine zr_gf hF (fun v5 hF => ?_)
  refine zr_bv hF (fun _ h => zf13_fr (zo1 hq) h) (fun s7 hF => ?_)
  refine zr_gf hF (fun v8 hF => ?_)
  refine zr_bv hF (fun _ h => zf13_fr (zo1 hq) h) (fun s10 hF => ?_)
  refine zr_gf hF (fun v11 hF => ?_)
  refine zr_bv hF (fun _ h => zf13_fr (zo1 hq) h) (fun s13 hF => ?_)
  refine zr_bv hF (fun _ h => zf144_fr (zo1 (zo2 hq)) h) (fun s15 hF => ?_)
  refine zr_bi hF (fun _ _ h => zf38_fr h) (fun v16 s17 hF => ?_)
  exact zf140_131_fr hq hF
theorem zf140_fr {q : Nat} {s' : zS} {a0 : Nat} {a2 : Nat} (hq : zW140 a0 a2 q = false) {x1 : Int32} {x3 : Int32} {s : zS} (hF : zf140 a0 x1 a2 x3 s = some s') : s' q = s q := by
  unfold zf140 at hF
  refine zr_bv hF (fun _ h => zf15_fr (zo1 (zo2 (zo2 hq))) h) (fun s2 hF => ?_)
  refine zr_if hF (fun hF => ?_) (fun hF => ?_)
  · refine zr_bv hF (fun _ h => zf144_fr (zo1 (zo2 (zo2 (zo2 hq)))) h) (fun s4 hF => ?_)
    exact zf140_28_fr hq hF
  · refine zr_bv hF (fun _ h => zf141_fr (zo1 (zo2 (zo2 (zo2 (zo2 hq))))) h) (fun s6 hF => ?_)
    exact zf140_28_fr hq hF
theorem zf147_fr {q : Nat} {v : Int32} {s' : zS} {a0 : Nat}   {s : zS} (hF : zf147 a0 s = some (v, s')) : s' q = s q := by
  unfold zf147 at hF
  refine zr_gf hF (fun v1 hF => ?_)
  exact zr_ri hF
def zW148 (a0 : Nat) (q : Nat) : Bool := (q == (zrf a0 1)) || ((q == a0) || false)
theorem zf148_63_fr {q : Nat} {v : Int32} {s' : zS} {a0 : Nat} (hq : zW148 a0 q = false) {k13 : Int64 → Int32 → Int32 → Int32 → zS → Option (Int32 × zS)} (hk13 : ∀ x1 x3 x4 x5 s, k13 x1 x3 x4 x5 s = some (v, s') → s' q = s q) {x1 : Int64} {x3 : Int32} {x5 : Int32} {x6 : Int32} {t0 : Int32} {s : zS} (hF : zf148_63 a0 k13 x1 x3 x5 x6 t0 s = some (v, s')) : s' q = s q := by
  unfold zf148_63 at hF
  refine zr_if hF (fun hF => ?_) (fun hF => ?_)
  · exact hk13 _ _ _ _ _ hF
  · exact hk13 _ _ _ _ _ hF
theorem zf148_106_fr {q : Nat} {v : Int32} {s' : zS} {a0 : Nat} (hq : zW148 a0 q = false)   {n : Nat} : ∀ {x1 : Int64} {x5 : Int32} {s : zS}, zf148_106 a0 n x1 x5 s = some (v, s') → s' q = s q := by
  induction n with
  | zero => intro x1 x5 s hF; rw [zf148_106] at hF; cases hF
  | succ n ih =>
    intro x1 x5 s hF
    rw [zf148_106] at hF
    refine zr_if hF (fun hF => ?_) (fun hF => ?_)
    · exact zr_rb hF
    · refine zr_if hF (fun hF => ?_) (fun hF => ?_)
      · exact ih hF
      · refine zr_gf hF (fun v1 hF => ?_)
        refine zr_as hF (zo1 hq) (fun s2 hF => ?_)
        refine zr_gf hF (fun v3 hF => ?_)
        refine zr_pf hF (zo1 (zo2 hq)) (fun s4 hF => ?_)
        exact ih hF
theorem zf148_13_fr {q : Nat} {v : Int32} {s' : zS} {a0 : Nat} (hq : zW148 a0 q = false)   {n : Nat} : ∀ {x1 : Int64} {x3 : Int32} {x4 : Int32} {x5 : Int32} {s : zS}, zf148_13 a0 n x1 x3 x4 x5 s = some (v, s') → s' q = s q := by
  induction n with
  | zero => intro x1 x3 x4 x5 s hF; rw [zf148_13] at hF; cases hF
  | succ n ih =>
    intro x1 x3 x4 x5 s hF
    rw [zf148_13] at hF
    refine zr_if hF (fun hF => ?_) (fun hF => ?_)
    · refine zr_if hF (fun hF => ?_) (fun hF => ?_)
      · exact zr_rb hF
      · refine zr_gf hF (fun v1 hF => ?_)
        refine zr_if hF (fun hF => ?_) (fun hF => ?_)
        · exact zf148_106_fr hq hF
        · exact zr_rb hF
    · refine zr_if hF (fun hF => ?_) (fun hF => ?_)
      · exact zf148_63_fr hq (fun _ _ _ _ _ hF => ih hF) hF
      · refine zr_if hF (fun hF => ?_) (fun hF => ?_)
        · exact zf148_63_fr hq (fun _ _ _ _ _ hF => ih hF) hF
        · refine zr_if hF (fun hF => ?_) (fun hF => ?_)
          · exact zf148_63_fr hq (fun _ _ _ _ _ hF => ih hF) hF
          · refine zr_if hF (fun hF => ?_) (fun hF => ?_)
            · exact zf148_63_fr hq (fun _ _ _ _ _ hF => ih hF) hF
            · exact zf148_63_fr hq (fun _ _ _ _ _ hF => ih hF) hF
theorem zf148_fr {q : Nat} {v : Int32} {s' : zS} {a0 : Nat} (hq : zW148 a0 q = false) {x1 : Int64} {s : zS} (hF : zf148 a0 x1 s = some (v, s')) : s' q = s q := by
  unfold zf148 at hF
  refine zr_pf hF (zo1 (zo2 hq)) (fun s1 hF => ?_)
  exact zf148_13_fr hq hF
def zW149 (a0 : Nat) (q : Nat) : Bool := (q == a0) || false
theorem zf149_fr {q : Nat} {v : Int32} {s' : zS} {a0 : Nat} (hq : zW149 a0 q = false)  {s : zS} (hF : zf149 a0 s = some (v, s')) : s' q = s q := by
  unfold zf149 at hF
  refine zr_pf hF (zo1 hq) (fun s1 hF => ?_)
  refine zr_gf hF (fun v2 hF => ?_)
  refine zr_pf hF (zo1 hq) (fun s3 hF => ?_)
  exact zr_ri hF
def zW150 (a0 : Nat) (q : Nat) : Bool := (q == a0) || false
theorem zf150_fr {q : Nat} {v : Int32} {s' : zS} {a0 : Nat} (hq : zW150 a0 q = false)  {s : zS} (hF : zf150 a0 s = some (v, s')) : s' q = s q := by
  unfold zf150 at hF
  refine zr_pf hF (zo1 hq) (fun s1 hF => ?_)
  refine zr_gf hF (fun v2 hF => ?_)
  exact zr_ri hF
def zW151 (a0 : Nat) (q : Nat) : Bool := (q == a0) || false
theorem zf151_fr {q : Nat} {v : Int32} {s' : zS} {a0 : Nat} (hq : zW151 a0 q = false) {x1 : Int32} {s : zS} (hF : zf151 a0 x1 s = some (v, s')) : s' q = s q := by
  unfold zf151 at hF
  refine zr_pf hF (zo1 hq) (fun s1 hF => ?_)
  refine zr_if hF (fun hF => ?_) (fun hF => ?_)
  · exact zr_ri hF
  · refine zr_gf hF (fun v2 hF => ?_)
    refine zr_if hF (fun hF => ?_) (fun hF => ?_)
    · exact zr_ri hF
    · refine zr_al hF (fun v3 hF => ?_)
      exact zr_ri hF
theorem zf155_fr {q : Nat} {v : Int32} {s' : zS} {a0 : Nat}  {x1 : Int32} {s : zS} (hF : zf155 a0 x1 s = some (v, s')) : s' q = s q := by
  unfold zf155 at hF
  refine zr_gf hF (fun v1 hF => ?_)
  refine zr_if hF (fun hF => ?_) (fun hF => ?_)
  · exact zr_ri hF
  · refine zr_al hF (fun v2 hF => ?_)
    exact zr_ri hF
theorem zf156_fr {q : Nat} {v : Int32} {s' : zS}   {x0 : Int32} {s : zS} (hF : zf156 x0 s = some (v, s')) : s' q = s q := by
  unfold zf156 at hF
  refine zr_if hF (fun hF => ?_) (fun hF => ?_)
  · exact zr_rb hF
  · refine zr_if hF (fun hF => ?_) (fun hF => ?_)
    · exact zr_rb hF
    · exact zr_rb hF
theorem zf157_fr {q : Nat} {v : Int32} {s' : zS}   {x0 : Int32} {s : zS} (hF : zf157 x0 s = some (v, s')) : s' q = s q := by
  unfold zf157 at hF
  refine zr_bi hF (fun _ _ h => zf156_fr h) (fun v1 s2 hF => ?_)
  refine zr_if hF (fun hF => ?_) (fun hF => ?_)
  · refine zr_if hF (fun hF => ?_) (fun hF => ?_)
    · exact zr_ri hF
    · refine zr_if hF (fun hF => ?_) (fun hF => ?_)
      · exact zr_ri hF
      · exact zr_ri hF
  · exact zr_ri hF
def zW154 (a0 : Nat) (q : Nat) : Bool := (q == (zrf a0 5)) || ((q == (zrf a0 6)) || ((q == (zrf a0 4)) || false))
theorem zf154_167_fr {q : Nat} {v : Int32} {s' : zS} {a0 : Nat} (hq : zW154 a0 q = false) {k4 : Int32 → Int32 → zS → Option (Int32 × zS)} (hk4 : ∀ x1 x2 s, k4 x1 x2 s = some (v, s') → s' q = s q) {n : Nat} : ∀ {x1 : Int32} {x2 : Int32} {x3 : Int32} {s : zS}, zf154_167 a0 k4 n x1 x2 x3 s = some (v, s') → s' q = s q := by
  induction n with
  | zero => intro x1 x2 x3 s hF; rw [zf154_167] at hF; cases hF
  | succ n ih =>
    intro x1 x2 x3 s hF
    rw [zf154_167] at hF
    refine zr_if hF (fun hF => ?_) (fun hF => ?_)
    · exact hk4 _ _ _ hF
    · refine zr_bi hF (fun _ _ h => zf155_fr h) (fun v1 s2 hF => ?_)
      refine zr_bi hF (fun _ _ h => zf157_fr h) (fun v3 s4 hF => ?_)
      refine zr_if hF (fun hF => ?_) (fun hF => ?_)
      · exact ih hF
      · exact zr_ri hF
theorem zf154_78_fr {q : Nat} {v : Int32} {s' : zS} {a0 : Nat} (hq : zW154 a0 q = false) {k4 : Int32 → Int32 → zS → Option (Int32 × zS)} (hk4 : ∀ x1 x2 s, k4 x1 x2 s = some (v, s') → s' q = s q) {n : Nat} : ∀ {x1 : Int32} {x2 : Int32} {x3 : Int32} {s : zS}, zf154_78 a0 k4 n x1 x2 x3 s = some (v, s') → s' q = s q := by
  induction n with
  | zero => intro x1 x2 x3 s hF; rw [zf154_78] at hF; cases hF
  | succ n ih =>
    intro x1 x2 x3 s hF
    rw [zf154_78] at hF
    refine zr_if hF (fun hF => ?_) (fun hF => ?_)
    · refine zr_as hF (zo1 hq) (fun s1 hF => ?_)
      refine zr_al hF (fun v2 hF => ?_)
      refine zr_gf hF (fun v3 hF => ?_)
      refine zr_if hF (fun hF => ?_) (fun hF => ?_)
      · exact zf154_167_fr hq hk4 hF
      · refine zr_gf hF (fun v4 hF => ?_)
        exact zr_ri hF
    · refine zr_bi hF (fun _ _ h => zf155_fr h) (fun v5 s6 hF => ?_)
      refine zr_bi hF (fun _ _ h => zf156_fr h) (fun v7 s8 hF => ?_)
      refine zr_if hF (fun hF => ?_) (fun hF => ?_)
      · refine zr_al hF (fun v9 hF => ?_)
        refine zr_bi hF (fun _ _ h => zf155_fr h) (fun v10 s11 hF => ?_)
        refine zr_as hF (zo1 (zo2 hq)) (fun s12 hF => ?_)
        exact ih hF
      · exact zr_ri hF
theorem zf154_25_fr {q : Nat} {v : Int32} {s' : zS} {a0 : Nat} (hq : zW154 a0 q = false) {k4 : Int32 → Int32 → zS → Option (Int32 × zS)} (hk4 : ∀ x1 x2 s, k4 x1 x2 s = some (v, s') → s' q = s q) {x1 : Int32} {x2 : Int32} {t0 : Int32} {t1 : Int32} {s : zS} (hF : zf154_25 a0 k4 x1 x2 t0 t1 s = some (v, s')) : s' q = s q := by
  unfold zf154_25 at hF
  refine zr_if hF (fun hF => ?_) (fun hF => ?_)
  · refine zr_bi hF (fun _ _ h => zf155_fr h) (fun v1 s2 hF => ?_)
    refine zr_as hF (zo1 (zo2 (zo2 hq))) (fun s3 hF => ?_)
    refine zr_al hF (fun v4 hF => ?_)
    refine zr_if hF (fun hF => ?_) (fun hF => ?_)
    · refine zr_as hF (zo1 (zo2 hq)) (fun s5 hF => ?_)
      exact zf154_78_fr hq hk4 hF
    · refine zr_al hF (fun v6 hF => ?_)
      refine zr_if hF (fun hF => ?_) (fun hF => ?_)
      · refine zr_as hF (zo1 (zo2 hq)) (fun s7 hF => ?_)
        exact zf154_78_fr hq hk4 hF
      · exact zr_ri hF
  · exact zr_ri hF
theorem zf154_4_fr {q : Nat} {v : Int32} {s' : zS} {a0 : Nat} (hq : zW154 a0 q = false)   {n : Nat} : ∀ {x1 : Int32} {x2 : Int32} {s : zS}, zf154_4 a0 n x1 x2 s = some (v, s') → s' q = s q := by
  induction n with
  | zero => intro x1 x2 s hF; rw [zf154_4] at hF; cases hF
  | succ n ih =>
    intro x1 x2 s hF
    rw [zf154_4] at hF
    refine zr_if hF (fun hF => ?_) (fun hF => ?_)
    · refine zr_gf hF (fun v1 hF => ?_)
      refine zr_if hF (fun hF => ?_) (fun hF => ?_)
      · exact zr_ri hF
      · exact zr_ri hF
    · refine zr_bi hF (fun _ _ h => zf155_fr h) (fun v2 s3 hF => ?_)
      refine zr_if hF (fun hF => ?_) (fun hF => ?_)
      · exact zf154_25_fr hq (fun _ _ _ hF => ih hF) hF
      · exact zf154_25_fr hq (fun _ _ _ hF => ih hF) hF
theorem zf154_fr {q : Nat} {v : Int32} {s' : zS} {a0 : Nat} (hq : zW154 a0 q = false)  {s : zS} (hF : zf154 a0 s = some (v, s')) : s' q = s q := by
  unfold zf154 at hF
  exact zf154_4_fr hq hF
def zW158 (a0 : Nat) (q : Nat) : Bool := (q == a0) || false
theorem zf158_fr {q : Nat} {v : Int32} {s' : zS} {a0 : Nat} (hq : zW158 a0 q = false) {x1 : Int32} {x2 : Int32} {s : zS} (hF : zf158 a0 x1 x2 s = some (v, s')) : s' q = s q := by
  unfold zf158 at hF
  refine zr_pf hF (zo1 hq) (fun s1 hF => ?_)
  exact zr_ri hF
theorem zf161_fr {q : Nat} {v : Int32} {s' : zS} {a0 : Nat}  {x1 : Int32} {x2 : Int32} {x3 : Int32} {s : zS} (hF : zf161 a0 x1 x2 x3 s = some (v, s')) : s' q = s q := by
  unfold zf161 at hF
  refine zr_if hF (fun hF => ?_) (fun hF => ?_)
  · exact zr_ri hF
  · refine zr_al hF (fun v1 hF => ?_)
    refine zr_bi hF (fun _ _ h => zf156_fr h) (fun v2 s3 hF => ?_)
    refine zr_if hF (fun hF => ?_) (fun hF => ?_)
    · exact zr_ri hF
    · refine zr_al hF (fun v4 hF => ?_)
      refine zr_bi hF (fun _ _ h => zf156_fr h) (fun v5 s6 hF => ?_)
      refine zr_if hF (fun hF => ?_) (fun hF => ?_)
      · exact zr_ri hF
      · refine zr_al hF (fun v7 hF => ?_)
        refine zr_bi hF (fun _ _ h => zf156_fr h) (fun v8 s9 hF => ?_)
        refine zr_if hF (fun hF => ?_) (fun hF => ?_)
        · refine zr_al hF (fun v10 hF => ?_)
          refine zr_al hF (fun v11 hF => ?_)
          refine zr_if hF (fun hF => ?_) (fun hF => ?_)
          · exact zr_ri hF
          · refine zr_if hF (fun hF => ?_) (fun hF => ?_)
            · refine zr_al hF (fun v12 hF => ?_)
              exact zr_ri hF
            · exact zr_ri hF
        · exact zr_ri hF
